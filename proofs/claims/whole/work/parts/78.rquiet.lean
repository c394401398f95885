/-! ===== PURE, the reference: quiet hours, lowest terms ===== -/

theorem r_isQuiet {d : Nat} {sh : im_Sh} {mi : im_MI} {mr : im_MR} (hC : pu_C sh mr) {H K : ho_T} {G : ho_G} {m0 : im_MI} (hz : rz_ H K G m0 mi) {m h : Nat} (hm : m < 6) (hh : h < 12) : EvM (d + 4) 178 [.ref 110, .int (nI m), .int (nI h)] sh mi mr (fun r sh2 m2 r2 => sh2 = sh ∧ (r = .int (pu_b (ho_quiet H G m h = true)) ∧ r2 = mr ∧ sc_ sS mi m2)) := by
  show Ev (d + 4) 178 0 [.ref 110, .int (nI m), .int (nI h), im_bad] [] sh mi mr _
  have hn6 := rz_n hz
  refine ev_s (is_aload_n rfl rfl) ?_
  refine ev_s (is_iload_n rfl rfl) ?_
  refine ev_c1 (is_callR 2 [_] [] rfl rfl rfl rfl rfl (Nat.le_of_ble_eq_true rfl) rfl rfl rfl (pu_s hC 110 rfl rfl)) rfl rfl (r_mateOf hC hz.1 (m := m) hm) ?_
  rcases eo : ho_mate H m with _ | q
  · have hqd : ho_quiet H G m h = true := by unfold ho_quiet; rw [eo]; skip
    refine ev_s (st_istore_n_3 rfl rfl) ?_
    refine ev_s (is_iload_n rfl rfl) ?_
    refine ev_s (is_iconst ((-1)) rfl rfl) ?_
    refine ev_s (is_icmp_eq_t rfl rfl) ?_
    refine ev_s (is_iconst (nI 1) rfl rfl) ?_
    refine ev_s (is_goto rfl) ?_
    refine ev_ret (is_ireturn rfl rfl (by first | rfl | exact pu_b_nar | decide)) ?_
    exact ⟨rfl, pu_b_t hqd, rfl, sc_rf⟩
  · have hql := ho_mate_lt eo
    show Ev _ _ _ [_, _, _, _] [.int (nI q)] _ _ _ _
    refine ev_s (st_istore_n_3 rfl rfl) ?_
    refine ev_s (is_iload_n rfl rfl) ?_
    refine ev_s (is_iconst ((-1)) rfl rfl) ?_
    refine ev_s (is_icmp_eq_f rfl (pu_n1 (by omega))) ?_
    refine ev_s (is_aload_n rfl rfl) ?_
    refine ev_s (is_iload_n rfl rfl) ?_
    refine ev_s (is_iload_n rfl rfl) ?_
    refine ev_q1 (is_callR 3 [_, _] [] rfl rfl rfl rfl rfl (Nat.le_of_ble_eq_true rfl) rfl rfl rfl (pu_s hC 110 rfl rfl)) rfl rfl (r_companyOf hC hz.1 (m := m) (h := h) hm hh) (fun r_14 mi mr hq_14 => ?_)
    obtain ⟨rfl, hmr, hsc⟩ := hq_14
    have hmr := hmr.symm
    subst hmr
    have hcl := ho_comp_le H G (rz_bd hz) m h
    have hz := rz_sS hz hsc
    refine ev_ifN_ne rfl (by omega) (fun h_17 => ?_) (fun h_17 => ?_)
    · have hqd : ho_quiet H G m h = false := by unfold ho_quiet; rw [eo]; exact decide_eq_false (fun z => h_17 z.1)
      refine ev_s (is_iconst (nI 0) rfl rfl) ?_
      refine ev_ret (is_ireturn rfl rfl (by first | rfl | exact pu_b_nar | decide)) ?_
      first
        | exact ⟨rfl, pu_b_t hqd, rfl, hsc.trans hsc2⟩
        | exact ⟨rfl, pu_b_f (by rw [hqd]; decide), rfl, hsc.trans hsc2⟩
        | exact ⟨rfl, pu_b_f (by rw [hqd]; decide), rfl, hsc⟩
    · refine ev_s (is_aload_n rfl rfl) ?_
      refine ev_s (is_iload_n rfl rfl) ?_
      refine ev_s (is_iconst (nI 0) rfl rfl) ?_
      refine ev_s (is_iconst (nI 5) rfl rfl) ?_
      refine ev_c1 (is_call0 3 [_, _, _] [_] rfl rfl rfl rfl rfl (Nat.le_of_ble_eq_true rfl) rfl rfl rfl) rfl rfl (r_within _ _ _) ?_
      rw [pu_cl_in (lo := 0) (v := q) (hi := 5) (by omega) (by omega) (by decide)]
      refine ev_s (is_iload_n rfl rfl) ?_
      refine ev_q1 (is_callR 3 [_, _] [] rfl rfl rfl rfl rfl (Nat.le_of_ble_eq_true rfl) rfl rfl rfl (pu_s hC 110 rfl rfl)) rfl rfl (r_companyOf hC hz.1 (m := q) (h := h) (by omega) hh) (fun r_28 mi mr hq_28 => ?_)
      obtain ⟨rfl, hmr, hsc2⟩ := hq_28
      have hmr := hmr.symm
      subst hmr
      have hcl2 := ho_comp_le H G (rz_bd hz) q h
      refine ev_ifN_ne rfl (by omega) (fun h_31 => ?_) (fun h_31 => ?_)
      · have hqd : ho_quiet H G m h = false := by unfold ho_quiet; rw [eo]; exact decide_eq_false (fun z => h_31 z.2)
        refine ev_s (is_iconst (nI 0) rfl rfl) ?_
        refine ev_ret (is_ireturn rfl rfl (by first | rfl | exact pu_b_nar | decide)) ?_
        first
          | exact ⟨rfl, pu_b_t hqd, rfl, hsc.trans hsc2⟩
          | exact ⟨rfl, pu_b_f (by rw [hqd]; decide), rfl, hsc.trans hsc2⟩
          | exact ⟨rfl, pu_b_f (by rw [hqd]; decide), rfl, hsc⟩
      · have hqd : ho_quiet H G m h = true := by unfold ho_quiet; rw [eo]; exact decide_eq_true ⟨h_17, h_31⟩
        refine ev_s (is_iconst (nI 1) rfl rfl) ?_
        refine ev_s (is_goto rfl) ?_
        refine ev_ret (is_ireturn rfl rfl (by first | rfl | exact pu_b_nar | decide)) ?_
        first
          | exact ⟨rfl, pu_b_t hqd, rfl, hsc.trans hsc2⟩
          | exact ⟨rfl, pu_b_f (by rw [hqd]; decide), rfl, hsc.trans hsc2⟩
          | exact ⟨rfl, pu_b_f (by rw [hqd]; decide), rfl, hsc⟩

theorem r_quietBy {d : Nat} {sh : im_Sh} {mi : im_MI} {mr : im_MR} (hC : pu_C sh mr) {H K : ho_T} {G : ho_G} {m0 : im_MI} (hz : rz_ H K G m0 mi) {m h : Nat} (hm : m < 6) (hh : h < 12) : EvM (d + 5) 179 [.ref 110, .int (nI m), .int (nI h)] sh mi mr (fun r sh2 m2 r2 => sh2 = sh ∧ (r = .int (nI (lo_bits (fun d => ho_qd H G m h d) 6)) ∧ r2 = mr ∧ rz_ H K G m0 m2)) := by
  show Ev (d + 5) 179 0 [.ref 110, .int (nI m), .int (nI h), im_bad, im_bad, im_bad] [] sh mi mr _
  have hdo := (rz_bd hz).2.2.2.2.2.2.2.1 m h hh
  have loop : ∀ (j i : Nat) (Hc : ho_T) (ma : im_MI), i + j = 6 → rz_ Hc K G m0 ma → (∀ u, ho_set Hc (10 + m) h u = ho_set H (10 + m) h u) → Ev (d + 5) 179 18 [.ref 110, .int (nI m), .int (nI h), .int (nI (H (10 + m) h)), .int (nI (lo_bits (fun d => ho_qd H G m h d) i)), .int (nI i)] [] sh ma mr (fun r sh2 m2 r2 => sh2 = sh ∧ (r = .int (nI (lo_bits (fun d => ho_qd H G m h d) 6)) ∧ r2 = mr ∧ rz_ H K G m0 m2)) := by
    intro j
    induction j with
    | zero =>
      intro i Hc ma hi hz hset
      refine ev_s (is_iload rfl rfl) ?_
      refine ev_s (is_bipush (nI 6) rfl rfl) ?_
      refine ev_s (is_icmp_ge_t rfl (nI_le (by omega) (by omega))) ?_
      refine ev_s (is_aload_n rfl rfl) ?_
      refine ev_s (is_getR rfl (pu_s hC 110 rfl rfl) rfl rfl (pu_r hC 110 3 rfl rfl)) ?_
      refine ev_s (is_bipush (nI 14) rfl rfl) ?_
      refine ev_s (is_iload_n rfl rfl) ?_
      first
        | refine ev_s (is_imul _ rfl (pk_mul _ _)) ?_
        | refine ev_s (is_imul _ rfl rfl) ?_
      refine ev_s (is_iload_n rfl rfl) ?_
      first
        | refine ev_s (is_iadd _ rfl (nI_add _ _)) ?_
        | refine ev_s (is_iadd _ rfl rfl) ?_
      refine ev_s (is_iload_n rfl rfl) ?_
      refine ev_s (is_iastore (14 * m + h) rfl (pu_s hC 113 rfl rfl) rfl rfl (by omega)) ?_
      refine ev_s (is_iload rfl rfl) ?_
      refine ev_ret (is_ireturn rfl rfl (by first | rfl | exact pu_b_nar | decide)) ?_
      have hz := rz_row hz (m := m) (w := h) (v := H (10 + m) h) hm (by omega) (ho_bd_put (rz_bd hz) (Or.inl ⟨hh, hdo⟩))
      rw [hset, ho_set_same] at hz
      exact ⟨rfl, by rw [show i = 6 by omega], rfl, hz⟩
    | succ j ih =>
      intro i Hc ma hi hz hset
      refine ev_s (is_iload rfl rfl) ?_
      refine ev_s (is_bipush (nI 6) rfl rfl) ?_
      refine ev_s (is_icmp_ge_f rfl (nI_ge (by omega) (by omega))) ?_
      refine ev_s (is_aload_n rfl rfl) ?_
      refine ev_s (is_getR rfl (pu_s hC 110 rfl rfl) rfl rfl (pu_r hC 110 3 rfl rfl)) ?_
      refine ev_s (is_bipush (nI 14) rfl rfl) ?_
      refine ev_s (is_iload_n rfl rfl) ?_
      first
        | refine ev_s (is_imul _ rfl (pk_mul _ _)) ?_
        | refine ev_s (is_imul _ rfl rfl) ?_
      refine ev_s (is_iload_n rfl rfl) ?_
      first
        | refine ev_s (is_iadd _ rfl (nI_add _ _)) ?_
        | refine ev_s (is_iadd _ rfl rfl) ?_
      refine ev_s (is_iload rfl rfl) ?_
      refine ev_s (is_iastore (14 * m + h) rfl (pu_s hC 113 rfl rfl) rfl rfl (by omega)) ?_
      have hz := rz_row hz (m := m) (w := h) (v := i) hm (by omega) (ho_bd_put (rz_bd hz) (Or.inl ⟨hh, by omega⟩))
      rw [hset i] at hz
      refine ev_s (is_iload rfl rfl) ?_
      refine ev_s (is_aload_n rfl rfl) ?_
      refine ev_s (is_iload_n rfl rfl) ?_
      refine ev_s (is_iload_n rfl rfl) ?_
      refine ev_q1 (is_callR 3 [_, _] [_] rfl rfl rfl rfl rfl (Nat.le_of_ble_eq_true rfl) rfl rfl rfl (pu_s hC 110 rfl rfl)) rfl rfl (r_isQuiet hC hz (m := m) (h := h) hm hh) (fun r_43 mi mr hq_43 => ?_)
      obtain ⟨rfl, hmr, hsc⟩ := hq_43
      have hmr := hmr.symm
      subst hmr
      have hz := rz_sS hz hsc
      refine ev_ifB_eq rfl (fun h_46 => ?_) (fun h_46 => ?_)
      · have hp : ho_qd H G m h i = false := by unfold ho_qd; exact Bool.eq_false_iff.mpr h_46
        refine ev_s (is_iconst (nI 0) rfl rfl) ?_
        have hbl := lo_bits_lt (fun d => ho_qd H G m h d) i
        first
          | refine ev_s (is_ior _ rfl (pu_or hbl)) ?_
          | refine ev_s (is_ior _ rfl (pu_or0 _)) ?_
        refine ev_s (st_istore_4 rfl rfl) ?_
        refine ev_s (st_iinc_5 _ rfl rfl (nI_inc _)) ?_
        refine ev_s (is_goto rfl) ?_
        have := ih (i + 1) _ _ (by omega) hz (fun u => ho_set_set _ _ _ _ _)
        rw [lo_bits_s] at this
        first
          | (rw [if_pos hp] at this; exact this)
          | (rw [if_neg (fun q => absurd (hp.symm.trans q) (by decide)), Nat.add_zero] at this; exact this)
      · have hp : ho_qd H G m h i = true := h_46
        refine ev_s (is_iconst (nI 1) rfl rfl) ?_
        refine ev_s (is_iload rfl rfl) ?_
        refine ev_s (is_ishl _ rfl (pu_shl1 (by omega))) ?_
        refine ev_s (is_goto rfl) ?_
        have hbl := lo_bits_lt (fun d => ho_qd H G m h d) i
        first
          | refine ev_s (is_ior _ rfl (pu_or hbl)) ?_
          | refine ev_s (is_ior _ rfl (pu_or0 _)) ?_
        refine ev_s (st_istore_4 rfl rfl) ?_
        refine ev_s (st_iinc_5 _ rfl rfl (nI_inc _)) ?_
        refine ev_s (is_goto rfl) ?_
        have := ih (i + 1) _ _ (by omega) hz (fun u => ho_set_set _ _ _ _ _)
        rw [lo_bits_s] at this
        first
          | (rw [if_pos hp] at this; exact this)
          | (rw [if_neg (fun q => absurd (hp.symm.trans q) (by decide)), Nat.add_zero] at this; exact this)
  refine ev_s (is_aload_n rfl rfl) ?_
  refine ev_s (is_getR rfl (pu_s hC 110 rfl rfl) rfl rfl (pu_r hC 110 3 rfl rfl)) ?_
  refine ev_s (is_bipush (nI 14) rfl rfl) ?_
  refine ev_s (is_iload_n rfl rfl) ?_
  first
    | refine ev_s (is_imul _ rfl (pk_mul _ _)) ?_
    | refine ev_s (is_imul _ rfl rfl) ?_
  refine ev_s (is_iload_n rfl rfl) ?_
  first
    | refine ev_s (is_iadd _ rfl (nI_add _ _)) ?_
    | refine ev_s (is_iadd _ rfl rfl) ?_
  refine ev_s (is_iaload' (14 * m + h) rfl (pu_s hC 113 rfl rfl) rfl rfl (by omega) (rz_at hz hm (by omega))) ?_
  refine ev_s (st_istore_n_3 rfl rfl) ?_
  refine ev_s (is_iconst (nI 0) rfl rfl) ?_
  refine ev_s (st_istore_4 rfl rfl) ?_
  refine ev_s (is_iconst (nI 0) rfl rfl) ?_
  refine ev_s (st_istore_5 rfl rfl) ?_
  exact loop 6 0 H mi (by omega) hz (fun _ => rfl)

theorem r_ones {d : Nat} {sh : im_Sh} {mi : im_MI} {mr : im_MR} {s : Nat} (hs : s < 4096) : EvM (d) 176 [.int (nI s)] sh mi mr (ev_R sh (.int (nI (on_ s))) mi mr) := by
  show Ev (d) 176 0 [.int (nI s), im_bad, im_bad] [] sh mi mr _
  have loop : ∀ (j i : Nat), i + j = 12 → Ev (d) 176 4 [.int (nI s), .int (nI (lo_sum (fun h => s / 2 ^ h % 2) i)), .int (nI i)] [] sh mi mr (ev_R sh (.int (nI (on_ s))) mi mr) := by
    intro j
    induction j with
    | zero =>
      intro i  hi 
      refine ev_s (is_iload_n rfl rfl) ?_
      refine ev_s (is_bipush (nI 12) rfl rfl) ?_
      refine ev_s (is_icmp_ge_t rfl (nI_le (by omega) (by omega))) ?_
      refine ev_s (is_iload_n rfl rfl) ?_
      refine ev_ret (is_ireturn rfl rfl (by first | rfl | exact pu_b_nar | decide)) ?_
      exact ⟨by rw [show i = 12 by omega]; rfl, rfl, rfl, rfl⟩
    | succ j ih =>
      intro i  hi 
      refine ev_s (is_iload_n rfl rfl) ?_
      refine ev_s (is_bipush (nI 12) rfl rfl) ?_
      refine ev_s (is_icmp_ge_f rfl (nI_ge (by omega) (by omega))) ?_
      refine ev_s (is_iload_n rfl rfl) ?_
      refine ev_s (is_iload_n rfl rfl) ?_
      refine ev_s (is_iload_n rfl rfl) ?_
      refine ev_s (is_ishr _ rfl (nI_shr (by omega) (by omega))) ?_
      refine ev_s (is_iconst (nI 1) rfl rfl) ?_
      refine ev_s (is_iand _ rfl (nI_and1 (by have := Nat.div_le_self s (2 ^ i); omega))) ?_
      first
        | refine ev_s (is_iadd _ rfl (nI_add _ _)) ?_
        | refine ev_s (is_iadd _ rfl rfl) ?_
      refine ev_s (st_istore_n_1 rfl rfl) ?_
      refine ev_s (st_iinc_2 _ rfl rfl (nI_inc _)) ?_
      refine ev_s (is_goto rfl) ?_
      exact ih (i + 1) (by omega)
  refine ev_s (is_iconst (nI 0) rfl rfl) ?_
  refine ev_s (st_istore_n_1 rfl rfl) ?_
  refine ev_s (is_iconst (nI 0) rfl rfl) ?_
  refine ev_s (st_istore_n_2 rfl rfl) ?_
  exact loop 12 0 (by omega)

theorem r_codes {d : Nat} {sh : im_Sh} {mi : im_MI} {mr : im_MR} (hC : pu_C sh mr) {H K : ho_T} {G : ho_G} (hz : rz_ H K G mi mi) (m n : Int32) : EvM (d + 6) 180 [.ref 110, .int m, .int n] sh mi mr (fun r sh2 m2 r2 => sh2 = sh ∧ (r = .long (an_codes H G m n) ∧ r2 = mr ∧ rz_ (H) (K) G mi m2)) := by
  show Ev (d + 6) 180 0 [.ref 110, .int m, .int n, im_bad, im_bad, im_bad] [] sh mi mr _
  have hn6 := rz_n hz
  refine ev_s (is_aload_n rfl rfl) ?_
  refine ev_s (is_iload_n rfl rfl) ?_
  refine ev_c1 (is_callR 2 [_] [] rfl rfl rfl rfl rfl (Nat.le_of_ble_eq_true rfl) rfl rfl rfl (pu_s hC 110 rfl rfl)) rfl rfl (r_isMan' hC hz.1 _) ?_
  refine ev_ifB_eq rfl (fun h_5 => ?_) (fun h_5 => ?_)
  · refine ev_s (is_ldc2 ((-4611686018427387904)) rfl rfl) ?_
    refine ev_ret (is_lreturn rfl) ?_
    refine ⟨rfl, ?_, rfl, hz⟩
    simp [an_codes, h_5]
    all_goals (try rfl)
  · obtain ⟨m0, rfl, hm0, em0⟩ := ho_isM_n hn6 h_5
    have hm6 : m0 < 6 := by omega
    refine ev_s (is_iload_n rfl rfl) ?_
    refine ev_s (is_iconst (nI 0) rfl rfl) ?_
    refine ev_s (is_bipush (nI 12) rfl rfl) ?_
    refine ev_c1 (is_call0 3 [_, _, _] [] rfl rfl rfl rfl rfl (Nat.le_of_ble_eq_true rfl) rfl rfl rfl) rfl rfl (r_in' _ _ _) ?_
    refine ev_ifB_ne rfl (fun h_15 => ?_) (fun h_15 => ?_)
    · obtain ⟨n0, rfl, ln0, un0, en0⟩ := ho_rng_n h_15 (by decide) (by decide)
      refine ev_s (is_lconst (lN 1) rfl rfl) ?_
      refine ev_s (st_lstore_n_3 rfl rfl) ?_
      refine ev_s (is_iconst (nI 0) rfl rfl) ?_
      refine ev_s (st_istore_5 rfl rfl) ?_
      rw [show an_codes H G (nI m0) (nI n0) = lN (lo_prod (fun h => on_ (ho_qb H G m0 h)) n0) by simp [an_codes, h_5, em0, h_15, en0]]
      have loop : ∀ (j i : Nat) (ma : im_MI), i + j = n0 → rz_ H K G mi ma → Ev (d + 6) 180 27 [.ref 110, .int (nI m0), .int (nI n0), .long (lN (lo_prod (fun h => on_ (ho_qb H G m0 h)) i)), im_bad, .int (nI i)] [] sh ma mr (fun r sh2 m2 r2 => sh2 = sh ∧ (r = .long (lN (lo_prod (fun h => on_ (ho_qb H G m0 h)) n0)) ∧ r2 = mr ∧ rz_ (H) (K) G mi m2)) := by
        intro j
        induction j with
        | zero =>
          intro i ma hi hz
          refine ev_s (is_iload rfl rfl) ?_
          refine ev_s (is_iload_n rfl rfl) ?_
          refine ev_s (is_icmp_ge_t rfl (nI_le (by omega) (by omega))) ?_
          refine ev_s (is_lload_n rfl rfl) ?_
          refine ev_ret (is_lreturn rfl) ?_
          exact ⟨rfl, by rw [show i = n0 by omega], rfl, hz⟩
        | succ j ih =>
          intro i ma hi hz
          refine ev_s (is_iload rfl rfl) ?_
          refine ev_s (is_iload_n rfl rfl) ?_
          refine ev_s (is_icmp_ge_f rfl (nI_ge (by omega) (by omega))) ?_
          refine ev_s (is_lload_n rfl rfl) ?_
          refine ev_s (is_aload_n rfl rfl) ?_
          refine ev_s (is_iload_n rfl rfl) ?_
          refine ev_s (is_iload rfl rfl) ?_
          refine ev_q1 (is_callR 3 [_, _] [_] rfl rfl rfl rfl rfl (Nat.le_of_ble_eq_true rfl) rfl rfl rfl (pu_s hC 110 rfl rfl)) rfl rfl (r_quietBy hC hz (m := m0) (h := i) hm6 (by omega)) (fun r_38 mi mr hq_38 => ?_)
          obtain ⟨rfl, hmr, hz⟩ := hq_38
          have hmr := hmr.symm
          subst hmr
          rw [show lo_bits (fun d => ho_qd H G m0 i d) 6 = ho_qb H G m0 i from rfl]
          have hqb := ho_qb_lt H G m0 i
          refine ev_c1 (is_call0 1 [_] [_] rfl rfl rfl rfl rfl (Nat.le_of_ble_eq_true rfl) rfl rfl rfl) rfl rfl (r_ones (s := ho_qb H G m0 i) (by omega)) ?_
          have hon := on_le (ho_qb H G m0 i)
          refine ev_s (is_i2l _ rfl (nI_l (by omega))) ?_
          refine ev_s (is_lmul _ rfl (lN_mul _ _)) ?_
          refine ev_s (st_lstore_n_3 rfl rfl) ?_
          refine ev_s (st_iinc_5 _ rfl rfl (nI_inc _)) ?_
          refine ev_s (is_goto rfl) ?_
          exact ih (i + 1) _ (by omega) hz
      exact loop n0 0 mi (by omega) hz
    · refine ev_s (is_ldc2 ((-4611686018427387904)) rfl rfl) ?_
      refine ev_ret (is_lreturn rfl) ?_
      refine ⟨rfl, ?_, rfl, hz⟩
      simp [an_codes, h_5, em0, h_15]
      all_goals (try rfl)

theorem ls_some : ∀ s, s < 64 → s ≠ 0 → (ls_ s).isSome = true := by decide
theorem ls_zero : ls_ 0 = none := by decide

theorem r_lowestOf {d : Nat} {sh : im_Sh} {mi : im_MI} {mr : im_MR} {s l : Nat} (hs : s < 64) (hl : ls_ s = some l) : EvM (d) 181 [.int (nI s)] sh mi mr (ev_R sh (.int (nI l)) mi mr) := by
  show Ev (d) 181 0 [.int (nI s), im_bad] [] sh mi mr _
  have loop : ∀ (j i : Nat), i + j = 6 → lo_find (fun q => decide (s / 2 ^ q % 2 = 1)) j i = some l → Ev (d) 181 2 [.int (nI s), .int (nI i)] [] sh mi mr (ev_R sh (.int (nI l)) mi mr) := by
    intro j
    induction j with
    | zero =>
      intro i  hi hl
      cases hl
    | succ j ih =>
      intro i  hi hl
      refine ev_s (is_iload_n rfl rfl) ?_
      refine ev_s (is_iload_n rfl rfl) ?_
      refine ev_s (is_ishr _ rfl (nI_shr (by omega) (by omega))) ?_
      refine ev_s (is_iconst (nI 1) rfl rfl) ?_
      have hdl := Nat.div_le_self s (2 ^ i)
      refine ev_s (is_iand _ rfl (nI_and1 (by omega))) ?_
      have hm2 := Nat.mod_lt (s / 2 ^ i) (show 0 < 2 by decide)
      refine ev_ifN_ne rfl (by omega) (fun h_7 => ?_) (fun h_7 => ?_)
      · refine ev_s (is_iload_n rfl rfl) ?_
        refine ev_ret (is_ireturn rfl rfl (by first | rfl | exact pu_b_nar | decide)) ?_
        rw [lo_find_t (decide_eq_true (by omega))] at hl
        cases hl
        exact ⟨rfl, rfl, rfl, rfl⟩
      · refine ev_s (st_iinc_1 _ rfl rfl (nI_inc _)) ?_
        refine ev_s (is_goto rfl) ?_
        rw [lo_find_f (decide_eq_false (by omega))] at hl
        exact ih (i + 1) (by omega) hl
  refine ev_s (is_iconst (nI 0) rfl rfl) ?_
  refine ev_s (st_istore_n_1 rfl rfl) ?_
  exact loop 6 0 (by omega) hl

theorem r_code {d : Nat} {sh : im_Sh} {mi : im_MI} {mr : im_MR} (hC : pu_C sh mr) {H K : ho_T} {G : ho_G} (hz : rz_ H K G mi mi) (m n : Int32) : EvM (d + 6) 182 [.ref 110, .int m, .int n] sh mi mr (fun r sh2 m2 r2 => sh2 = sh ∧ (r = .int (an_code H G m n) ∧ r2 = mr ∧ rz_ (H) (K) G mi m2)) := by
  show Ev (d + 6) 182 0 [.ref 110, .int m, .int n, im_bad, im_bad, im_bad] [] sh mi mr _
  have hn6 := rz_n hz
  refine ev_s (is_aload_n rfl rfl) ?_
  refine ev_s (is_iload_n rfl rfl) ?_
  refine ev_c1 (is_callR 2 [_] [] rfl rfl rfl rfl rfl (Nat.le_of_ble_eq_true rfl) rfl rfl rfl (pu_s hC 110 rfl rfl)) rfl rfl (r_isMan' hC hz.1 _) ?_
  refine ev_ifB_ne rfl (fun h_5 => ?_) (fun h_5 => ?_)
  · obtain ⟨m0, rfl, hm0, em0⟩ := ho_isM_n hn6 h_5
    have hm6 : m0 < 6 := by omega
    refine ev_s (is_iload_n rfl rfl) ?_
    refine ev_s (is_iconst (nI 0) rfl rfl) ?_
    refine ev_s (is_bipush (nI 9) rfl rfl) ?_
    refine ev_c1 (is_call0 3 [_, _, _] [] rfl rfl rfl rfl rfl (Nat.le_of_ble_eq_true rfl) rfl rfl rfl) rfl rfl (r_in' _ _ _) ?_
    refine ev_ifB_ne rfl (fun h_18 => ?_) (fun h_18 => ?_)
    · obtain ⟨n0, rfl, ln0, un0, en0⟩ := ho_rng_n h_18 (by decide) (by decide)
      refine ev_s (is_iconst (nI 0) rfl rfl) ?_
      refine ev_s (st_istore_n_3 rfl rfl) ?_
      refine ev_s (is_iconst (nI 0) rfl rfl) ?_
      refine ev_s (st_istore_4 rfl rfl) ?_
      rw [show an_code H G (nI m0) (nI n0) = pu_o (cd_run (fun h => ls_ (ho_qb H G m0 h)) n0) by simp [an_code, h_5, em0, h_18, en0]]
      have loop : ∀ (j i : Nat) (v : Nat) (w5 : Value) (ma : im_MI), i + j = n0 → rz_ H K G mi ma → cd_run (fun h => ls_ (ho_qb H G m0 h)) i = some v → Ev (d + 6) 182 29 [.ref 110, .int (nI m0), .int (nI n0), .int (nI v), .int (nI i), w5] [] sh ma mr (fun r sh2 m2 r2 => sh2 = sh ∧ (r = .int (pu_o (cd_run (fun h => ls_ (ho_qb H G m0 h)) n0)) ∧ r2 = mr ∧ rz_ (H) (K) G mi m2)) := by
        intro j
        induction j with
        | zero =>
          intro i v w5 ma hi hz hcd
          refine ev_s (is_iload rfl rfl) ?_
          refine ev_s (is_iload_n rfl rfl) ?_
          refine ev_s (is_icmp_ge_t rfl (nI_le (by omega) (by omega))) ?_
          refine ev_s (is_iload_n rfl rfl) ?_
          refine ev_ret (is_ireturn rfl rfl (by first | rfl | exact pu_b_nar | decide)) ?_
          exact ⟨rfl, by rw [show n0 = i by omega, hcd]; rfl, rfl, hz⟩
        | succ j ih =>
          intro i v w5 ma hi hz hcd
          refine ev_s (is_iload rfl rfl) ?_
          refine ev_s (is_iload_n rfl rfl) ?_
          refine ev_s (is_icmp_ge_f rfl (nI_ge (by omega) (by omega))) ?_
          refine ev_s (is_aload_n rfl rfl) ?_
          refine ev_s (is_iload_n rfl rfl) ?_
          refine ev_s (is_iload rfl rfl) ?_
          refine ev_q1 (is_callR 3 [_, _] [] rfl rfl rfl rfl rfl (Nat.le_of_ble_eq_true rfl) rfl rfl rfl (pu_s hC 110 rfl rfl)) rfl rfl (r_quietBy hC hz (m := m0) (h := i) hm6 (by omega)) (fun r_39 mi mr hq_39 => ?_)
          obtain ⟨rfl, hmr, hz⟩ := hq_39
          have hmr := hmr.symm
          subst hmr
          rw [show lo_bits (fun d => ho_qd H G m0 i d) 6 = ho_qb H G m0 i from rfl]
          have hqb := ho_qb_lt H G m0 i
          refine ev_s (st_istore_5 rfl rfl) ?_
          refine ev_s (is_iload rfl rfl) ?_
          refine ev_ifN_ne rfl (by omega) (fun h_46 => ?_) (fun h_46 => ?_)
          · obtain ⟨l, el⟩ := Option.isSome_iff_exists.mp (ls_some _ hqb h_46)
            refine ev_s (is_bipush (nI 10) rfl rfl) ?_
            refine ev_s (is_iload_n rfl rfl) ?_
            first
              | refine ev_s (is_imul _ rfl (pk_mul _ _)) ?_
              | refine ev_s (is_imul _ rfl rfl) ?_
            refine ev_s (is_iload rfl rfl) ?_
            refine ev_c1 (is_call0 1 [_] [_] rfl rfl rfl rfl rfl (Nat.le_of_ble_eq_true rfl) rfl rfl rfl) rfl rfl (r_lowestOf (s := ho_qb H G m0 i) (l := l) hqb el) ?_
            first
              | refine ev_s (is_iadd _ rfl (nI_add _ _)) ?_
              | refine ev_s (is_iadd _ rfl rfl) ?_
            refine ev_s (is_iconst (nI 1) rfl rfl) ?_
            first
              | refine ev_s (is_iadd _ rfl (nI_add _ _)) ?_
              | refine ev_s (is_iadd _ rfl rfl) ?_
            refine ev_s (st_istore_n_3 rfl rfl) ?_
            refine ev_s (st_iinc_4 _ rfl rfl (nI_inc _)) ?_
            refine ev_s (is_goto rfl) ?_
            refine ih (i + 1) (10 * v + l + 1) _ _ (by omega) hz ?_
            rw [cd_run, hcd]
            show (match ls_ (ho_qb H G m0 i) with | none => none | some l => some (10 * v + l + 1)) = _
            rw [el]
          · have el : ls_ (ho_qb H G m0 i) = none := by rw [h_46]; exact ls_zero
            refine ev_s (is_iconst ((-1)) rfl rfl) ?_
            refine ev_ret (is_ireturn rfl rfl (by first | rfl | exact pu_b_nar | decide)) ?_
            exact ⟨rfl, by rw [cd_none (i := i + 1) (by rw [cd_run, hcd]; show (match ls_ (ho_qb H G m0 i) with | none => none | some l => some (10 * v + l + 1)) = none; rw [el]) n0 (by omega)]; rfl, rfl, hz⟩
      exact loop n0 0 0 _ mi (by omega) hz rfl
    · refine ev_s (is_bipush ((-7)) rfl rfl) ?_
      refine ev_ret (is_ireturn rfl rfl (by first | rfl | exact pu_b_nar | decide)) ?_
      refine ⟨rfl, ?_, rfl, hz⟩
      simp [an_code, h_5, em0, h_18]
  · refine ev_s (is_bipush ((-5)) rfl rfl) ?_
    refine ev_ret (is_ireturn rfl rfl (by first | rfl | exact pu_b_nar | decide)) ?_
    refine ⟨rfl, ?_, rfl, hz⟩
    simp [an_code, h_5]

theorem ho_qb_q {H : ho_T} {G : ho_G} {m h : Nat} (hd : H (10 + m) h < 6) (hq : ho_quiet H G m h = true) : ho_qb H G m h ≠ 0 := fun e => by
  have := (ho_qb_at H G m h hd).mpr (by rw [← ho_quiet_qd]; exact hq)
  rw [e, Nat.zero_div] at this
  exact absurd this (by decide)

theorem r_still {d : Nat} {sh : im_Sh} {mi : im_MI} {mr : im_MR} (hC : pu_C sh mr) {H K : ho_T} {G : ho_G} (hz : rz_ H K G mi mi) (m : Int32) : EvM (d + 6) 184 [.ref 110, .int m] sh mi mr (fun r sh2 m2 r2 => sh2 = sh ∧ (r = .int (an_still H G m) ∧ r2 = mr ∧ rz_ (H) (K) G mi m2)) := by
  show Ev (d + 6) 184 0 [.ref 110, .int m, im_bad, im_bad] [] sh mi mr _
  have hn6 := rz_n hz
  refine ev_s (is_aload_n rfl rfl) ?_
  refine ev_s (is_iload_n rfl rfl) ?_
  refine ev_c1 (is_callR 2 [_] [] rfl rfl rfl rfl rfl (Nat.le_of_ble_eq_true rfl) rfl rfl rfl (pu_s hC 110 rfl rfl)) rfl rfl (r_isMan' hC hz.1 _) ?_
  refine ev_ifB_ne rfl (fun h_5 => ?_) (fun h_5 => ?_)
  · obtain ⟨m0, rfl, hm0, em0⟩ := ho_isM_n hn6 h_5
    have hm6 : m0 < 6 := by omega
    refine ev_s (is_iconst (nI 0) rfl rfl) ?_
    refine ev_s (st_istore_n_2 rfl rfl) ?_
    refine ev_s (is_iconst (nI 0) rfl rfl) ?_
    refine ev_s (st_istore_n_3 rfl rfl) ?_
    rw [show an_still H G (nI m0) = pu_o (sl_run (sl_f H G m0) 12) by simp [an_still, h_5, em0]]
    have loop : ∀ (j i : Nat) (v : Nat) (ma : im_MI), i + j = 12 → rz_ H K G mi ma → sl_run (sl_f H G m0) i = some v → Ev (d + 6) 184 15 [.ref 110, .int (nI m0), .int (nI v), .int (nI i)] [] sh ma mr (fun r sh2 m2 r2 => sh2 = sh ∧ (r = .int (pu_o (sl_run (sl_f H G m0) 12)) ∧ r2 = mr ∧ rz_ (H) (K) G mi m2)) := by
      intro j
      induction j with
      | zero =>
        intro i v ma hi hz hsl
        refine ev_s (is_iload_n rfl rfl) ?_
        refine ev_s (is_bipush (nI 12) rfl rfl) ?_
        refine ev_s (is_icmp_ge_t rfl (nI_le (by omega) (by omega))) ?_
        refine ev_s (is_iload_n rfl rfl) ?_
        refine ev_ret (is_ireturn rfl rfl (by first | rfl | exact pu_b_nar | decide)) ?_
        exact ⟨rfl, by rw [show 12 = i by omega, hsl]; rfl, rfl, hz⟩
      | succ j ih =>
        intro i v ma hi hz hsl
        refine ev_s (is_iload_n rfl rfl) ?_
        refine ev_s (is_bipush (nI 12) rfl rfl) ?_
        refine ev_s (is_icmp_ge_f rfl (nI_ge (by omega) (by omega))) ?_
        refine ev_s (is_aload_n rfl rfl) ?_
        refine ev_s (is_iload_n rfl rfl) ?_
        refine ev_s (is_iload_n rfl rfl) ?_
        refine ev_q1 (is_callR 3 [_, _] [] rfl rfl rfl rfl rfl (Nat.le_of_ble_eq_true rfl) rfl rfl rfl (pu_s hC 110 rfl rfl)) rfl rfl (r_isQuiet hC hz (m := m0) (h := i) hm6 (by omega)) (fun r_24 mi mr hq_24 => ?_)
        obtain ⟨rfl, hmr, hsc⟩ := hq_24
        have hmr := hmr.symm
        subst hmr
        have hz := rz_sS hz hsc
        have hdo := (rz_bd hz).2.2.2.2.2.2.2.1 m0 i (by omega)
        refine ev_ifB_ne rfl (fun h_27 => ?_) (fun h_27 => ?_)
        · have hf : sl_f H G m0 i = some 0 := by unfold sl_f; rw [if_neg (ho_qb_q hdo h_27), if_pos h_27]
          have hsl2 : sl_run (sl_f H G m0) (i + 1) = some v := by rw [sl_run, hsl]; show (match sl_f H G m0 i with | none => none | some l => some (v + l)) = _; rw [hf]; rfl
          refine ev_s (st_iinc_3 _ rfl rfl (nI_inc _)) ?_
          refine ev_s (is_goto rfl) ?_
          exact ih (i + 1) _ _ (by omega) hz hsl2
        · refine ev_s (is_aload_n rfl rfl) ?_
          refine ev_s (is_iload_n rfl rfl) ?_
          refine ev_s (is_iload_n rfl rfl) ?_
          refine ev_q1 (is_callR 3 [_, _] [] rfl rfl rfl rfl rfl (Nat.le_of_ble_eq_true rfl) rfl rfl rfl (pu_s hC 110 rfl rfl)) rfl rfl (r_quietBy hC hz (m := m0) (h := i) hm6 (by omega)) (fun r_33 mi mr hq_33 => ?_)
          obtain ⟨rfl, hmr, hz⟩ := hq_33
          have hmr := hmr.symm
          subst hmr
          rw [show lo_bits (fun d => ho_qd H G m0 i d) 6 = ho_qb H G m0 i from rfl]
          have hqb := ho_qb_lt H G m0 i
          refine ev_ifN_ne rfl (by omega) (fun h_36 => ?_) (fun h_36 => ?_)
          · have hf : sl_f H G m0 i = some 1 := by unfold sl_f; rw [if_neg h_36, if_neg h_27]
            have hsl2 : sl_run (sl_f H G m0) (i + 1) = some (v + 1) := by rw [sl_run, hsl]; show (match sl_f H G m0 i with | none => none | some l => some (v + l)) = _; rw [hf]
            refine ev_s (st_iinc_2 _ rfl rfl (nI_inc _)) ?_
            refine ev_s (st_iinc_3 _ rfl rfl (nI_inc _)) ?_
            refine ev_s (is_goto rfl) ?_
            exact ih (i + 1) _ _ (by omega) hz hsl2
          · have hf : sl_f H G m0 i = none := by unfold sl_f; rw [if_pos h_36]
            have hsl2 : sl_run (sl_f H G m0) (i + 1) = none := by rw [sl_run, hsl]; show (match sl_f H G m0 i with | none => none | some l => some (v + l)) = _; rw [hf]
            refine ev_s (is_iconst ((-1)) rfl rfl) ?_
            refine ev_ret (is_ireturn rfl rfl (by first | rfl | exact pu_b_nar | decide)) ?_
            exact ⟨rfl, by rw [sl_none (i := i + 1) hsl2 12 (by omega)]; rfl, rfl, hz⟩
    exact loop 12 0 0 mi (by omega) hz rfl
  · refine ev_s (is_bipush ((-5)) rfl rfl) ?_
    refine ev_ret (is_ireturn rfl rfl (by first | rfl | exact pu_b_nar | decide)) ?_
    refine ⟨rfl, ?_, rfl, hz⟩
    simp [an_still, h_5]

theorem r_knows {d : Nat} {sh : im_Sh} {mi : im_MI} {mr : im_MR} (hC : pu_C sh mr) {H K : ho_T} {G : ho_G} (hz : rz_ H K G mi mi) (m h : Int32) : EvM (d + 5) 183 [.ref 110, .int m, .int h] sh mi mr (fun r sh2 m2 r2 => sh2 = sh ∧ (r = .int (an_knows H G m h) ∧ r2 = mr ∧ rz_ (H) (K) G mi m2)) := by
  show Ev (d + 5) 183 0 [.ref 110, .int m, .int h, im_bad, im_bad, im_bad, im_bad, im_bad, im_bad, im_bad] [] sh mi mr _
  have hn6 := rz_n hz
  refine ev_s (is_aload_n rfl rfl) ?_
  refine ev_s (is_iload_n rfl rfl) ?_
  refine ev_c1 (is_callR 2 [_] [] rfl rfl rfl rfl rfl (Nat.le_of_ble_eq_true rfl) rfl rfl rfl (pu_s hC 110 rfl rfl)) rfl rfl (r_isMan' hC hz.1 _) ?_
  refine ev_ifB_ne rfl (fun h_5 => ?_) (fun h_5 => ?_)
  · obtain ⟨m0, rfl, hm0, em0⟩ := ho_isM_n hn6 h_5
    have hm6 : m0 < 6 := by omega
    refine ev_s (is_iload_n rfl rfl) ?_
    refine ev_c1 (is_call0 1 [_] [] rfl rfl rfl rfl rfl (Nat.le_of_ble_eq_true rfl) rfl rfl rfl) rfl rfl (r_isHour' _) ?_
    refine ev_ifB_ne rfl (fun h_15 => ?_) (fun h_15 => ?_)
    · obtain ⟨h0, rfl, lh0, uh0, eh0⟩ := ho_rng_n h_15 (by decide) (by decide)
      refine ev_s (is_aload_n rfl rfl) ?_
      refine ev_s (is_iload_n rfl rfl) ?_
      refine ev_c1 (is_callR 2 [_] [] rfl rfl rfl rfl rfl (Nat.le_of_ble_eq_true rfl) rfl rfl rfl (pu_s hC 110 rfl rfl)) rfl rfl (r_mateOf hC hz.1 hm6) ?_
      rcases eo : ho_mate H m0 with _ | q
      · refine ev_s (st_istore_n_3 rfl rfl) ?_
        refine ev_s (is_iload_n rfl rfl) ?_
        refine ev_s (is_iconst ((-1)) rfl rfl) ?_
        refine ev_s (is_icmp_ne_f rfl (fun q => q rfl)) ?_
        refine ev_s (is_iconst (nI 0) rfl rfl) ?_
        refine ev_ret (is_ireturn rfl rfl (by first | rfl | exact pu_b_nar | decide)) ?_
        exact ⟨rfl, by simp [an_knows, eo, h_5, em0, h_15, eh0], rfl, hz⟩
      · have hql := ho_mate_lt eo
        have hW : q < 6 := by omega
        have hdo := (rz_bd hz).2.2.2.2.2.2.2.1 q h0 (by omega)
        have hs2 := ho_sign_lt H m0 h0 (fun q2 => (rz_bd hz).2.2.2.2.2.2.2.1 q2 h0 (by omega))
        have hc2 := ho_comp_le H G (rz_bd hz) m0 h0
        rw [show an_knows H G (nI m0) (nI h0) = nI (lo_bits (fun d => decide (ho_sign (ho_set H (10 + q) h0 d) m0 h0 = ho_sign H m0 h0 ∧ ho_comp (ho_set H (10 + q) h0 d) G m0 h0 = ho_comp H G m0 h0)) 6) by simp [an_knows, eo, kw_b, h_5, em0, h_15, eh0]]
        have loop : ∀ (j i : Nat) (Hc : ho_T) (ma : im_MI), i + j = 6 → rz_ Hc K G mi ma → (∀ u, ho_set Hc (10 + q) h0 u = ho_set H (10 + q) h0 u) → Ev (d + 5) 183 78 [.ref 110, .int (nI m0), .int (nI h0), .int (nI q), .int (nI (ho_sign H m0 h0)), .int (nI (ho_comp H G m0 h0)), .int (nI (14 * q + h0)), .int (nI (H (10 + q) h0)), .int (nI (lo_bits (fun d => decide (ho_sign (ho_set H (10 + q) h0 d) m0 h0 = ho_sign H m0 h0 ∧ ho_comp (ho_set H (10 + q) h0 d) G m0 h0 = ho_comp H G m0 h0)) i)), .int (nI i)] [] sh ma mr (fun r sh2 m2 r2 => sh2 = sh ∧ (r = .int (nI (lo_bits (fun d => decide (ho_sign (ho_set H (10 + q) h0 d) m0 h0 = ho_sign H m0 h0 ∧ ho_comp (ho_set H (10 + q) h0 d) G m0 h0 = ho_comp H G m0 h0)) 6)) ∧ r2 = mr ∧ rz_ (H) (K) G mi m2)) := by
          intro j
          induction j with
          | zero =>
            intro i Hc ma hi hz hset
            refine ev_s (is_iload rfl rfl) ?_
            refine ev_s (is_bipush (nI 6) rfl rfl) ?_
            refine ev_s (is_icmp_ge_t rfl (nI_le (by omega) (by omega))) ?_
            refine ev_s (is_aload_n rfl rfl) ?_
            refine ev_s (is_getR rfl (pu_s hC 110 rfl rfl) rfl rfl (pu_r hC 110 3 rfl rfl)) ?_
            refine ev_s (is_iload rfl rfl) ?_
            refine ev_s (is_iload rfl rfl) ?_
            refine ev_s (is_iastore (14 * q + h0) rfl (pu_s hC 113 rfl rfl) rfl rfl (by omega)) ?_
            refine ev_s (is_iload rfl rfl) ?_
            refine ev_ret (is_ireturn rfl rfl (by first | rfl | exact pu_b_nar | decide)) ?_
            have hz := rz_row hz (m := q) (w := h0) (v := H (10 + q) h0) hW (by omega) (ho_bd_put (rz_bd hz) (Or.inl ⟨by omega, hdo⟩))
            rw [hset, ho_set_same] at hz
            exact ⟨rfl, by rw [show i = 6 by omega], rfl, hz⟩
          | succ j ih =>
            intro i Hc ma hi hz hset
            refine ev_s (is_iload rfl rfl) ?_
            refine ev_s (is_bipush (nI 6) rfl rfl) ?_
            refine ev_s (is_icmp_ge_f rfl (nI_ge (by omega) (by omega))) ?_
            refine ev_s (is_aload_n rfl rfl) ?_
            refine ev_s (is_getR rfl (pu_s hC 110 rfl rfl) rfl rfl (pu_r hC 110 3 rfl rfl)) ?_
            refine ev_s (is_iload rfl rfl) ?_
            refine ev_s (is_iload rfl rfl) ?_
            refine ev_s (is_iastore (14 * q + h0) rfl (pu_s hC 113 rfl rfl) rfl rfl (by omega)) ?_
            have hz := rz_row hz (m := q) (w := h0) (v := i) hW (by omega) (ho_bd_put (rz_bd hz) (Or.inl ⟨by omega, by omega⟩))
            rw [hset i] at hz
            have hs1 := ho_sign_lt (ho_set H (10 + q) h0 i) m0 h0 (fun q2 => (rz_bd hz).2.2.2.2.2.2.2.1 q2 h0 (by omega))
            refine ev_s (is_iload rfl rfl) ?_
            refine ev_s (is_aload_n rfl rfl) ?_
            refine ev_s (is_iload_n rfl rfl) ?_
            refine ev_s (is_iload_n rfl rfl) ?_
            refine ev_c1 (is_callR 3 [_, _] [_] rfl rfl rfl rfl rfl (Nat.le_of_ble_eq_true rfl) rfl rfl rfl (pu_s hC 110 rfl rfl)) rfl rfl (r_signTo hC hz.1 (m := m0) (h := h0) hm6 (by omega)) ?_
            refine ev_s (is_iload rfl rfl) ?_
            refine ev_icmpN_ne rfl (by omega) (by omega) (fun h_104 => ?_) (fun h_104 => ?_)
            · have hp : (fun d => decide (ho_sign (ho_set H (10 + q) h0 d) m0 h0 = ho_sign H m0 h0 ∧ ho_comp (ho_set H (10 + q) h0 d) G m0 h0 = ho_comp H G m0 h0)) i = false := decide_eq_false (fun q2 => h_104 q2.1)
              refine ev_s (is_iconst (nI 0) rfl rfl) ?_
              have hbl := lo_bits_lt (fun d => decide (ho_sign (ho_set H (10 + q) h0 d) m0 h0 = ho_sign H m0 h0 ∧ ho_comp (ho_set H (10 + q) h0 d) G m0 h0 = ho_comp H G m0 h0)) i
              first
                | refine ev_s (is_ior _ rfl (pu_or hbl)) ?_
                | refine ev_s (is_ior _ rfl (pu_or0 _)) ?_
              refine ev_s (st_istore_8 rfl rfl) ?_
              refine ev_s (st_iinc_9 _ rfl rfl (nI_inc _)) ?_
              refine ev_s (is_goto rfl) ?_
              have := ih (i + 1) _ _ (by omega) hz (fun u => ho_set_set _ _ _ _ _)
              rw [lo_bits_s] at this
              first
                | (rw [if_pos hp] at this; exact this)
                | (rw [if_neg (fun q => absurd (hp.symm.trans q) (by decide)), Nat.add_zero] at this; exact this)
            · refine ev_s (is_aload_n rfl rfl) ?_
              refine ev_s (is_iload_n rfl rfl) ?_
              refine ev_s (is_iload_n rfl rfl) ?_
              refine ev_q1 (is_callR 3 [_, _] [_] rfl rfl rfl rfl rfl (Nat.le_of_ble_eq_true rfl) rfl rfl rfl (pu_s hC 110 rfl rfl)) rfl rfl (r_companyOf hC hz.1 (m := m0) (h := h0) hm6 (by omega)) (fun r_110 mi mr hq_110 => ?_)
              obtain ⟨rfl, hmr, hsc⟩ := hq_110
              have hmr := hmr.symm
              subst hmr
              have hz := rz_sS hz hsc
              have hc1 := ho_comp_le (ho_set H (10 + q) h0 i) G (rz_bd hz) m0 h0
              refine ev_s (is_iload rfl rfl) ?_
              refine ev_icmpN_ne rfl (by omega) (by omega) (fun h_115 => ?_) (fun h_115 => ?_)
              · have hp : (fun d => decide (ho_sign (ho_set H (10 + q) h0 d) m0 h0 = ho_sign H m0 h0 ∧ ho_comp (ho_set H (10 + q) h0 d) G m0 h0 = ho_comp H G m0 h0)) i = false := decide_eq_false (fun q2 => h_115 q2.2)
                refine ev_s (is_iconst (nI 0) rfl rfl) ?_
                have hbl := lo_bits_lt (fun d => decide (ho_sign (ho_set H (10 + q) h0 d) m0 h0 = ho_sign H m0 h0 ∧ ho_comp (ho_set H (10 + q) h0 d) G m0 h0 = ho_comp H G m0 h0)) i
                first
                  | refine ev_s (is_ior _ rfl (pu_or hbl)) ?_
                  | refine ev_s (is_ior _ rfl (pu_or0 _)) ?_
                refine ev_s (st_istore_8 rfl rfl) ?_
                refine ev_s (st_iinc_9 _ rfl rfl (nI_inc _)) ?_
                refine ev_s (is_goto rfl) ?_
                have := ih (i + 1) _ _ (by omega) hz (fun u => ho_set_set _ _ _ _ _)
                rw [lo_bits_s] at this
                first
                  | (rw [if_pos hp] at this; exact this)
                  | (rw [if_neg (fun q => absurd (hp.symm.trans q) (by decide)), Nat.add_zero] at this; exact this)
              · have hp : (fun d => decide (ho_sign (ho_set H (10 + q) h0 d) m0 h0 = ho_sign H m0 h0 ∧ ho_comp (ho_set H (10 + q) h0 d) G m0 h0 = ho_comp H G m0 h0)) i = true := decide_eq_true ⟨h_104, h_115⟩
                refine ev_s (is_iconst (nI 1) rfl rfl) ?_
                refine ev_s (is_iload rfl rfl) ?_
                refine ev_s (is_ishl _ rfl (pu_shl1 (by omega))) ?_
                refine ev_s (is_goto rfl) ?_
                have hbl := lo_bits_lt (fun d => decide (ho_sign (ho_set H (10 + q) h0 d) m0 h0 = ho_sign H m0 h0 ∧ ho_comp (ho_set H (10 + q) h0 d) G m0 h0 = ho_comp H G m0 h0)) i
                first
                  | refine ev_s (is_ior _ rfl (pu_or hbl)) ?_
                  | refine ev_s (is_ior _ rfl (pu_or0 _)) ?_
                refine ev_s (st_istore_8 rfl rfl) ?_
                refine ev_s (st_iinc_9 _ rfl rfl (nI_inc _)) ?_
                refine ev_s (is_goto rfl) ?_
                have := ih (i + 1) _ _ (by omega) hz (fun u => ho_set_set _ _ _ _ _)
                rw [lo_bits_s] at this
                first
                  | (rw [if_pos hp] at this; exact this)
                  | (rw [if_neg (fun q => absurd (hp.symm.trans q) (by decide)), Nat.add_zero] at this; exact this)
        show Ev _ _ _ [_, _, _, _, _, _, _, _, _, _] [.int (nI q)] _ _ _ _
        refine ev_s (st_istore_n_3 rfl rfl) ?_
        refine ev_s (is_iload_n rfl rfl) ?_
        refine ev_s (is_iconst ((-1)) rfl rfl) ?_
        refine ev_s (is_icmp_ne_t rfl (pu_n1 (by omega))) ?_
        refine ev_s (is_aload_n rfl rfl) ?_
        refine ev_s (is_iload_n rfl rfl) ?_
        refine ev_s (is_iload_n rfl rfl) ?_
        refine ev_c1 (is_callR 3 [_, _] [] rfl rfl rfl rfl rfl (Nat.le_of_ble_eq_true rfl) rfl rfl rfl (pu_s hC 110 rfl rfl)) rfl rfl (r_signTo hC hz.1 (m := m0) (h := h0) hm6 (by omega)) ?_
        refine ev_s (st_istore_4 rfl rfl) ?_
        refine ev_s (is_aload_n rfl rfl) ?_
        refine ev_s (is_iload_n rfl rfl) ?_
        refine ev_s (is_iload_n rfl rfl) ?_
        refine ev_q1 (is_callR 3 [_, _] [] rfl rfl rfl rfl rfl (Nat.le_of_ble_eq_true rfl) rfl rfl rfl (pu_s hC 110 rfl rfl)) rfl rfl (r_companyOf hC hz.1 (m := m0) (h := h0) hm6 (by omega)) (fun r_45 mi mr hq_45 => ?_)
        obtain ⟨rfl, hmr, hsc⟩ := hq_45
        have hmr := hmr.symm
        subst hmr
        have hz := rz_sS hz hsc
        refine ev_s (st_istore_5 rfl rfl) ?_
        refine ev_s (is_bipush (nI 14) rfl rfl) ?_
        refine ev_s (is_iload_n rfl rfl) ?_
        refine ev_s (is_iconst (nI 0) rfl rfl) ?_
        refine ev_s (is_iconst (nI 5) rfl rfl) ?_
        refine ev_c1 (is_call0 3 [_, _, _] [_] rfl rfl rfl rfl rfl (Nat.le_of_ble_eq_true rfl) rfl rfl rfl) rfl rfl (r_within _ _ _) ?_
        rw [pu_cl_in (lo := 0) (v := q) (hi := 5) (by omega) (by omega) (by decide)]
        first
          | refine ev_s (is_imul _ rfl (pk_mul _ _)) ?_
          | refine ev_s (is_imul _ rfl rfl) ?_
        refine ev_s (is_iload_n rfl rfl) ?_
        first
          | refine ev_s (is_iadd _ rfl (nI_add _ _)) ?_
          | refine ev_s (is_iadd _ rfl rfl) ?_
        refine ev_s (st_istore_6 rfl rfl) ?_
        refine ev_s (is_aload_n rfl rfl) ?_
        refine ev_s (is_getR rfl (pu_s hC 110 rfl rfl) rfl rfl (pu_r hC 110 3 rfl rfl)) ?_
        refine ev_s (is_iload rfl rfl) ?_
        refine ev_s (is_iaload' (14 * q + h0) rfl (pu_s hC 113 rfl rfl) rfl rfl (by omega) (rz_at hz hW (by omega))) ?_
        refine ev_s (st_istore_7 rfl rfl) ?_
        refine ev_s (is_iconst (nI 0) rfl rfl) ?_
        refine ev_s (st_istore_8 rfl rfl) ?_
        refine ev_s (is_iconst (nI 0) rfl rfl) ?_
        refine ev_s (st_istore_9 rfl rfl) ?_
        exact loop 6 0 H mi (by omega) hz (fun _ => rfl)
    · refine ev_s (is_bipush ((-7)) rfl rfl) ?_
      refine ev_ret (is_ireturn rfl rfl (by first | rfl | exact pu_b_nar | decide)) ?_
      refine ⟨rfl, ?_, rfl, hz⟩
      simp [an_knows, h_5, em0, h_15]
  · refine ev_s (is_bipush ((-5)) rfl rfl) ?_
    refine ev_ret (is_ireturn rfl rfl (by first | rfl | exact pu_b_nar | decide)) ?_
    refine ⟨rfl, ?_, rfl, hz⟩
    simp [an_knows, h_5]

theorem lw_0 {b p : Nat} (hb : 0 < b) (hp : p < 2) : lw_ 0 b p = p := by
  unfold lw_
  rw [Nat.gcd_zero_left]
  rcases (show p = 0 ∨ p = 1 by omega) with rfl | rfl
  · rw [if_pos rfl, Nat.zero_div]
  · rw [if_neg (by decide), Nat.div_self hb]

theorem r_lowest {d : Nat} {sh : im_Sh} {mi : im_MI} {mr : im_MR} {a b p : Nat} (ha : a < 2 ^ 63) (hb0 : 0 < b) (hb : b < 2 ^ 63) (hp : p < 2) : EvM (d) 185 [.long (lN a), .long (lN b), .int (nI p)] sh mi mr (ev_R sh (.long (lN (lw_ a b p))) mi mr) := by
  show Ev (d) 185 0 [.long (lN a), im_bad, .long (lN b), im_bad, .int (nI p), im_bad, im_bad, im_bad, im_bad, im_bad, im_bad] [] sh mi mr _
  have hg0 := Nat.gcd_pos_of_pos_right a hb0
  have hgl := Nat.gcd_le_right a hb0
  have hgn : ¬ lN (Nat.gcd a b) = 0 := fun q => absurd ((pk_lEQ (a := Nat.gcd a b) (b := 0) (by omega) (by decide)).mp q) (by omega)
  have loop : ∀ (n x y : Nat) (w9 w10 : Value), y < n → x < 2 ^ 63 → y < 2 ^ 63 → Nat.gcd x y = Nat.gcd a b → Ev (d) 185 16 [.long (lN a), im_bad, .long (lN b), im_bad, .int (nI p), .long (lN x), im_bad, .long (lN y), im_bad, w9, w10] [] sh mi mr (ev_R sh (.long (lN (lw_ a b p))) mi mr) := by
    intro n
    induction n with
    | zero =>
      intro x y w9 w10 hn
      omega
    | succ n ih =>
      intro x y w9 w10 hn hx hy hg
      refine ev_s (is_lload rfl rfl) ?_
      refine ev_s (is_lconst (lN 0) rfl rfl) ?_
      refine ev_s (is_lcmp _ rfl rfl) ?_
      refine ev_if_eq rfl (fun h_20 => ?_) (fun h_20 => ?_)
      · have h0 := (lN_cmp0 hy).mp h_20
        refine ev_s (is_iload rfl rfl) ?_
        refine ev_ifN_ne rfl (by omega) (fun h_43 => ?_) (fun h_43 => ?_)
        · refine ev_s (is_lload_n rfl rfl) ?_
          refine ev_s (is_lload rfl rfl) ?_
          rw [show x = Nat.gcd a b by rw [← hg, h0, Nat.gcd_zero_right]]
          first
            | refine ev_s (is_ldiv (lN (a / Nat.gcd a b)) rfl hgn (pk_lDiv ha hg0 (by omega))) ?_
            | refine ev_s (is_ldiv (lN (b / Nat.gcd a b)) rfl hgn (pk_lDiv hb hg0 (by omega))) ?_
          refine ev_ret (is_lreturn rfl) ?_
          refine ⟨?_, rfl, rfl, rfl⟩
          unfold lw_
          first
            | rw [if_pos h_43]
            | rw [if_neg h_43]
        · refine ev_s (is_lload_n rfl rfl) ?_
          refine ev_s (is_goto rfl) ?_
          refine ev_s (is_lload rfl rfl) ?_
          rw [show x = Nat.gcd a b by rw [← hg, h0, Nat.gcd_zero_right]]
          first
            | refine ev_s (is_ldiv (lN (a / Nat.gcd a b)) rfl hgn (pk_lDiv ha hg0 (by omega))) ?_
            | refine ev_s (is_ldiv (lN (b / Nat.gcd a b)) rfl hgn (pk_lDiv hb hg0 (by omega))) ?_
          refine ev_ret (is_lreturn rfl) ?_
          refine ⟨?_, rfl, rfl, rfl⟩
          unfold lw_
          first
            | rw [if_pos h_43]
            | rw [if_neg h_43]
      · have h0 : ¬ y = 0 := fun q => h_20 ((lN_cmp0 hy).mpr q)
        refine ev_s (is_lload rfl rfl) ?_
        refine ev_s (is_lload rfl rfl) ?_
        refine ev_s (is_lrem _ rfl (fun q => h0 ((pk_lEQ hy (by decide)).mp q)) (pk_lRem hx (by omega) hy)) ?_
        refine ev_s (st_lstore_9 rfl rfl) ?_
        refine ev_s (is_lload rfl rfl) ?_
        refine ev_s (st_lstore_5 rfl rfl) ?_
        refine ev_s (is_lload rfl rfl) ?_
        refine ev_s (st_lstore_7 rfl rfl) ?_
        refine ev_s (is_goto rfl) ?_
        have hm := Nat.mod_lt x (show 0 < y by omega)
        exact ih y (x % y) (.long (lN (x % y))) im_bad (by omega) hy (by omega) (by rw [gc_step (by omega)]; exact hg)
  refine ev_s (is_lload_n rfl rfl) ?_
  refine ev_s (is_lconst (lN 0) rfl rfl) ?_
  refine ev_s (is_lcmp _ rfl rfl) ?_
  refine ev_if_ne rfl (fun h_3 => ?_) (fun h_3 => ?_)
  · refine ev_s (is_lload_n rfl rfl) ?_
    refine ev_s (st_lstore_5 rfl rfl) ?_
    refine ev_s (is_lload_n rfl rfl) ?_
    refine ev_s (st_lstore_7 rfl rfl) ?_
    exact loop (b + 1) a b _ _ (by omega) ha hb rfl
  · have ha0 : a = 0 := (lN_cmp0 ha).mp (Decidable.of_not_not h_3)
    refine ev_s (is_iload rfl rfl) ?_
    refine ev_s (is_i2l _ rfl (nI_l (by omega))) ?_
    refine ev_ret (is_lreturn rfl) ?_
    exact ⟨by rw [ha0, lw_0 hb0 hp], rfl, rfl, rfl⟩

theorem r_unseen {d : Nat} {sh : im_Sh} {mi : im_MI} {mr : im_MR} (hC : pu_C sh mr) {H K : ho_T} {G : ho_G} (hz : rz_ H K G mi mi) (m n part : Int32) : EvM (d + 5) 186 [.ref 110, .int m, .int n, .int part] sh mi mr (fun r sh2 m2 r2 => sh2 = sh ∧ (r = .long (an_unseen H G m n part) ∧ r2 = mr ∧ rz_ (H) (K) G mi m2)) := by
  show Ev (d + 5) 186 0 [.ref 110, .int m, .int n, .int part, im_bad, im_bad, im_bad, im_bad, im_bad] [] sh mi mr _
  have hn6 := rz_n hz
  refine ev_s (is_aload_n rfl rfl) ?_
  refine ev_s (is_iload_n rfl rfl) ?_
  refine ev_c1 (is_callR 2 [_] [] rfl rfl rfl rfl rfl (Nat.le_of_ble_eq_true rfl) rfl rfl rfl (pu_s hC 110 rfl rfl)) rfl rfl (r_isMan' hC hz.1 _) ?_
  refine ev_ifB_eq rfl (fun h_5 => ?_) (fun h_5 => ?_)
  · refine ev_s (is_ldc2 ((-4611686018427387904)) rfl rfl) ?_
    refine ev_ret (is_lreturn rfl) ?_
    refine ⟨rfl, ?_, rfl, hz⟩
    simp [an_unseen, h_5]
    all_goals (try rfl)
  · obtain ⟨m0, rfl, hm0, em0⟩ := ho_isM_n hn6 h_5
    have hm6 : m0 < 6 := by omega
    refine ev_s (is_iload_n rfl rfl) ?_
    refine ev_s (is_iconst (nI 0) rfl rfl) ?_
    refine ev_s (is_bipush (nI 8) rfl rfl) ?_
    refine ev_c1 (is_call0 3 [_, _, _] [] rfl rfl rfl rfl rfl (Nat.le_of_ble_eq_true rfl) rfl rfl rfl) rfl rfl (r_in' _ _ _) ?_
    refine ev_ifB_eq rfl (fun h_15 => ?_) (fun h_15 => ?_)
    · refine ev_s (is_ldc2 ((-4611686018427387904)) rfl rfl) ?_
      refine ev_ret (is_lreturn rfl) ?_
      refine ⟨rfl, ?_, rfl, hz⟩
      simp [an_unseen, h_5, em0, h_15]
      all_goals (try rfl)
    · obtain ⟨n0, rfl, ln0, un0, en0⟩ := ho_rng_n h_15 (by decide) (by decide)
      refine ev_s (is_iload_n rfl rfl) ?_
      refine ev_s (is_iconst (nI 0) rfl rfl) ?_
      refine ev_s (is_iconst (nI 1) rfl rfl) ?_
      refine ev_c1 (is_call0 3 [_, _, _] [] rfl rfl rfl rfl rfl (Nat.le_of_ble_eq_true rfl) rfl rfl rfl) rfl rfl (r_in' _ _ _) ?_
      refine ev_ifB_ne rfl (fun h_24 => ?_) (fun h_24 => ?_)
      · obtain ⟨p0, rfl, lp0, up0, ep0⟩ := ho_rng_n h_24 (by decide) (by decide)
        refine ev_s (is_lconst (lN 1) rfl rfl) ?_
        refine ev_s (st_lstore_4 rfl rfl) ?_
        refine ev_s (is_lconst (lN 1) rfl rfl) ?_
        refine ev_s (st_lstore_6 rfl rfl) ?_
        refine ev_s (is_iconst (nI 0) rfl rfl) ?_
        refine ev_s (st_istore_8 rfl rfl) ?_
        rw [show an_unseen H G (nI m0) (nI n0) (nI p0) = lN (lw_ (lo_prod (us_ H G m0) n0) (lo_prod (us2_ H G m0) n0) p0) by simp [an_unseen, h_5, em0, h_15, en0, h_24, ep0]]
        have loop : ∀ (j i : Nat) (ma : im_MI), i + j = n0 → rz_ H K G mi ma → Ev (d + 5) 186 40 [.ref 110, .int (nI m0), .int (nI n0), .int (nI p0), .long (lN (lo_prod (us_ H G m0) i)), im_bad, .long (lN (lo_prod (us2_ H G m0) i)), im_bad, .int (nI i)] [] sh ma mr (fun r sh2 m2 r2 => sh2 = sh ∧ (r = .long (lN (lw_ (lo_prod (us_ H G m0) n0) (lo_prod (us2_ H G m0) n0) p0)) ∧ r2 = mr ∧ rz_ (H) (K) G mi m2)) := by
          intro j
          induction j with
          | zero =>
            intro i ma hi hz
            have hp1 : lo_prod (us_ H G m0) i ≤ 100 ^ i := lo_prod_le i (fun q _ => by unfold us_; split <;> omega)
            have hp3 : lo_prod (us2_ H G m0) i ≤ 100 ^ i := lo_prod_le i (fun q _ => by unfold us2_; split <;> omega)
            have hp2 : 0 < lo_prod (us2_ H G m0) i := lo_prod_pos i (fun q _ => by unfold us2_; split <;> omega)
            have hp4 : 100 ^ i ≤ 100 ^ 8 := Nat.pow_le_pow_right (by decide) (by omega)
            have hp5 : 100 ^ 8 = 10000000000000000 := by decide
            refine ev_s (is_iload rfl rfl) ?_
            refine ev_s (is_iload_n rfl rfl) ?_
            refine ev_s (is_icmp_ge_t rfl (nI_le (by omega) (by omega))) ?_
            refine ev_s (is_lload rfl rfl) ?_
            refine ev_s (is_lload rfl rfl) ?_
            refine ev_s (is_iload_n rfl rfl) ?_
            refine ev_c1 (is_call0 3 [_, _, _] [] rfl rfl rfl rfl rfl (Nat.le_of_ble_eq_true rfl) rfl rfl rfl) rfl rfl (r_lowest (a := lo_prod (us_ H G m0) i) (b := lo_prod (us2_ H G m0) i) (p := p0) (by omega) hp2 (by omega) (by omega)) ?_
            refine ev_ret (is_lreturn rfl) ?_
            exact ⟨rfl, by rw [show i = n0 by omega], rfl, hz⟩
          | succ j ih =>
            intro i ma hi hz
            refine ev_s (is_iload rfl rfl) ?_
            refine ev_s (is_iload_n rfl rfl) ?_
            refine ev_s (is_icmp_ge_f rfl (nI_ge (by omega) (by omega))) ?_
            refine ev_s (is_aload_n rfl rfl) ?_
            refine ev_s (is_iload_n rfl rfl) ?_
            refine ev_s (is_iload rfl rfl) ?_
            refine ev_q1 (is_callR 3 [_, _] [] rfl rfl rfl rfl rfl (Nat.le_of_ble_eq_true rfl) rfl rfl rfl (pu_s hC 110 rfl rfl)) rfl rfl (r_companyOf hC hz.1 (m := m0) (h := i) hm6 (by omega)) (fun r_50 mi mr hq_50 => ?_)
            obtain ⟨rfl, hmr, hsc⟩ := hq_50
            have hmr := hmr.symm
            subst hmr
            have hz := rz_sS hz hsc
            have hcl := ho_comp_le H G (rz_bd hz) m0 i
            refine ev_ifN_le rfl (by omega) (fun h_53 => ?_) (fun h_53 => ?_)
            · refine ev_s (st_iinc_8 _ rfl rfl (nI_inc _)) ?_
              refine ev_s (is_goto rfl) ?_
              have := ih (i + 1) _ (by omega) hz
              rw [lo_prod, lo_prod, us_, us2_] at this
              first
                | (rw [if_neg (by omega), if_neg (by omega)] at this; exact this)
                | (rw [if_pos h_53, if_pos h_53, Nat.mul_one, Nat.mul_one] at this; exact this)
            · refine ev_s (is_lload rfl rfl) ?_
              refine ev_s (is_bipush (nI 100) rfl rfl) ?_
              refine ev_s (is_aload_n rfl rfl) ?_
              refine ev_s (is_iconst (nI 2) rfl rfl) ?_
              refine ev_s (is_iload_n rfl rfl) ?_
              refine ev_s (is_iload rfl rfl) ?_
              refine ev_q1 (is_callR 4 [_, _, _] [_, _] rfl rfl rfl rfl rfl (Nat.le_of_ble_eq_true rfl) rfl rfl rfl (pu_s hC 110 rfl rfl)) rfl rfl (r_asksOf hC hz.1 (p := 2) (m := m0) (h := i) (by decide) hm6 (by omega)) (fun r_65 mi mr hq_65 => ?_)
              obtain ⟨rfl, hmr, hsc⟩ := hq_65
              have hmr := hmr.symm
              subst hmr
              have hz := rz_sS hz hsc
              have hal := ho_asks_le H G 2 m0 i
              refine ev_s (is_isub _ rfl (pk_sub (by omega))) ?_
              refine ev_s (is_i2l _ rfl (nI_l (by omega))) ?_
              refine ev_s (is_lmul _ rfl (lN_mul _ _)) ?_
              refine ev_s (st_lstore_4 rfl rfl) ?_
              refine ev_s (is_lload rfl rfl) ?_
              refine ev_s (is_ldc2 (lN 100) rfl rfl) ?_
              refine ev_s (is_lmul _ rfl (lN_mul _ _)) ?_
              refine ev_s (st_lstore_6 rfl rfl) ?_
              refine ev_s (st_iinc_8 _ rfl rfl (nI_inc _)) ?_
              refine ev_s (is_goto rfl) ?_
              have := ih (i + 1) _ (by omega) hz
              rw [lo_prod, lo_prod, us_, us2_] at this
              first
                | (rw [if_neg (by omega), if_neg (by omega)] at this; exact this)
                | (rw [if_pos h_53, if_pos h_53, Nat.mul_one, Nat.mul_one] at this; exact this)
        exact loop n0 0 mi (by omega) hz
      · refine ev_s (is_ldc2 ((-4611686018427387904)) rfl rfl) ?_
        refine ev_ret (is_lreturn rfl) ?_
        refine ⟨rfl, ?_, rfl, hz⟩
        simp [an_unseen, h_5, em0, h_15, en0, h_24]
        all_goals (try rfl)
