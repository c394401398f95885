/-! ===== PURE, the class: codes, code, still, knows, unseen ===== -/

theorem x_bitCount {d : Nat} {sh : im_Sh} {mi : im_MI} {mr : im_MR} {s : Nat} (hs : s < 4096) : EvM (d) 207 [.int (nI s)] sh mi mr (ev_R sh (.int (nI (on_ s))) mi mr) := by
  show Ev (d) 207 0 [.int (nI s)] [] sh mi mr _
  refine ev_s (is_iload_n rfl rfl) ?_
  refine ev_s (is_iload_n rfl rfl) ?_
  refine ev_s (is_iconst (nI 1) rfl rfl) ?_
  refine ev_s (is_iushr _ rfl rfl) ?_
  refine ev_s (is_ldcw (nI 1431655765) rfl rfl) ?_
  refine ev_s (is_iand _ rfl rfl) ?_
  refine ev_s (is_isub _ rfl rfl) ?_
  refine ev_s (st_istore_n_0 rfl) ?_
  refine ev_s (is_iload_n rfl rfl) ?_
  refine ev_s (is_ldcw (nI 858993459) rfl rfl) ?_
  refine ev_s (is_iand _ rfl rfl) ?_
  refine ev_s (is_iload_n rfl rfl) ?_
  refine ev_s (is_iconst (nI 2) rfl rfl) ?_
  refine ev_s (is_iushr _ rfl rfl) ?_
  refine ev_s (is_ldcw (nI 858993459) rfl rfl) ?_
  refine ev_s (is_iand _ rfl rfl) ?_
  refine ev_s (is_iadd _ rfl rfl) ?_
  refine ev_s (st_istore_n_0 rfl) ?_
  refine ev_s (is_iload_n rfl rfl) ?_
  refine ev_s (is_iload_n rfl rfl) ?_
  refine ev_s (is_iconst (nI 4) rfl rfl) ?_
  refine ev_s (is_iushr _ rfl rfl) ?_
  refine ev_s (is_iadd _ rfl rfl) ?_
  refine ev_s (is_ldcw (nI 252645135) rfl rfl) ?_
  refine ev_s (is_iand _ rfl rfl) ?_
  refine ev_s (st_istore_n_0 rfl) ?_
  refine ev_s (is_iload_n rfl rfl) ?_
  refine ev_s (is_iload_n rfl rfl) ?_
  refine ev_s (is_bipush (nI 8) rfl rfl) ?_
  refine ev_s (is_iushr _ rfl rfl) ?_
  refine ev_s (is_iadd _ rfl rfl) ?_
  refine ev_s (st_istore_n_0 rfl) ?_
  refine ev_s (is_iload_n rfl rfl) ?_
  refine ev_s (is_iload_n rfl rfl) ?_
  refine ev_s (is_bipush (nI 16) rfl rfl) ?_
  refine ev_s (is_iushr _ rfl rfl) ?_
  refine ev_s (is_iadd _ rfl rfl) ?_
  refine ev_s (st_istore_n_0 rfl) ?_
  refine ev_s (is_iload_n rfl rfl) ?_
  refine ev_s (is_bipush (nI 63) rfl rfl) ?_
  refine ev_s (is_iand _ rfl rfl) ?_
  refine ev_ret (is_ireturn rfl rfl (by first | rfl | exact pu_b_nar | decide)) ?_
  exact ⟨congrArg Value.int (bc_on hs), rfl, rfl, rfl⟩

theorem on_le (s : Nat) : on_ s ≤ 12 := lo_sum_le (b := 1) 12 fun i _ => by have := Nat.mod_lt (s / 2 ^ i) (show 0 < 2 by decide); omega

theorem x_codes {d : Nat} {sh : im_Sh} {mi : im_MI} {mr : im_MR} (hC : pu_C sh mr) {H : ho_T} {G : ho_G} (hx : xa_ok H G mi mr) (m n : Int32) : EvM (d + 6) 83 [.ref 29, .int m, .int n] sh mi mr (fun r sh2 m2 r2 => sh2 = sh ∧ (r = .long (an_codes H G m n) ∧ r2 = mr ∧ sc_ xQ mi m2)) := by
  show Ev (d + 6) 83 0 [.ref 29, .int m, .int n, im_bad, im_bad, im_bad] [] sh mi mr _
  have hn6 := xa_n hx
  have hs : sc_ xQ mi mi := sc_rf
  refine ev_s (is_aload_n rfl rfl) ?_
  refine ev_s (is_iload_n rfl rfl) ?_
  refine ev_c1 (is_callR 2 [_] [] rfl rfl rfl rfl rfl (Nat.le_of_ble_eq_true rfl) rfl rfl rfl (pu_s hC 29 rfl rfl)) rfl rfl (x_noMan' hC hx _) ?_
  refine ev_ifB_ne rfl (fun h_5 => ?_) (fun h_5 => ?_)
  · refine ev_s (is_ldc2 ((-4611686018427387904)) rfl rfl) ?_
    refine ev_ret (is_lreturn rfl) ?_
    refine ⟨rfl, ?_, rfl, sc_rf⟩
    simp [an_codes, h_5]
    all_goals (try rfl)
  · have h_5 := Decidable.of_not_not h_5
    obtain ⟨m0, rfl, hm0, em0⟩ := ho_isM_n hn6 h_5
    refine ev_s (is_iload_n rfl rfl) ?_
    refine ev_s (is_iconst (nI 0) rfl rfl) ?_
    refine ev_s (is_bipush (nI 12) rfl rfl) ?_
    refine ev_c1 (is_call0 3 [_, _, _] [] rfl rfl rfl rfl rfl (Nat.le_of_ble_eq_true rfl) rfl rfl rfl) rfl rfl (x_within' _ _ _) ?_
    refine ev_ifB_ne rfl (fun h_15 => ?_) (fun h_15 => ?_)
    · obtain ⟨n0, rfl, ln0, un0, en0⟩ := ho_rng_n h_15 (by decide) (by decide)
      refine ev_s (is_lconst (lN 1) rfl rfl) ?_
      refine ev_s (st_lstore_n_3 rfl rfl) ?_
      refine ev_s (is_iconst (nI 0) rfl rfl) ?_
      refine ev_s (st_istore_5 rfl rfl) ?_
      rw [show an_codes H G (nI m0) (nI n0) = lN (lo_prod (fun h => on_ (ho_qb H G m0 h)) n0) by simp [an_codes, h_5, em0, h_15, en0]]
      have loop : ∀ (j i : Nat) (ma : im_MI), i + j = n0 → xa_ok H G ma mr → sc_ xQ mi ma → Ev (d + 6) 83 27 [.ref 29, .int (nI m0), .int (nI n0), .long (lN (lo_prod (fun h => on_ (ho_qb H G m0 h)) i)), im_bad, .int (nI i)] [] sh ma mr (fun r sh2 m2 r2 => sh2 = sh ∧ (r = .long (lN (lo_prod (fun h => on_ (ho_qb H G m0 h)) n0)) ∧ r2 = mr ∧ sc_ xQ mi m2)) := by
        intro j
        induction j with
        | zero =>
          intro i ma hi hx hs
          refine ev_s (is_iload rfl rfl) ?_
          refine ev_s (is_iload_n rfl rfl) ?_
          refine ev_s (is_icmp_ge_t rfl (nI_le (by omega) (by omega))) ?_
          refine ev_s (is_lload_n rfl rfl) ?_
          refine ev_ret (is_lreturn rfl) ?_
          exact ⟨rfl, by rw [show i = n0 by omega], rfl, hs⟩
        | succ j ih =>
          intro i ma hi hx hs
          refine ev_s (is_iload rfl rfl) ?_
          refine ev_s (is_iload_n rfl rfl) ?_
          refine ev_s (is_icmp_ge_f rfl (nI_ge (by omega) (by omega))) ?_
          refine ev_s (is_lload_n rfl rfl) ?_
          refine ev_s (is_aload_n rfl rfl) ?_
          refine ev_s (is_iload_n rfl rfl) ?_
          refine ev_s (is_iload rfl rfl) ?_
          refine ev_q1 (is_callR 3 [_, _] [_] rfl rfl rfl rfl rfl (Nat.le_of_ble_eq_true rfl) rfl rfl rfl (pu_s hC 29 rfl rfl)) rfl rfl (x_quietD hC hx (m := m0) (h := i) hm0 (by omega)) (fun r_38 mi mr hq_38 => ?_)
          obtain ⟨rfl, hmr, hsc⟩ := hq_38
          have hmr := hmr.symm
          subst hmr
          rw [ho_qb_md (xa_iv hx) G hm0 (by omega)]
          have hqb := ho_qb_lt H G m0 i
          have hs := hs.trans hsc
          have hx := xa_sc hx hsc
          refine ev_c1 (is_call0 1 [_] [_] rfl rfl rfl rfl rfl (Nat.le_of_ble_eq_true rfl) rfl rfl rfl) rfl rfl (x_bitCount (s := ho_qb H G m0 i) (by omega)) ?_
          have hon := on_le (ho_qb H G m0 i)
          refine ev_s (is_i2l _ rfl (nI_l (by omega))) ?_
          refine ev_s (is_lmul _ rfl (lN_mul _ _)) ?_
          refine ev_s (st_lstore_n_3 rfl rfl) ?_
          refine ev_s (st_iinc_5 _ rfl rfl (nI_inc _)) ?_
          refine ev_s (is_goto rfl) ?_
          exact ih (i + 1) _ (by omega) hx hs
      exact loop n0 0 mi (by omega) hx sc_rf
    · refine ev_s (is_ldc2 ((-4611686018427387904)) rfl rfl) ?_
      refine ev_ret (is_lreturn rfl) ?_
      refine ⟨rfl, ?_, rfl, sc_rf⟩
      simp [an_codes, h_5, em0, h_15]
      all_goals (try rfl)

theorem x_code {d : Nat} {sh : im_Sh} {mi : im_MI} {mr : im_MR} (hC : pu_C sh mr) {H : ho_T} {G : ho_G} (hx : xa_ok H G mi mr) (m n : Int32) : EvM (d + 6) 84 [.ref 29, .int m, .int n] sh mi mr (fun r sh2 m2 r2 => sh2 = sh ∧ (r = .int (an_code H G m n) ∧ r2 = mr ∧ sc_ xQ mi m2)) := by
  show Ev (d + 6) 84 0 [.ref 29, .int m, .int n, im_bad, im_bad, im_bad] [] sh mi mr _
  have hn6 := xa_n hx
  have hs : sc_ xQ mi mi := sc_rf
  refine ev_s (is_aload_n rfl rfl) ?_
  refine ev_s (is_iload_n rfl rfl) ?_
  refine ev_c1 (is_callR 2 [_] [] rfl rfl rfl rfl rfl (Nat.le_of_ble_eq_true rfl) rfl rfl rfl (pu_s hC 29 rfl rfl)) rfl rfl (x_noMan' hC hx _) ?_
  refine ev_ifB_eq rfl (fun h_5 => ?_) (fun h_5 => ?_)
  · have h_5 := Decidable.of_not_not h_5
    obtain ⟨m0, rfl, hm0, em0⟩ := ho_isM_n hn6 h_5
    refine ev_s (is_iload_n rfl rfl) ?_
    refine ev_s (is_iconst (nI 0) rfl rfl) ?_
    refine ev_s (is_bipush (nI 9) rfl rfl) ?_
    refine ev_c1 (is_call0 3 [_, _, _] [] rfl rfl rfl rfl rfl (Nat.le_of_ble_eq_true rfl) rfl rfl rfl) rfl rfl (x_within' _ _ _) ?_
    refine ev_ifB_ne rfl (fun h_18 => ?_) (fun h_18 => ?_)
    · obtain ⟨n0, rfl, ln0, un0, en0⟩ := ho_rng_n h_18 (by decide) (by decide)
      refine ev_s (is_iconst (nI 0) rfl rfl) ?_
      refine ev_s (st_istore_n_3 rfl rfl) ?_
      refine ev_s (is_iconst (nI 0) rfl rfl) ?_
      refine ev_s (st_istore_4 rfl rfl) ?_
      rw [show an_code H G (nI m0) (nI n0) = pu_o (cd_run (fun h => ls_ (ho_qb H G m0 h)) n0) by simp [an_code, h_5, em0, h_18, en0]]
      have loop : ∀ (j i : Nat) (v : Nat) (w5 : Value) (ma : im_MI), i + j = n0 → xa_ok H G ma mr → sc_ xQ mi ma → cd_run (fun h => ls_ (ho_qb H G m0 h)) i = some v → Ev (d + 6) 84 29 [.ref 29, .int (nI m0), .int (nI n0), .int (nI v), .int (nI i), w5] [] sh ma mr (fun r sh2 m2 r2 => sh2 = sh ∧ (r = .int (pu_o (cd_run (fun h => ls_ (ho_qb H G m0 h)) n0)) ∧ r2 = mr ∧ sc_ xQ mi m2)) := by
        intro j
        induction j with
        | zero =>
          intro i v w5 ma hi hx hs hcd
          refine ev_s (is_iload rfl rfl) ?_
          refine ev_s (is_iload_n rfl rfl) ?_
          refine ev_s (is_icmp_ge_t rfl (nI_le (by omega) (by omega))) ?_
          refine ev_s (is_iload_n rfl rfl) ?_
          refine ev_ret (is_ireturn rfl rfl (by first | rfl | exact pu_b_nar | decide)) ?_
          exact ⟨rfl, by rw [show n0 = i by omega, hcd]; rfl, rfl, hs⟩
        | succ j ih =>
          intro i v w5 ma hi hx hs hcd
          refine ev_s (is_iload rfl rfl) ?_
          refine ev_s (is_iload_n rfl rfl) ?_
          refine ev_s (is_icmp_ge_f rfl (nI_ge (by omega) (by omega))) ?_
          refine ev_s (is_aload_n rfl rfl) ?_
          refine ev_s (is_iload_n rfl rfl) ?_
          refine ev_s (is_iload rfl rfl) ?_
          refine ev_q1 (is_callR 3 [_, _] [] rfl rfl rfl rfl rfl (Nat.le_of_ble_eq_true rfl) rfl rfl rfl (pu_s hC 29 rfl rfl)) rfl rfl (x_quietD hC hx (m := m0) (h := i) hm0 (by omega)) (fun r_39 mi mr hq_39 => ?_)
          obtain ⟨rfl, hmr, hsc⟩ := hq_39
          have hmr := hmr.symm
          subst hmr
          rw [ho_qb_md (xa_iv hx) G hm0 (by omega)]
          have hqb := ho_qb_lt H G m0 i
          have hs := hs.trans hsc
          have hx := xa_sc hx hsc
          refine ev_c1 (is_call0 1 [_] [] rfl rfl rfl rfl rfl (Nat.le_of_ble_eq_true rfl) rfl rfl rfl) rfl rfl (x_leastOf (s := ho_qb H G m0 i) (by omega)) ?_
          show Ev _ _ _ _ [.int (pu_o (ls_ (ho_qb H G m0 i)))] _ _ _ _
          rcases el : ls_ (ho_qb H G m0 i) with _ | l
          · refine ev_s (st_istore_5 rfl rfl) ?_
            refine ev_s (is_iload rfl rfl) ?_
            refine ev_s (is_iconst ((-1)) rfl rfl) ?_
            refine ev_s (is_icmp_ne_f rfl (fun q => q rfl)) ?_
            refine ev_s (is_iconst ((-1)) rfl rfl) ?_
            refine ev_ret (is_ireturn rfl rfl (by first | rfl | exact pu_b_nar | decide)) ?_
            exact ⟨rfl, by rw [cd_none (i := i + 1) (by rw [cd_run, hcd]; show (match ls_ (ho_qb H G m0 i) with | none => none | some l => some (10 * v + l + 1)) = none; rw [el]) n0 (by omega)]; rfl, rfl, hs⟩
          · show Ev _ _ _ _ [.int (nI l)] _ _ _ _
            refine ev_s (st_istore_5 rfl rfl) ?_
            refine ev_s (is_iload rfl rfl) ?_
            refine ev_s (is_iconst ((-1)) rfl rfl) ?_
            refine ev_s (is_icmp_ne_t rfl (pu_n1 (by have := ls_lt el; omega))) ?_
            refine ev_s (is_bipush (nI 10) rfl rfl) ?_
            refine ev_s (is_iload_n rfl rfl) ?_
            first
              | refine ev_s (is_imul _ rfl (pk_mul _ _)) ?_
              | refine ev_s (is_imul _ rfl rfl) ?_
            refine ev_s (is_iload rfl rfl) ?_
            first
              | refine ev_s (is_iadd _ rfl (nI_add _ _)) ?_
              | refine ev_s (is_iadd _ rfl rfl) ?_
            refine ev_s (is_iconst (nI 1) rfl rfl) ?_
            first
              | refine ev_s (is_iadd _ rfl (nI_add _ _)) ?_
              | refine ev_s (is_iadd _ rfl rfl) ?_
            refine ev_s (st_istore_n_3 rfl rfl) ?_
            refine ev_s (st_iinc_4 _ rfl rfl (nI_inc _)) ?_
            refine ev_s (is_goto rfl) ?_
            refine ih (i + 1) (10 * v + l + 1) _ _ (by omega) hx hs ?_
            rw [cd_run, hcd]
            show (match ls_ (ho_qb H G m0 i) with | none => none | some l => some (10 * v + l + 1)) = _
            rw [el]
      exact loop n0 0 0 _ mi (by omega) hx sc_rf rfl
    · refine ev_s (is_bipush ((-7)) rfl rfl) ?_
      refine ev_ret (is_ireturn rfl rfl (by first | rfl | exact pu_b_nar | decide)) ?_
      refine ⟨rfl, ?_, rfl, sc_rf⟩
      simp [an_code, h_5, em0, h_18]
  · refine ev_s (is_bipush ((-5)) rfl rfl) ?_
    refine ev_ret (is_ireturn rfl rfl (by first | rfl | exact pu_b_nar | decide)) ?_
    refine ⟨rfl, ?_, rfl, sc_rf⟩
    simp [an_code, h_5]

theorem x_still {d : Nat} {sh : im_Sh} {mi : im_MI} {mr : im_MR} (hC : pu_C sh mr) {H : ho_T} {G : ho_G} (hx : xa_ok H G mi mr) (m : Int32) : EvM (d + 6) 86 [.ref 29, .int m] sh mi mr (fun r sh2 m2 r2 => sh2 = sh ∧ (r = .int (an_still H G m) ∧ r2 = mr ∧ sc_ xQ mi m2)) := by
  show Ev (d + 6) 86 0 [.ref 29, .int m, im_bad, im_bad, im_bad] [] sh mi mr _
  have hn6 := xa_n hx
  have hs : sc_ xQ mi mi := sc_rf
  refine ev_s (is_aload_n rfl rfl) ?_
  refine ev_s (is_iload_n rfl rfl) ?_
  refine ev_c1 (is_callR 2 [_] [] rfl rfl rfl rfl rfl (Nat.le_of_ble_eq_true rfl) rfl rfl rfl (pu_s hC 29 rfl rfl)) rfl rfl (x_noMan' hC hx _) ?_
  refine ev_ifB_eq rfl (fun h_5 => ?_) (fun h_5 => ?_)
  · have h_5 := Decidable.of_not_not h_5
    obtain ⟨m0, rfl, hm0, em0⟩ := ho_isM_n hn6 h_5
    refine ev_s (is_iconst (nI 0) rfl rfl) ?_
    refine ev_s (st_istore_n_2 rfl rfl) ?_
    refine ev_s (is_iconst (nI 0) rfl rfl) ?_
    refine ev_s (st_istore_n_3 rfl rfl) ?_
    rw [show an_still H G (nI m0) = pu_o (sl_run (sl_f H G m0) 12) by simp [an_still, h_5, em0]]
    have loop : ∀ (j i : Nat) (v : Nat) (w4 : Value) (ma : im_MI), i + j = 12 → xa_ok H G ma mr → sc_ xQ mi ma → sl_run (sl_f H G m0) i = some v → Ev (d + 6) 86 15 [.ref 29, .int (nI m0), .int (nI v), .int (nI i), w4] [] sh ma mr (fun r sh2 m2 r2 => sh2 = sh ∧ (r = .int (pu_o (sl_run (sl_f H G m0) 12)) ∧ r2 = mr ∧ sc_ xQ mi m2)) := by
      intro j
      induction j with
      | zero =>
        intro i v w4 ma hi hx hs hsl
        refine ev_s (is_iload_n rfl rfl) ?_
        refine ev_s (is_bipush (nI 12) rfl rfl) ?_
        refine ev_s (is_icmp_ge_t rfl (nI_le (by omega) (by omega))) ?_
        refine ev_s (is_iload_n rfl rfl) ?_
        refine ev_ret (is_ireturn rfl rfl (by first | rfl | exact pu_b_nar | decide)) ?_
        exact ⟨rfl, by rw [show 12 = i by omega, hsl]; rfl, rfl, hs⟩
      | succ j ih =>
        intro i v w4 ma hi hx hs hsl
        refine ev_s (is_iload_n rfl rfl) ?_
        refine ev_s (is_bipush (nI 12) rfl rfl) ?_
        refine ev_s (is_icmp_ge_f rfl (nI_ge (by omega) (by omega))) ?_
        refine ev_s (is_aload_n rfl rfl) ?_
        refine ev_s (is_iload_n rfl rfl) ?_
        refine ev_s (is_iload_n rfl rfl) ?_
        refine ev_q1 (is_callR 3 [_, _] [] rfl rfl rfl rfl rfl (Nat.le_of_ble_eq_true rfl) rfl rfl rfl (pu_s hC 29 rfl rfl)) rfl rfl (x_quietD hC hx (m := m0) (h := i) hm0 (by omega)) (fun r_24 mi mr hq_24 => ?_)
        obtain ⟨rfl, hmr, hsc⟩ := hq_24
        have hmr := hmr.symm
        subst hmr
        rw [ho_qb_md (xa_iv hx) G hm0 (by omega)]
        have hqb := ho_qb_lt H G m0 i
        have hs := hs.trans hsc
        have hx := xa_sc hx hsc
        refine ev_s (st_istore_4 rfl rfl) ?_
        refine ev_s (is_iload rfl rfl) ?_
        refine ev_ifN_ne rfl (by omega) (fun h_31 => ?_) (fun h_31 => ?_)
        · have hdo := (xa_bd hx).2.2.2.2.2.2.2.1 m0 i (by omega)
          refine ev_s (is_iload rfl rfl) ?_
          refine ev_s (is_aload_n rfl rfl) ?_
          refine ev_s (is_getR rfl (pu_s hC 29 rfl rfl) rfl rfl (pu_r hC 29 0 rfl rfl)) ?_
          refine ev_s (is_iload_n rfl rfl) ?_
          refine ev_s (is_aaload (k := 1) (m0) rfl (pu_s hC 30 rfl rfl) rfl rfl rfl (by omega) (pu_rows hC (by omega)).1) ?_
          refine ev_s (is_getR rfl (pu_M hC (xm_Mi (m := m0) (by omega))).1 rfl rfl (pu_M hC (xm_Mi (m := m0) (by omega))).2.2) ?_
          refine ev_s (is_iload_n rfl rfl) ?_
          refine ev_s (is_iaload' (i) rfl (pu_M hC (xm_Mi (m := m0) (by omega))).2.1 rfl rfl (by omega) (xa_do hx hm0 (by omega))) ?_
          refine ev_c1 (is_call0 2 [_, _] [] rfl rfl rfl rfl rfl (Nat.le_of_ble_eq_true rfl) rfl rfl rfl) rfl rfl (x_has (b := ho_qb H G m0 i) (i := H (10 + m0) i) (by omega) (by omega)) ?_
          refine ev_ifB_ne rfl (fun h_52 => ?_) (fun h_52 => ?_)
          · have hf : sl_f H G m0 i = some 0 := by unfold sl_f; rw [if_neg h_31, if_pos (by rw [ho_quiet_qd]; exact (ho_qb_at H G m0 i hdo).mp h_52)]
            have hsl2 : sl_run (sl_f H G m0) (i + 1) = some v := by rw [sl_run, hsl]; show (match sl_f H G m0 i with | none => none | some l => some (v + l)) = _; rw [hf]; rfl
            refine ev_s (st_iinc_3 _ rfl rfl (nI_inc _)) ?_
            refine ev_s (is_goto rfl) ?_
            exact ih (i + 1) _ _ _ (by omega) hx hs hsl2
          · have hf : sl_f H G m0 i = some 1 := by unfold sl_f; rw [if_neg h_31, if_neg (by rw [ho_quiet_qd]; exact fun q => h_52 ((ho_qb_at H G m0 i hdo).mpr q))]
            have hsl2 : sl_run (sl_f H G m0) (i + 1) = some (v + 1) := by rw [sl_run, hsl]; show (match sl_f H G m0 i with | none => none | some l => some (v + l)) = _; rw [hf]
            refine ev_s (st_iinc_2 _ rfl rfl (nI_inc _)) ?_
            refine ev_s (st_iinc_3 _ rfl rfl (nI_inc _)) ?_
            refine ev_s (is_goto rfl) ?_
            exact ih (i + 1) _ _ _ (by omega) hx hs hsl2
        · refine ev_s (is_iconst ((-1)) rfl rfl) ?_
          refine ev_ret (is_ireturn rfl rfl (by first | rfl | exact pu_b_nar | decide)) ?_
          have hf : sl_f H G m0 i = none := by unfold sl_f; rw [if_pos h_31]
          exact ⟨rfl, by rw [sl_none (i := i + 1) (by rw [sl_run, hsl]; show (match sl_f H G m0 i with | none => none | some l => some (v + l)) = none; rw [hf]) 12 (by omega)]; rfl, rfl, hs⟩
    exact loop 12 0 0 _ mi (by omega) hx sc_rf rfl
  · refine ev_s (is_bipush ((-5)) rfl rfl) ?_
    refine ev_ret (is_ireturn rfl rfl (by first | rfl | exact pu_b_nar | decide)) ?_
    refine ⟨rfl, ?_, rfl, sc_rf⟩
    simp [an_still, h_5]

theorem ho_sign_lt (H : ho_T) (m h : Nat) (hd : ∀ q, H (10 + q) h < 6) : ho_sign H m h < 6 := by
  unfold ho_sign
  cases ho_mate H m with
  | none => exact (by decide : (0 : Nat) < 6)
  | some o => exact kd_signs_lt _ _ (hd o)
theorem ho_comp_le2 (H : ho_T) (G : ho_G) (m h : Nat) (hm : H 2 m < 10) : ho_comp H G m h ≤ 109 := by
  unfold ho_comp
  cases ho_mate H m with
  | none => exact Nat.zero_le _
  | some o => exact kd_minds_le _ _ _ hm (ho_asks_le _ _ _ _ _)

theorem x_knows {d : Nat} {sh : im_Sh} {mi : im_MI} {mr : im_MR} (hC : pu_C sh mr) {H : ho_T} {G : ho_G} (hx : xa_ok H G mi mr) (m h : Int32) : EvM (d + 5) 85 [.ref 29, .int m, .int h] sh mi mr (fun r sh2 m2 r2 => sh2 = sh ∧ (r = .int (an_knows H G m h) ∧ r2 = mr ∧ sc_ xQ mi m2)) := by
  show Ev (d + 5) 85 0 [.ref 29, .int m, .int h, im_bad, im_bad, im_bad, im_bad, im_bad, im_bad] [] sh mi mr _
  have hn6 := xa_n hx
  have hs : sc_ xQ mi mi := sc_rf
  refine ev_s (is_aload_n rfl rfl) ?_
  refine ev_s (is_iload_n rfl rfl) ?_
  refine ev_c1 (is_callR 2 [_] [] rfl rfl rfl rfl rfl (Nat.le_of_ble_eq_true rfl) rfl rfl rfl (pu_s hC 29 rfl rfl)) rfl rfl (x_noMan' hC hx _) ?_
  refine ev_ifB_eq rfl (fun h_5 => ?_) (fun h_5 => ?_)
  · have h_5 := Decidable.of_not_not h_5
    obtain ⟨m0, rfl, hm0, em0⟩ := ho_isM_n hn6 h_5
    refine ev_s (is_iload_n rfl rfl) ?_
    refine ev_c1 (is_call0 1 [_] [] rfl rfl rfl rfl rfl (Nat.le_of_ble_eq_true rfl) rfl rfl rfl) rfl rfl (x_noHour' _) ?_
    refine ev_ifB_eq rfl (fun h_15 => ?_) (fun h_15 => ?_)
    · have h_15 := Decidable.of_not_not h_15
      obtain ⟨h0, rfl, lh0, uh0, eh0⟩ := ho_rng_n h_15 (by decide) (by decide)
      refine ev_s (is_aload_n rfl rfl) ?_
      refine ev_s (is_iload_n rfl rfl) ?_
      refine ev_c1 (is_callR 2 [_] [] rfl rfl rfl rfl rfl (Nat.le_of_ble_eq_true rfl) rfl rfl rfl (pu_s hC 29 rfl rfl)) rfl rfl (x_mateN hC hx hm0) ?_
      rcases eo : ho_mate H m0 with _ | q
      · refine ev_s (st_istore_n_3 rfl rfl) ?_
        refine ev_s (is_aload_n rfl rfl) ?_
        refine ev_s (is_iload_n rfl rfl) ?_
        refine ev_c1 (is_callR 2 [_] [] rfl rfl rfl rfl rfl (Nat.le_of_ble_eq_true rfl) rfl rfl rfl (pu_s hC 29 rfl rfl)) rfl rfl (x_noMan' hC hx _) ?_
        refine ev_s (is_if_eq_f rfl (pu_b_1 (fun q => absurd (show ho_isM H (-1) = true from q) (by rw [ho_isM_m1]; decide)))) ?_
        refine ev_s (is_iconst (nI 0) rfl rfl) ?_
        refine ev_ret (is_ireturn rfl rfl (by first | rfl | exact pu_b_nar | decide)) ?_
        exact ⟨rfl, by simp [an_knows, eo, h_5, em0, h_15, eh0], rfl, sc_rf⟩
      · have hql := ho_mate_lt eo
        rw [show an_knows H G (nI m0) (nI h0) = nI (lo_bits (fun d => decide (ho_sign (ho_set H (10 + q) h0 d) m0 h0 = ho_sign H m0 h0 ∧ ho_comp (ho_set H (10 + q) h0 d) G m0 h0 = ho_comp H G m0 h0)) 6) by simp [an_knows, eo, kw_b, h_5, em0, h_15, eh0]]
        have loop : ∀ (j i : Nat) (w8 : Value) (ma : im_MI), i + j = 6 → xa_ok H G ma mr → sc_ xQ mi ma → Ev (d + 5) 85 77 [.ref 29, .int (nI m0), .int (nI h0), .int (nI q), .int (nI (ho_sign H m0 h0)), .int (nI (ho_comp H G m0 h0)), .int (nI (lo_bits (fun d => decide (ho_sign (ho_set H (10 + q) h0 d) m0 h0 = ho_sign H m0 h0 ∧ ho_comp (ho_set H (10 + q) h0 d) G m0 h0 = ho_comp H G m0 h0)) i)), .int (nI i), w8] [] sh ma mr (fun r sh2 m2 r2 => sh2 = sh ∧ (r = .int (nI (lo_bits (fun d => decide (ho_sign (ho_set H (10 + q) h0 d) m0 h0 = ho_sign H m0 h0 ∧ ho_comp (ho_set H (10 + q) h0 d) G m0 h0 = ho_comp H G m0 h0)) 6)) ∧ r2 = mr ∧ sc_ xQ mi m2)) := by
          intro j
          induction j with
          | zero =>
            intro i w8 ma hi hx hs
            refine ev_s (is_iload rfl rfl) ?_
            refine ev_s (is_bipush (nI 6) rfl rfl) ?_
            refine ev_s (is_icmp_ge_t rfl (nI_le (by omega) (by omega))) ?_
            refine ev_s (is_iload rfl rfl) ?_
            refine ev_ret (is_ireturn rfl rfl (by first | rfl | exact pu_b_nar | decide)) ?_
            exact ⟨rfl, by rw [show i = 6 by omega], rfl, hs⟩
          | succ j ih =>
            intro i w8 ma hi hx hs
            refine ev_s (is_iload rfl rfl) ?_
            refine ev_s (is_bipush (nI 6) rfl rfl) ?_
            refine ev_s (is_icmp_ge_f rfl (nI_ge (by omega) (by omega))) ?_
            refine ev_s (is_aload_n rfl rfl) ?_
            refine ev_s (is_iload_n rfl rfl) ?_
            refine ev_s (is_iload_n rfl rfl) ?_
            refine ev_s (is_iload rfl rfl) ?_
            refine ev_q1 (is_callR 4 [_, _, _] [] rfl rfl rfl rfl rfl (Nat.le_of_ble_eq_true rfl) rfl rfl rfl (pu_s hC 29 rfl rfl)) rfl rfl (x_dOther hC hx (m := q) (h := h0) (v := i) (by omega) (by omega) (by omega)) (fun r_89 mi mr hq_89 => ?_)
            obtain ⟨rfl, hmr, hsc, hok⟩ := hq_89
            have hmr := hmr.symm
            subst hmr
            have hsc := hsc.mono (xM2_xQ (by omega))
            have hs := hs.trans hsc
            have hx := xa_sc hx hsc
            refine ev_s (st_astore_8 rfl rfl) ?_
            refine ev_s (is_aload rfl rfl) ?_
            refine ev_s (is_iload_n rfl rfl) ?_
            refine ev_c1 (is_callR 2 [_] [] rfl rfl rfl rfl rfl (Nat.le_of_ble_eq_true rfl) rfl rfl rfl (pu_M hC (xm_Mt (m := q) (by omega))).1) rfl rfl (x_signIn hC (xm_Mt (m := q) (by omega)) hok (by omega)) ?_
            rw [← ho_alt_sign (ho_alt_do H q i (h := h0) (by omega)) eo (by omega)]
            have hs1 := ho_sign_lt (ho_set H (10 + q) h0 i) m0 h0 (fun q2 => by unfold ho_set; split; omega; exact (xa_bd hx).2.2.2.2.2.2.2.1 q2 h0 (by omega))
            have hs2 := ho_sign_lt H m0 h0 (fun q2 => (xa_bd hx).2.2.2.2.2.2.2.1 q2 h0 (by omega))
            refine ev_s (is_iload rfl rfl) ?_
            refine ev_icmpN_ne rfl (by omega) (by omega) (fun h_102 => ?_) (fun h_102 => ?_)
            · have hp : (fun d => decide (ho_sign (ho_set H (10 + q) h0 d) m0 h0 = ho_sign H m0 h0 ∧ ho_comp (ho_set H (10 + q) h0 d) G m0 h0 = ho_comp H G m0 h0)) i = false := decide_eq_false (fun q2 => h_102 q2.1)
              refine ev_s (st_iinc_7 _ rfl rfl (nI_inc _)) ?_
              refine ev_s (is_goto rfl) ?_
              have := ih (i + 1) (.ref (56 + 4 * q)) _ (by omega) hx hs
              rw [lo_bits_s] at this
              first
                | (rw [if_pos hp] at this; exact this)
                | (rw [if_neg (fun q => absurd (hp.symm.trans q) (by decide))] at this; exact this)
            · refine ev_s (is_aload_n rfl rfl) ?_
              refine ev_s (is_getR rfl (pu_s hC 29 rfl rfl) rfl rfl (pu_r hC 29 3 rfl rfl)) ?_
              refine ev_s (is_aload_n rfl rfl) ?_
              refine ev_s (is_getR rfl (pu_s hC 29 rfl rfl) rfl rfl (pu_r hC 29 0 rfl rfl)) ?_
              refine ev_s (is_iload_n rfl rfl) ?_
              refine ev_s (is_aaload (k := 1) (m0) rfl (pu_s hC 30 rfl rfl) rfl rfl rfl (by omega) (pu_rows hC (by omega)).1) ?_
              refine ev_s (is_aload rfl rfl) ?_
              refine ev_s (is_iload_n rfl rfl) ?_
              refine ev_q1 (is_callR 4 [_, _, _] [] rfl rfl rfl rfl rfl (Nat.le_of_ble_eq_true rfl) rfl rfl rfl (pu_s hC 104 rfl rfl)) rfl rfl (x_comp hC (xa_r hx) (h := h0) (xm_Mi (m := m0) (by omega)) (xa_m hx hm0) (xm_Mt (m := q) (by omega)) hok (by omega)) (fun r_118 mi mr hq_118 => ?_)
              obtain ⟨rfl, hmr, hsc⟩ := hq_118
              have hmr := hmr.symm
              subst hmr
              have hsc := hsc.mono (xS_xQ (Or.inl rfl))
              have hs := hs.trans hsc
              have hx := xa_sc hx hsc
              rw [← ho_alt_mate (ho_alt_do H q i (h := h0) (by omega)) eo (by omega)]
              have hc1 := ho_comp_le2 (ho_set H (10 + q) h0 i) G m0 h0 (by rw [ho_set_i _ _ _ _ (by omega)]; exact (xa_bd hx).2.2.2.2.2.2.1 m0)
              have hc2 := ho_comp_le' (G := G) hx m0 h0
              refine ev_s (is_iload rfl rfl) ?_
              refine ev_icmpN_ne rfl (by omega) (by omega) (fun h_123 => ?_) (fun h_123 => ?_)
              · have hp : (fun d => decide (ho_sign (ho_set H (10 + q) h0 d) m0 h0 = ho_sign H m0 h0 ∧ ho_comp (ho_set H (10 + q) h0 d) G m0 h0 = ho_comp H G m0 h0)) i = false := decide_eq_false (fun q2 => h_123 q2.2)
                refine ev_s (st_iinc_7 _ rfl rfl (nI_inc _)) ?_
                refine ev_s (is_goto rfl) ?_
                have := ih (i + 1) (.ref (56 + 4 * q)) _ (by omega) hx hs
                rw [lo_bits_s] at this
                first
                  | (rw [if_pos hp] at this; exact this)
                  | (rw [if_neg (fun q => absurd (hp.symm.trans q) (by decide))] at this; exact this)
              · have hp : (fun d => decide (ho_sign (ho_set H (10 + q) h0 d) m0 h0 = ho_sign H m0 h0 ∧ ho_comp (ho_set H (10 + q) h0 d) G m0 h0 = ho_comp H G m0 h0)) i = true := decide_eq_true ⟨h_102, h_123⟩
                refine ev_s (is_iload rfl rfl) ?_
                refine ev_s (is_iconst (nI 1) rfl rfl) ?_
                refine ev_s (is_iload rfl rfl) ?_
                refine ev_s (is_ishl _ rfl (pu_shl1 (by omega))) ?_
                have hbl := lo_bits_lt (fun d => decide (ho_sign (ho_set H (10 + q) h0 d) m0 h0 = ho_sign H m0 h0 ∧ ho_comp (ho_set H (10 + q) h0 d) G m0 h0 = ho_comp H G m0 h0)) i
                refine ev_s (is_ior _ rfl (pu_or hbl)) ?_
                refine ev_s (st_istore_6 rfl rfl) ?_
                refine ev_s (st_iinc_7 _ rfl rfl (nI_inc _)) ?_
                refine ev_s (is_goto rfl) ?_
                have := ih (i + 1) (.ref (56 + 4 * q)) _ (by omega) hx hs
                rw [lo_bits_s] at this
                first
                  | (rw [if_pos hp] at this; exact this)
                  | (rw [if_neg (fun q => absurd (hp.symm.trans q) (by decide))] at this; exact this)
        show Ev _ _ _ [_, _, _, _, _, _, _, _, _] [.int (nI q)] _ _ _ _
        refine ev_s (st_istore_n_3 rfl rfl) ?_
        refine ev_s (is_aload_n rfl rfl) ?_
        refine ev_s (is_iload_n rfl rfl) ?_
        refine ev_c1 (is_callR 2 [_] [] rfl rfl rfl rfl rfl (Nat.le_of_ble_eq_true rfl) rfl rfl rfl (pu_s hC 29 rfl rfl)) rfl rfl (x_noMan' hC hx _) ?_
        refine ev_s (is_if_eq_t rfl (pu_b_0 (fun q2 => q2 (ho_isM_t hn6 hql)))) ?_
        refine ev_s (is_aload_n rfl rfl) ?_
        refine ev_s (is_getR rfl (pu_s hC 29 rfl rfl) rfl rfl (pu_r hC 29 0 rfl rfl)) ?_
        refine ev_s (is_iload_n rfl rfl) ?_
        refine ev_s (is_aaload (k := 1) (q) rfl (pu_s hC 30 rfl rfl) rfl rfl rfl (by omega) (pu_rows hC (by omega)).1) ?_
        refine ev_s (is_iload_n rfl rfl) ?_
        refine ev_c1 (is_callR 2 [_] [] rfl rfl rfl rfl rfl (Nat.le_of_ble_eq_true rfl) rfl rfl rfl (pu_M hC (xm_Mi (m := q) (by omega))).1) rfl rfl (x_signIn hC (xm_Mi (m := q) (by omega)) (xa_m hx hql) (by omega)) ?_
        rw [← ho_sign_o eo (by omega)]
        refine ev_s (st_istore_4 rfl rfl) ?_
        refine ev_s (is_aload_n rfl rfl) ?_
        refine ev_s (is_getR rfl (pu_s hC 29 rfl rfl) rfl rfl (pu_r hC 29 3 rfl rfl)) ?_
        refine ev_s (is_aload_n rfl rfl) ?_
        refine ev_s (is_getR rfl (pu_s hC 29 rfl rfl) rfl rfl (pu_r hC 29 0 rfl rfl)) ?_
        refine ev_s (is_iload_n rfl rfl) ?_
        refine ev_s (is_aaload (k := 1) (m0) rfl (pu_s hC 30 rfl rfl) rfl rfl rfl (by omega) (pu_rows hC (by omega)).1) ?_
        refine ev_s (is_aload_n rfl rfl) ?_
        refine ev_s (is_getR rfl (pu_s hC 29 rfl rfl) rfl rfl (pu_r hC 29 0 rfl rfl)) ?_
        refine ev_s (is_iload_n rfl rfl) ?_
        refine ev_s (is_aaload (k := 1) (q) rfl (pu_s hC 30 rfl rfl) rfl rfl rfl (by omega) (pu_rows hC (by omega)).1) ?_
        refine ev_s (is_iload_n rfl rfl) ?_
        refine ev_q1 (is_callR 4 [_, _, _] [] rfl rfl rfl rfl rfl (Nat.le_of_ble_eq_true rfl) rfl rfl rfl (pu_s hC 104 rfl rfl)) rfl rfl (x_comp hC (xa_r hx) (h := h0) (xm_Mi (m := m0) (by omega)) (xa_m hx hm0) (xm_Mi (m := q) (by omega)) (xa_m hx hql) (by omega)) (fun r_66 mi mr hq_66 => ?_)
        obtain ⟨rfl, hmr, hsc⟩ := hq_66
        have hmr := hmr.symm
        subst hmr
        have hsc := hsc.mono (xS_xQ (Or.inl rfl))
        have hx := xa_sc hx hsc
        rw [← ho_comp_o eo (by omega)]
        refine ev_s (st_istore_5 rfl rfl) ?_
        refine ev_s (is_iconst (nI 0) rfl rfl) ?_
        refine ev_s (st_istore_6 rfl rfl) ?_
        refine ev_s (is_iconst (nI 0) rfl rfl) ?_
        refine ev_s (st_istore_7 rfl rfl) ?_
        exact loop 6 0 _ _ (by omega) hx hsc
    · refine ev_s (is_bipush ((-7)) rfl rfl) ?_
      refine ev_ret (is_ireturn rfl rfl (by first | rfl | exact pu_b_nar | decide)) ?_
      refine ⟨rfl, ?_, rfl, sc_rf⟩
      simp [an_knows, h_5, em0, h_15]
  · refine ev_s (is_bipush ((-5)) rfl rfl) ?_
    refine ev_ret (is_ireturn rfl rfl (by first | rfl | exact pu_b_nar | decide)) ?_
    refine ⟨rfl, ?_, rfl, sc_rf⟩
    simp [an_knows, h_5]

theorem gc_mono : ∀ (n a b : Nat), gc_ok n a b → gc_ok (n + 1) a b
  | 0, _, _, h => Or.inl h
  | n + 1, a, b, h => h.elim Or.inl (fun q => Or.inr (gc_mono n _ _ q))
theorem gc_mono' (n k a b : Nat) (h : gc_ok n a b) : gc_ok (n + k) a b := by
  induction k with
  | zero => exact h
  | succ k ih => exact gc_mono _ _ _ ih
theorem gc_200 {a b : Nat} (h : b < 2 ^ 63) : gc_ok 200 a b := gc_mono' 126 74 a b (gc_pow 63 a b h)
theorem gc_step {a b : Nat} (_h : 0 < b) : Nat.gcd b (a % b) = Nat.gcd a b := by rw [Nat.gcd_comm b, ← Nat.gcd_rec, Nat.gcd_comm]
theorem lN_cmp0 {b : Nat} (h : b < 2 ^ 63) : lg_cmp (lN b) (lN 0) = 0 ↔ b = 0 := by
  unfold lg_cmp
  by_cases h0 : b = 0
  · rw [if_neg (by rw [h0]; decide), if_pos (by rw [h0])]
    exact ⟨fun _ => h0, fun _ => rfl⟩
  · have hp : lN b > lN 0 := (pk_lLT (by decide) h).mpr (by omega)
    rw [if_pos hp]
    exact ⟨fun q => absurd q (by decide), fun q => absurd q h0⟩

theorem x_gcd {d : Nat} {sh : im_Sh} {mi : im_MI} {mr : im_MR} {a b : Nat} (ha : a < 2 ^ 63) (hb : b < 2 ^ 63) : EvM (d) 124 [.long (lN a), .long (lN b)] sh mi mr (ev_R sh (.long (lN (Nat.gcd a b))) mi mr) := by
  show Ev (d) 124 0 [.long (lN a), im_bad, .long (lN b), im_bad, im_bad, im_bad, im_bad] [] sh mi mr _
  have loop : ∀ (j i : Nat) (a b : Nat) (w5 w6 : Value), i + j = 200 → a < 2 ^ 63 → b < 2 ^ 63 → gc_ok j a b → Ev (d) 124 3 [.long (lN a), im_bad, .long (lN b), im_bad, .int (nI i), w5, w6] [] sh mi mr (ev_R sh (.long (lN (Nat.gcd a b))) mi mr) := by
    intro j
    induction j with
    | zero =>
      intro i a b w5 w6 hi ha hb hg
      refine ev_s (is_iload rfl rfl) ?_
      refine ev_s (is_sipush (nI 200) rfl rfl) ?_
      refine ev_s (is_icmp_ge_t rfl (nI_le (by omega) (by omega))) ?_
      refine ev_s (is_lload_n rfl rfl) ?_
      refine ev_ret (is_lreturn rfl) ?_
      exact ⟨by rw [show b = 0 from hg, Nat.gcd_zero_right], rfl, rfl, rfl⟩
    | succ j ih =>
      intro i a b w5 w6 hi ha hb hg
      refine ev_s (is_iload rfl rfl) ?_
      refine ev_s (is_sipush (nI 200) rfl rfl) ?_
      refine ev_s (is_icmp_ge_f rfl (nI_ge (by omega) (by omega))) ?_
      refine ev_s (is_lload_n rfl rfl) ?_
      refine ev_s (is_lconst (lN 0) rfl rfl) ?_
      refine ev_s (is_lcmp _ rfl rfl) ?_
      refine ev_if_eq rfl (fun h_14 => ?_) (fun h_14 => ?_)
      · have h0 := (lN_cmp0 hb).mp h_14
        refine ev_s (is_lload_n rfl rfl) ?_
        refine ev_ret (is_lreturn rfl) ?_
        exact ⟨by rw [h0, Nat.gcd_zero_right], rfl, rfl, rfl⟩
      · have h0 : ¬ b = 0 := fun q => h_14 ((lN_cmp0 hb).mpr q)
        refine ev_s (is_lload_n rfl rfl) ?_
        refine ev_s (is_lload_n rfl rfl) ?_
        refine ev_s (is_lrem _ rfl (fun q => h0 ((pk_lEQ hb (by decide)).mp q)) (pk_lRem ha (by omega) hb)) ?_
        refine ev_s (st_lstore_5 rfl rfl) ?_
        refine ev_s (is_lload_n rfl rfl) ?_
        refine ev_s (st_lstore_n_0 rfl) ?_
        refine ev_s (is_lload rfl rfl) ?_
        refine ev_s (st_lstore_n_2 rfl rfl) ?_
        refine ev_s (st_iinc_4 _ rfl rfl (nI_inc _)) ?_
        refine ev_s (is_goto rfl) ?_
        have hm := Nat.mod_lt a (show 0 < b by omega)
        have := ih (i + 1) b (a % b) (.long (lN (a % b))) im_bad (by omega) hb (by omega) (hg.elim (fun q => absurd q h0) id)
        rw [gc_step (by omega)] at this
        exact this
  refine ev_s (is_iconst (nI 0) rfl rfl) ?_
  refine ev_s (st_istore_4 rfl rfl) ?_
  exact loop 200 0 a b _ _ (by omega) ha hb (gc_200 hb)

theorem x_lowest {d : Nat} {sh : im_Sh} {mi : im_MI} {mr : im_MR} {a b p : Nat} (ha : a < 2 ^ 63) (hb0 : 0 < b) (hb : b < 2 ^ 63) (hp : p < 2) : EvM (d + 1) 123 [.long (lN a), .long (lN b), .int (nI p)] sh mi mr (ev_R sh (.long (lN (lw_ a b p))) mi mr) := by
  show Ev (d + 1) 123 0 [.long (lN a), im_bad, .long (lN b), im_bad, .int (nI p), im_bad, im_bad] [] sh mi mr _
  have hg0 := Nat.gcd_pos_of_pos_right a hb0
  have hgl := Nat.gcd_le_right a hb0
  have hgn : ¬ lN (Nat.gcd a b) = 0 := fun q => absurd ((pk_lEQ (a := Nat.gcd a b) (b := 0) (by omega) (by decide)).mp q) (by omega)
  refine ev_s (is_lload_n rfl rfl) ?_
  refine ev_s (is_lload_n rfl rfl) ?_
  refine ev_c1 (is_call0 2 [_, _] [] rfl rfl rfl rfl rfl (Nat.le_of_ble_eq_true rfl) rfl rfl rfl) rfl rfl (x_gcd ha hb) ?_
  refine ev_s (st_lstore_5 rfl rfl) ?_
  refine ev_s (is_lload rfl rfl) ?_
  refine ev_s (is_lconst (lN 0) rfl rfl) ?_
  refine ev_s (is_lcmp _ rfl rfl) ?_
  refine ev_s (is_if_ne_t rfl (fun q => absurd ((lN_cmp0 (by omega)).mp q) (by omega))) ?_
  refine ev_s (is_iload rfl rfl) ?_
  refine ev_ifN_ne rfl (by omega) (fun h_20 => ?_) (fun h_20 => ?_)
  · refine ev_s (is_lload_n rfl rfl) ?_
    refine ev_s (is_lload rfl rfl) ?_
    first
      | refine ev_s (is_ldiv (lN (a / Nat.gcd a b)) rfl hgn (pk_lDiv ha hg0 (by omega))) ?_
      | refine ev_s (is_ldiv (lN (b / Nat.gcd a b)) rfl hgn (pk_lDiv hb hg0 (by omega))) ?_
    refine ev_ret (is_lreturn rfl) ?_
    refine ⟨?_, rfl, rfl, rfl⟩
    unfold lw_
    first
      | rw [if_pos h_20]
      | rw [if_neg h_20]
  · refine ev_s (is_lload_n rfl rfl) ?_
    refine ev_s (is_goto rfl) ?_
    refine ev_s (is_lload rfl rfl) ?_
    first
      | refine ev_s (is_ldiv (lN (a / Nat.gcd a b)) rfl hgn (pk_lDiv ha hg0 (by omega))) ?_
      | refine ev_s (is_ldiv (lN (b / Nat.gcd a b)) rfl hgn (pk_lDiv hb hg0 (by omega))) ?_
    refine ev_ret (is_lreturn rfl) ?_
    refine ⟨?_, rfl, rfl, rfl⟩
    unfold lw_
    first
      | rw [if_pos h_20]
      | rw [if_neg h_20]

theorem x_unseen {d : Nat} {sh : im_Sh} {mi : im_MI} {mr : im_MR} (hC : pu_C sh mr) {H : ho_T} {G : ho_G} (hx : xa_ok H G mi mr) (m n part : Int32) : EvM (d + 5) 87 [.ref 29, .int m, .int n, .int part] sh mi mr (fun r sh2 m2 r2 => sh2 = sh ∧ (r = .long (an_unseen H G m n part) ∧ r2 = mr ∧ sc_ xQ mi m2)) := by
  show Ev (d + 5) 87 0 [.ref 29, .int m, .int n, .int part, im_bad, im_bad, im_bad, im_bad, im_bad, im_bad] [] sh mi mr _
  have hn6 := xa_n hx
  have hs : sc_ xQ mi mi := sc_rf
  refine ev_s (is_aload_n rfl rfl) ?_
  refine ev_s (is_iload_n rfl rfl) ?_
  refine ev_c1 (is_callR 2 [_] [] rfl rfl rfl rfl rfl (Nat.le_of_ble_eq_true rfl) rfl rfl rfl (pu_s hC 29 rfl rfl)) rfl rfl (x_noMan' hC hx _) ?_
  refine ev_ifB_ne rfl (fun h_5 => ?_) (fun h_5 => ?_)
  · refine ev_s (is_ldc2 ((-4611686018427387904)) rfl rfl) ?_
    refine ev_ret (is_lreturn rfl) ?_
    refine ⟨rfl, ?_, rfl, sc_rf⟩
    simp [an_unseen, h_5]
    all_goals (try rfl)
  · have h_5 := Decidable.of_not_not h_5
    obtain ⟨m0, rfl, hm0, em0⟩ := ho_isM_n hn6 h_5
    refine ev_s (is_iload_n rfl rfl) ?_
    refine ev_s (is_iconst (nI 0) rfl rfl) ?_
    refine ev_s (is_bipush (nI 8) rfl rfl) ?_
    refine ev_c1 (is_call0 3 [_, _, _] [] rfl rfl rfl rfl rfl (Nat.le_of_ble_eq_true rfl) rfl rfl rfl) rfl rfl (x_within' _ _ _) ?_
    refine ev_ifB_eq rfl (fun h_15 => ?_) (fun h_15 => ?_)
    · refine ev_s (is_ldc2 ((-4611686018427387904)) rfl rfl) ?_
      refine ev_ret (is_lreturn rfl) ?_
      refine ⟨rfl, ?_, rfl, sc_rf⟩
      simp [an_unseen, h_5, em0, h_15]
      all_goals (try rfl)
    · obtain ⟨n0, rfl, ln0, un0, en0⟩ := ho_rng_n h_15 (by decide) (by decide)
      refine ev_s (is_iload_n rfl rfl) ?_
      refine ev_s (is_iconst (nI 0) rfl rfl) ?_
      refine ev_s (is_iconst (nI 1) rfl rfl) ?_
      refine ev_c1 (is_call0 3 [_, _, _] [] rfl rfl rfl rfl rfl (Nat.le_of_ble_eq_true rfl) rfl rfl rfl) rfl rfl (x_within' _ _ _) ?_
      refine ev_ifB_ne rfl (fun h_24 => ?_) (fun h_24 => ?_)
      · obtain ⟨p0, rfl, lp0, up0, ep0⟩ := ho_rng_n h_24 (by decide) (by decide)
        refine ev_s (is_aload_n rfl rfl) ?_
        refine ev_s (is_iload_n rfl rfl) ?_
        refine ev_c1 (is_callR 2 [_] [] rfl rfl rfl rfl rfl (Nat.le_of_ble_eq_true rfl) rfl rfl rfl (pu_s hC 29 rfl rfl)) rfl rfl (x_mate hC hx hm0) ?_
        refine ev_s (st_astoreO_4 rfl rfl) ?_
        refine ev_s (is_lconst (lN 1) rfl rfl) ?_
        refine ev_s (st_lstore_5 rfl (xoc_nL _)) ?_
        refine ev_s (is_lconst (lN 1) rfl rfl) ?_
        refine ev_s (st_lstore_7 rfl rfl) ?_
        refine ev_s (is_iconst (nI 0) rfl rfl) ?_
        refine ev_s (st_istore_9 rfl rfl) ?_
        rw [show an_unseen H G (nI m0) (nI n0) (nI p0) = lN (lw_ (lo_prod (us_ H G m0) n0) (lo_prod (us2_ H G m0) n0) p0) by simp [an_unseen, h_5, em0, h_15, en0, h_24, ep0]]
        have loop : ∀ (j i : Nat) (ma : im_MI), i + j = n0 → xa_ok H G ma mr → sc_ xQ mi ma → Ev (d + 5) 87 47 [.ref 29, .int (nI m0), .int (nI n0), .int (nI p0), xoc (ho_mcell H m0), .long (lN (lo_prod (us_ H G m0) i)), im_bad, .long (lN (lo_prod (us2_ H G m0) i)), im_bad, .int (nI i)] [] sh ma mr (fun r sh2 m2 r2 => sh2 = sh ∧ (r = .long (lN (lw_ (lo_prod (us_ H G m0) n0) (lo_prod (us2_ H G m0) n0) p0)) ∧ r2 = mr ∧ sc_ xQ mi m2)) := by
          intro j
          induction j with
          | zero =>
            intro i ma hi hx hs
            have hp1 : lo_prod (us_ H G m0) i ≤ 100 ^ i := lo_prod_le i (fun q _ => by unfold us_; split <;> omega)
            have hp3 : lo_prod (us2_ H G m0) i ≤ 100 ^ i := lo_prod_le i (fun q _ => by unfold us2_; split <;> omega)
            have hp2 : 0 < lo_prod (us2_ H G m0) i := lo_prod_pos i (fun q _ => by unfold us2_; split <;> omega)
            have hp4 : 100 ^ i ≤ 100 ^ 8 := Nat.pow_le_pow_right (by decide) (by omega)
            have hp5 : 100 ^ 8 = 10000000000000000 := by decide
            refine ev_s (is_iload rfl rfl) ?_
            refine ev_s (is_iload_n rfl rfl) ?_
            refine ev_s (is_icmp_ge_t rfl (nI_le (by omega) (by omega))) ?_
            refine ev_s (is_lload rfl rfl) ?_
            refine ev_s (is_lload rfl rfl) ?_
            refine ev_s (is_iload_n rfl rfl) ?_
            refine ev_c1 (is_call0 3 [_, _, _] [] rfl rfl rfl rfl rfl (Nat.le_of_ble_eq_true rfl) rfl rfl rfl) rfl rfl (x_lowest (a := lo_prod (us_ H G m0) i) (b := lo_prod (us2_ H G m0) i) (p := p0) (by omega) hp2 (by omega) (by omega)) ?_
            refine ev_ret (is_lreturn rfl) ?_
            exact ⟨rfl, by rw [show i = n0 by omega], rfl, hs⟩
          | succ j ih =>
            intro i ma hi hx hs
            refine ev_s (is_iload rfl rfl) ?_
            refine ev_s (is_iload_n rfl rfl) ?_
            refine ev_s (is_icmp_ge_f rfl (nI_ge (by omega) (by omega))) ?_
            refine ev_s (is_aload_n rfl rfl) ?_
            refine ev_s (is_getR rfl (pu_s hC 29 rfl rfl) rfl rfl (pu_r hC 29 3 rfl rfl)) ?_
            refine ev_s (is_aload_n rfl rfl) ?_
            refine ev_s (is_getR rfl (pu_s hC 29 rfl rfl) rfl rfl (pu_r hC 29 0 rfl rfl)) ?_
            refine ev_s (is_iload_n rfl rfl) ?_
            refine ev_s (is_aaload (k := 1) (m0) rfl (pu_s hC 30 rfl rfl) rfl rfl rfl (by omega) (pu_rows hC (by omega)).1) ?_
            refine ev_s (is_aloadO rfl rfl) ?_
            refine ev_s (is_iload rfl rfl) ?_
            refine ev_q1 (is_callR 4 [_, _, _] [] rfl rfl rfl rfl rfl (Nat.le_of_ble_eq_true rfl) rfl rfl rfl (pu_s hC 104 rfl rfl)) rfl (by cases ho_mcell H m0 <;> rfl) (x_compO hC (xa_r hx) (h := i) (xm_Mi (m := m0) (by omega)) (xa_m hx hm0) (xa_mate hx m0) (by omega)) (fun r_67 mi mr hq_67 => ?_)
            obtain ⟨rfl, hmr, hsc⟩ := hq_67
            have hmr := hmr.symm
            subst hmr
            rw [← ho_comp_md H G m0 i (by omega)]
            have hsc := hsc.mono (xS_xQ (Or.inl rfl))
            have hs := hs.trans hsc
            have hx := xa_sc hx hsc
            have hcl := ho_comp_le' (G := G) hx m0 i
            refine ev_ifN_ne rfl (by omega) (fun h_70 => ?_) (fun h_70 => ?_)
            · refine ev_s (is_lload rfl rfl) ?_
              refine ev_s (is_bipush (nI 100) rfl rfl) ?_
              refine ev_s (is_aload_n rfl rfl) ?_
              refine ev_s (is_getR rfl (pu_s hC 29 rfl rfl) rfl rfl (pu_r hC 29 3 rfl rfl)) ?_
              refine ev_s (is_iconst (nI 2) rfl rfl) ?_
              refine ev_s (is_aload_n rfl rfl) ?_
              refine ev_s (is_getR rfl (pu_s hC 29 rfl rfl) rfl rfl (pu_r hC 29 0 rfl rfl)) ?_
              refine ev_s (is_iload_n rfl rfl) ?_
              refine ev_s (is_aaload (k := 1) (m0) rfl (pu_s hC 30 rfl rfl) rfl rfl rfl (by omega) (pu_rows hC (by omega)).1) ?_
              refine ev_s (is_aloadO rfl rfl) ?_
              refine ev_s (is_iload rfl rfl) ?_
              refine ev_q1 (is_callR 5 [_, _, _, _] [_, _] rfl rfl rfl rfl rfl (Nat.le_of_ble_eq_true rfl) rfl rfl rfl (pu_s hC 104 rfl rfl)) rfl (by cases ho_mcell H m0 <;> rfl) (x_saysO hC (xa_r hx) (h := i) (xm_Mi (m := m0) (by omega)) (xa_m hx hm0) (xa_mate hx m0) (by omega) (p := 2) (by decide)) (fun r_95 mi mr hq_95 => ?_)
              obtain ⟨rfl, hmr, hsc⟩ := hq_95
              have hmr := hmr.symm
              subst hmr
              rw [← ho_asks_md H G 2 m0 i (by omega)]
              have hsc := hsc.mono (xS_xQ (Or.inl rfl))
              have hs := hs.trans hsc
              have hx := xa_sc hx hsc
              have hal := ho_asks_le H G 2 m0 i
              refine ev_s (is_isub _ rfl (pk_sub (by omega))) ?_
              refine ev_s (is_i2l _ rfl (nI_l (by omega))) ?_
              refine ev_s (is_lmul _ rfl (lN_mul _ _)) ?_
              refine ev_s (st_lstore_5 rfl (xoc_nL _)) ?_
              refine ev_s (is_lload rfl rfl) ?_
              refine ev_s (is_ldc2 (lN 100) rfl rfl) ?_
              refine ev_s (is_lmul _ rfl (lN_mul _ _)) ?_
              refine ev_s (st_lstore_7 rfl rfl) ?_
              refine ev_s (st_iinc_9 _ rfl rfl (nI_inc _)) ?_
              refine ev_s (is_goto rfl) ?_
              have := ih (i + 1) _ (by omega) hx hs
              rw [lo_prod, lo_prod, us_, us2_] at this
              first
                | (rw [if_neg h_70, if_neg h_70] at this; exact this)
                | (rw [if_pos h_70, if_pos h_70, Nat.mul_one, Nat.mul_one] at this; exact this)
            · refine ev_s (is_goto rfl) ?_
              refine ev_s (st_iinc_9 _ rfl rfl (nI_inc _)) ?_
              refine ev_s (is_goto rfl) ?_
              have := ih (i + 1) _ (by omega) hx hs
              rw [lo_prod, lo_prod, us_, us2_] at this
              first
                | (rw [if_neg h_70, if_neg h_70] at this; exact this)
                | (rw [if_pos h_70, if_pos h_70, Nat.mul_one, Nat.mul_one] at this; exact this)
        exact loop n0 0 mi (by omega) hx sc_rf
      · refine ev_s (is_ldc2 ((-4611686018427387904)) rfl rfl) ?_
        refine ev_ret (is_lreturn rfl) ?_
        refine ⟨rfl, ?_, rfl, sc_rf⟩
        simp [an_unseen, h_5, em0, h_15, en0, h_24]
        all_goals (try rfl)
