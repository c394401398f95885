/-! ===== PURE, the reference: kinds, did, film ===== -/

theorem r_kinds {d : Nat} {sh : im_Sh} {mi : im_MI} {mr : im_MR} (hC : pu_C sh mr) {H K : ho_T} {G : ho_G} (hz : rz_ H K G mi mi) (s m sort : Int32) : EvM (d + 5) 191 [.ref 110, .int s, .int m, .int sort] sh mi mr (fun r sh2 m2 r2 => sh2 = sh ∧ (r = .int (an_kinds H K G s m sort) ∧ r2 = mr ∧ rz_ (H) (K) G mi m2)) := by
  show Ev (d + 5) 191 0 [.ref 110, .int s, .int m, .int sort, im_bad, im_bad, im_bad, im_bad, im_bad, im_bad] [] sh mi mr _
  have hn6 := rz_n hz
  refine ev_s (is_aload_n rfl rfl) ?_
  refine ev_s (is_iload_n rfl rfl) ?_
  refine ev_s (is_iload_n rfl rfl) ?_
  refine ev_c1 (is_callR 3 [_, _] [] rfl rfl rfl rfl rfl (Nat.le_of_ble_eq_true rfl) rfl rfl rfl (pu_s hC 110 rfl rfl)) rfl rfl (r_toW hC hz _ _) ?_
  refine ev_s (st_istore_4 rfl rfl) ?_
  refine ev_s (is_iload rfl rfl) ?_
  refine ev_if_eq rfl (fun h_10 => ?_) (fun h_10 => ?_)
  · have e0 : rf_d H K s m = nI 0 := h_10
    obtain ⟨hrs, hrm⟩ := rf_d_0 e0
    obtain ⟨s0, rfl, hs4, hk4, hs12, es0⟩ := rf_s_0 hrs
    obtain ⟨m0, rfl, hm0, em0⟩ := ho_isM_n hn6 hrm
    have hm6 : m0 < 6 := by omega
    refine ev_s (is_iload_n rfl rfl) ?_
    refine ev_s (is_iconst (nI 0) rfl rfl) ?_
    refine ev_s (is_iconst (nI 3) rfl rfl) ?_
    refine ev_c1 (is_call0 3 [_, _, _] [] rfl rfl rfl rfl rfl (Nat.le_of_ble_eq_true rfl) rfl rfl rfl) rfl rfl (r_in' _ _ _) ?_
    refine ev_ifB_ne rfl (fun h_22 => ?_) (fun h_22 => ?_)
    · obtain ⟨z0, rfl, lz0, uz0, ez0⟩ := ho_rng_n h_22 (by decide) (by decide)
      rw [show rf_d H K (nI s0) (nI m0) = nI 0 from e0]
      rcases (show z0 = 0 ∨ z0 = 1 ∨ z0 = 2 ∨ z0 = 3 by omega) with rfl | rfl | rfl | rfl
      · have ea : an_kinds H K G (nI s0) (nI m0) (nI 0) = (match some m0 with | none => -6 | some w => nI (lo_bits (fun v => ho_agr (ho_set H 1 w v) K G s0 m0) 6)) := by
          unfold an_kinds
          rw [if_pos e0, if_pos (show ho_rng (nI 0) (nI 0) (nI 3) = true by decide), es0, em0, show jn (nI 0) = 0 by decide]
          rfl
        rw [ea]
        show Ev _ _ _ _ _ _ _ _ (fun r sh2 m2 r2 => sh2 = sh ∧ (r = .int (nI (lo_bits (fun v => ho_agr (ho_set H 1 m0 v) K G s0 m0) 6)) ∧ r2 = mr ∧ rz_ (H) (K) G mi m2))
        have hW : m0 < 6 := hm6
        have hk1 := (rz_bd hz).2.2.2.2.2.1 m0
        have hk2 := (rz_bd hz).2.2.2.2.2.2.1 m0
        have loop : ∀ (j i : Nat) (Hc : ho_T) (ma : im_MI), i + j = 6 → rz_ Hc K G mi ma → (∀ u, ho_set (ho_set Hc 1 m0 u) 2 m0 (H 2 m0) = ho_set H 1 m0 u) → Ev (d + 5) 191 77 [.ref 110, .int (nI s0), .int (nI m0), .int (nI 0), .int (nI 0), .int (nI m0), .int (nI (H 1 m0)), .int (nI (H 2 m0)), .int (nI (lo_bits (fun v => ho_agr (ho_set H 1 m0 v) K G s0 m0) i)), .int (nI i)] [] sh ma mr (fun r sh2 m2 r2 => sh2 = sh ∧ (r = .int (nI (lo_bits (fun v => ho_agr (ho_set H 1 m0 v) K G s0 m0) 6)) ∧ r2 = mr ∧ rz_ (H) (K) G mi m2)) := by
          intro j
          induction j with
          | zero =>
            intro i Hc ma hi hz hset
            refine ev_s (is_iload rfl rfl) ?_
            refine ev_s (is_iload_n rfl rfl) ?_
            refine ev_s (is_iconst (nI 2) rfl rfl) ?_
            refine ev_s (is_irem _ rfl (by decide) rfl) ?_
            refine ev_s (is_if_ne_f rfl (by decide)) ?_
            refine ev_s (is_bipush (nI 6) rfl rfl) ?_
            refine ev_s (is_goto rfl) ?_
            refine ev_s (is_icmp_ge_t rfl (nI_le (by omega) (by omega))) ?_
            refine ev_s (is_aload_n rfl rfl) ?_
            refine ev_s (is_getR rfl (pu_s hC 110 rfl rfl) rfl rfl (pu_r hC 110 1 rfl rfl)) ?_
            refine ev_s (is_iload rfl rfl) ?_
            refine ev_s (is_iload rfl rfl) ?_
            refine ev_s (is_iastore (m0) rfl (pu_s hC 111 rfl rfl) rfl rfl (by omega)) ?_
            refine ev_s (is_aload_n rfl rfl) ?_
            refine ev_s (is_getR rfl (pu_s hC 110 rfl rfl) rfl rfl (pu_r hC 110 2 rfl rfl)) ?_
            refine ev_s (is_iload rfl rfl) ?_
            refine ev_s (is_iload rfl rfl) ?_
            refine ev_s (is_iastore (m0) rfl (pu_s hC 112 rfl rfl) rfl rfl (by omega)) ?_
            refine ev_s (is_iload rfl rfl) ?_
            refine ev_ret (is_ireturn rfl rfl (by first | rfl | exact pu_b_nar | decide)) ?_
            have hz := rz_kd (c := 1) hz (m := m0) (v := H 1 m0) hW (Or.inl ⟨rfl, by omega⟩)
            have hz := rz_kd (c := 2) hz (m := m0) (v := H 2 m0) hW (Or.inr ⟨rfl, by omega⟩)
            rw [hset (H 1 m0), ho_set_same] at hz
            exact ⟨rfl, by rw [show i = 6 by omega], rfl, hz⟩
          | succ j ih =>
            intro i Hc ma hi hz hset
            refine ev_s (is_iload rfl rfl) ?_
            refine ev_s (is_iload_n rfl rfl) ?_
            refine ev_s (is_iconst (nI 2) rfl rfl) ?_
            refine ev_s (is_irem _ rfl (by decide) rfl) ?_
            refine ev_s (is_if_ne_f rfl (by decide)) ?_
            refine ev_s (is_bipush (nI 6) rfl rfl) ?_
            refine ev_s (is_goto rfl) ?_
            refine ev_s (is_icmp_ge_f rfl (nI_ge (by omega) (by omega))) ?_
            refine ev_s (is_aload_n rfl rfl) ?_
            refine ev_s (is_getR rfl (pu_s hC 110 rfl rfl) rfl rfl (pu_r hC 110 1 rfl rfl)) ?_
            refine ev_s (is_iload rfl rfl) ?_
            refine ev_s (is_iload_n rfl rfl) ?_
            refine ev_s (is_iconst (nI 2) rfl rfl) ?_
            refine ev_s (is_irem _ rfl (by decide) rfl) ?_
            refine ev_s (is_if_ne_f rfl (by decide)) ?_
            refine ev_s (is_iload rfl rfl) ?_
            refine ev_s (is_goto rfl) ?_
            refine ev_s (is_iastore (m0) rfl (pu_s hC 111 rfl rfl) rfl rfl (by omega)) ?_
            refine ev_s (is_aload_n rfl rfl) ?_
            refine ev_s (is_getR rfl (pu_s hC 110 rfl rfl) rfl rfl (pu_r hC 110 2 rfl rfl)) ?_
            refine ev_s (is_iload rfl rfl) ?_
            refine ev_s (is_iload_n rfl rfl) ?_
            refine ev_s (is_iconst (nI 2) rfl rfl) ?_
            refine ev_s (is_irem _ rfl (by decide) rfl) ?_
            refine ev_s (is_iconst (nI 1) rfl rfl) ?_
            refine ev_s (is_icmp_ne_t rfl (by decide)) ?_
            refine ev_s (is_iload rfl rfl) ?_
            refine ev_s (is_iastore (m0) rfl (pu_s hC 112 rfl rfl) rfl rfl (by omega)) ?_
            have hz := rz_kd (c := 1) hz (m := m0) (v := i) hW (Or.inl ⟨rfl, by omega⟩)
            have hz := rz_kd (c := 2) hz (m := m0) (v := H 2 m0) hW (Or.inr ⟨rfl, by omega⟩)
            rw [hset i] at hz
            refine ev_s (is_iload rfl rfl) ?_
            refine ev_s (is_aload_n rfl rfl) ?_
            refine ev_s (is_iload_n rfl rfl) ?_
            refine ev_s (is_iload_n rfl rfl) ?_
            refine ev_q1 (is_callR 3 [_, _] [_] rfl rfl rfl rfl rfl (Nat.le_of_ble_eq_true rfl) rfl rfl rfl (pu_s hC 110 rfl rfl)) rfl rfl (r_unlike hC hz (s := s0) (m := m0) hs4 hs12 hm6) (fun r_141 mi mr hq_141 => ?_)
            obtain ⟨rfl, hmr, hsc⟩ := hq_141
            have hmr := hmr.symm
            subst hmr
            have hz := rz_sS hz hsc
            refine ev_s (is_iconst ((-1)) rfl rfl) ?_
            refine ev_icmp_ne rfl (fun h_145 => ?_) (fun h_145 => ?_)
            · have hp : ho_agr (ho_set H 1 m0 i) K G s0 m0 = false := decide_eq_false (fun qq => h_145 ((pu_o_none _ (fo_lt (f := fun h => ho_comp (ho_set H 1 m0 i) G m0 h) hs12)).mpr qq))
              refine ev_s (is_iconst (nI 0) rfl rfl) ?_
              have hbl := lo_bits_lt (fun v => ho_agr (ho_set H 1 m0 v) K G s0 m0) i
              first
                | refine ev_s (is_ior _ rfl (pu_or hbl)) ?_
                | refine ev_s (is_ior _ rfl (pu_or0 _)) ?_
              refine ev_s (st_istore_8 rfl rfl) ?_
              refine ev_s (st_iinc_9 _ rfl rfl (nI_inc _)) ?_
              refine ev_s (is_goto rfl) ?_
              have := ih (i + 1) _ _ (by omega) hz (fun u => kd_0 H m0 u i)
              rw [lo_bits_s] at this
              first
                | (rw [if_pos hp] at this; exact this)
                | (rw [if_neg (fun q => absurd (hp.symm.trans q) (by decide)), Nat.add_zero] at this; exact this)
            · have hp : ho_agr (ho_set H 1 m0 i) K G s0 m0 = true := decide_eq_true ((pu_o_none _ (fo_lt (f := fun h => ho_comp (ho_set H 1 m0 i) G m0 h) hs12)).mp (Decidable.of_not_not h_145))
              refine ev_s (is_iconst (nI 1) rfl rfl) ?_
              refine ev_s (is_iload rfl rfl) ?_
              refine ev_s (is_ishl _ rfl (pu_shl1 (by omega))) ?_
              refine ev_s (is_goto rfl) ?_
              have hbl := lo_bits_lt (fun v => ho_agr (ho_set H 1 m0 v) K G s0 m0) i
              first
                | refine ev_s (is_ior _ rfl (pu_or hbl)) ?_
                | refine ev_s (is_ior _ rfl (pu_or0 _)) ?_
              refine ev_s (st_istore_8 rfl rfl) ?_
              refine ev_s (st_iinc_9 _ rfl rfl (nI_inc _)) ?_
              refine ev_s (is_goto rfl) ?_
              have := ih (i + 1) _ _ (by omega) hz (fun u => kd_0 H m0 u i)
              rw [lo_bits_s] at this
              first
                | (rw [if_pos hp] at this; exact this)
                | (rw [if_neg (fun q => absurd (hp.symm.trans q) (by decide)), Nat.add_zero] at this; exact this)
        refine ev_s (is_iload_n rfl rfl) ?_
        refine ev_s (is_iconst (nI 2) rfl rfl) ?_
        refine ev_s (is_icmp_ge_f rfl (by decide)) ?_
        refine ev_s (is_iload_n rfl rfl) ?_
        refine ev_s (is_goto rfl) ?_
        refine ev_s (st_istore_5 rfl rfl) ?_
        refine ev_s (is_iload rfl rfl) ?_
        refine ev_s (is_iconst ((-1)) rfl rfl) ?_
        refine ev_s (is_icmp_ne_t rfl (pu_n1 (by omega))) ?_
        refine ev_s (is_aload_n rfl rfl) ?_
        refine ev_s (is_getR rfl (pu_s hC 110 rfl rfl) rfl rfl (pu_r hC 110 1 rfl rfl)) ?_
        refine ev_s (is_iload rfl rfl) ?_
        refine ev_s (is_iaload' (m0) rfl (pu_s hC 111 rfl rfl) rfl rfl (by omega) (rz_k hz (by omega))) ?_
        refine ev_s (st_istore_6 rfl rfl) ?_
        refine ev_s (is_aload_n rfl rfl) ?_
        refine ev_s (is_getR rfl (pu_s hC 110 rfl rfl) rfl rfl (pu_r hC 110 2 rfl rfl)) ?_
        refine ev_s (is_iload rfl rfl) ?_
        refine ev_s (is_iaload' (m0) rfl (pu_s hC 112 rfl rfl) rfl rfl (by omega) (rz_m hz (by omega))) ?_
        refine ev_s (st_istore_7 rfl rfl) ?_
        refine ev_s (is_iconst (nI 0) rfl rfl) ?_
        refine ev_s (st_istore_8 rfl rfl) ?_
        refine ev_s (is_iconst (nI 0) rfl rfl) ?_
        refine ev_s (st_istore_9 rfl rfl) ?_
        exact loop 6 0 H mi (by omega) hz (fun u => kd_12 H m0 u)
      · have ea : an_kinds H K G (nI s0) (nI m0) (nI 1) = (match some m0 with | none => -6 | some w => nI (lo_bits (fun v => ho_agr (ho_set H 2 w v) K G s0 m0) 10)) := by
          unfold an_kinds
          rw [if_pos e0, if_pos (show ho_rng (nI 0) (nI 1) (nI 3) = true by decide), es0, em0, show jn (nI 1) = 1 by decide]
          rfl
        rw [ea]
        show Ev _ _ _ _ _ _ _ _ (fun r sh2 m2 r2 => sh2 = sh ∧ (r = .int (nI (lo_bits (fun v => ho_agr (ho_set H 2 m0 v) K G s0 m0) 10)) ∧ r2 = mr ∧ rz_ (H) (K) G mi m2))
        have hW : m0 < 6 := hm6
        have hk1 := (rz_bd hz).2.2.2.2.2.1 m0
        have hk2 := (rz_bd hz).2.2.2.2.2.2.1 m0
        have loop : ∀ (j i : Nat) (Hc : ho_T) (ma : im_MI), i + j = 10 → rz_ Hc K G mi ma → (∀ u, ho_set (ho_set Hc 1 m0 (H 1 m0)) 2 m0 u = ho_set H 2 m0 u) → Ev (d + 5) 191 77 [.ref 110, .int (nI s0), .int (nI m0), .int (nI 1), .int (nI 0), .int (nI m0), .int (nI (H 1 m0)), .int (nI (H 2 m0)), .int (nI (lo_bits (fun v => ho_agr (ho_set H 2 m0 v) K G s0 m0) i)), .int (nI i)] [] sh ma mr (fun r sh2 m2 r2 => sh2 = sh ∧ (r = .int (nI (lo_bits (fun v => ho_agr (ho_set H 2 m0 v) K G s0 m0) 10)) ∧ r2 = mr ∧ rz_ (H) (K) G mi m2)) := by
          intro j
          induction j with
          | zero =>
            intro i Hc ma hi hz hset
            refine ev_s (is_iload rfl rfl) ?_
            refine ev_s (is_iload_n rfl rfl) ?_
            refine ev_s (is_iconst (nI 2) rfl rfl) ?_
            refine ev_s (is_irem _ rfl (by decide) rfl) ?_
            refine ev_s (is_if_ne_t rfl (by decide)) ?_
            refine ev_s (is_bipush (nI 10) rfl rfl) ?_
            refine ev_s (is_icmp_ge_t rfl (nI_le (by omega) (by omega))) ?_
            refine ev_s (is_aload_n rfl rfl) ?_
            refine ev_s (is_getR rfl (pu_s hC 110 rfl rfl) rfl rfl (pu_r hC 110 1 rfl rfl)) ?_
            refine ev_s (is_iload rfl rfl) ?_
            refine ev_s (is_iload rfl rfl) ?_
            refine ev_s (is_iastore (m0) rfl (pu_s hC 111 rfl rfl) rfl rfl (by omega)) ?_
            refine ev_s (is_aload_n rfl rfl) ?_
            refine ev_s (is_getR rfl (pu_s hC 110 rfl rfl) rfl rfl (pu_r hC 110 2 rfl rfl)) ?_
            refine ev_s (is_iload rfl rfl) ?_
            refine ev_s (is_iload rfl rfl) ?_
            refine ev_s (is_iastore (m0) rfl (pu_s hC 112 rfl rfl) rfl rfl (by omega)) ?_
            refine ev_s (is_iload rfl rfl) ?_
            refine ev_ret (is_ireturn rfl rfl (by first | rfl | exact pu_b_nar | decide)) ?_
            have hz := rz_kd (c := 1) hz (m := m0) (v := H 1 m0) hW (Or.inl ⟨rfl, by omega⟩)
            have hz := rz_kd (c := 2) hz (m := m0) (v := H 2 m0) hW (Or.inr ⟨rfl, by omega⟩)
            rw [hset (H 2 m0), ho_set_same] at hz
            exact ⟨rfl, by rw [show i = 10 by omega], rfl, hz⟩
          | succ j ih =>
            intro i Hc ma hi hz hset
            refine ev_s (is_iload rfl rfl) ?_
            refine ev_s (is_iload_n rfl rfl) ?_
            refine ev_s (is_iconst (nI 2) rfl rfl) ?_
            refine ev_s (is_irem _ rfl (by decide) rfl) ?_
            refine ev_s (is_if_ne_t rfl (by decide)) ?_
            refine ev_s (is_bipush (nI 10) rfl rfl) ?_
            refine ev_s (is_icmp_ge_f rfl (nI_ge (by omega) (by omega))) ?_
            refine ev_s (is_aload_n rfl rfl) ?_
            refine ev_s (is_getR rfl (pu_s hC 110 rfl rfl) rfl rfl (pu_r hC 110 1 rfl rfl)) ?_
            refine ev_s (is_iload rfl rfl) ?_
            refine ev_s (is_iload_n rfl rfl) ?_
            refine ev_s (is_iconst (nI 2) rfl rfl) ?_
            refine ev_s (is_irem _ rfl (by decide) rfl) ?_
            refine ev_s (is_if_ne_t rfl (by decide)) ?_
            refine ev_s (is_iload rfl rfl) ?_
            refine ev_s (is_iastore (m0) rfl (pu_s hC 111 rfl rfl) rfl rfl (by omega)) ?_
            refine ev_s (is_aload_n rfl rfl) ?_
            refine ev_s (is_getR rfl (pu_s hC 110 rfl rfl) rfl rfl (pu_r hC 110 2 rfl rfl)) ?_
            refine ev_s (is_iload rfl rfl) ?_
            refine ev_s (is_iload_n rfl rfl) ?_
            refine ev_s (is_iconst (nI 2) rfl rfl) ?_
            refine ev_s (is_irem _ rfl (by decide) rfl) ?_
            refine ev_s (is_iconst (nI 1) rfl rfl) ?_
            refine ev_s (is_icmp_ne_f rfl (by decide)) ?_
            refine ev_s (is_iload rfl rfl) ?_
            refine ev_s (is_goto rfl) ?_
            refine ev_s (is_iastore (m0) rfl (pu_s hC 112 rfl rfl) rfl rfl (by omega)) ?_
            have hz := rz_kd (c := 1) hz (m := m0) (v := H 1 m0) hW (Or.inl ⟨rfl, by omega⟩)
            have hz := rz_kd (c := 2) hz (m := m0) (v := i) hW (Or.inr ⟨rfl, by omega⟩)
            rw [hset i] at hz
            refine ev_s (is_iload rfl rfl) ?_
            refine ev_s (is_aload_n rfl rfl) ?_
            refine ev_s (is_iload_n rfl rfl) ?_
            refine ev_s (is_iload_n rfl rfl) ?_
            refine ev_q1 (is_callR 3 [_, _] [_] rfl rfl rfl rfl rfl (Nat.le_of_ble_eq_true rfl) rfl rfl rfl (pu_s hC 110 rfl rfl)) rfl rfl (r_unlike hC hz (s := s0) (m := m0) hs4 hs12 hm6) (fun r_141 mi mr hq_141 => ?_)
            obtain ⟨rfl, hmr, hsc⟩ := hq_141
            have hmr := hmr.symm
            subst hmr
            have hz := rz_sS hz hsc
            refine ev_s (is_iconst ((-1)) rfl rfl) ?_
            refine ev_icmp_ne rfl (fun h_145 => ?_) (fun h_145 => ?_)
            · have hp : ho_agr (ho_set H 2 m0 i) K G s0 m0 = false := decide_eq_false (fun qq => h_145 ((pu_o_none _ (fo_lt (f := fun h => ho_comp (ho_set H 2 m0 i) G m0 h) hs12)).mpr qq))
              refine ev_s (is_iconst (nI 0) rfl rfl) ?_
              have hbl := lo_bits_lt (fun v => ho_agr (ho_set H 2 m0 v) K G s0 m0) i
              first
                | refine ev_s (is_ior _ rfl (pu_or hbl)) ?_
                | refine ev_s (is_ior _ rfl (pu_or0 _)) ?_
              refine ev_s (st_istore_8 rfl rfl) ?_
              refine ev_s (st_iinc_9 _ rfl rfl (nI_inc _)) ?_
              refine ev_s (is_goto rfl) ?_
              have := ih (i + 1) _ _ (by omega) hz (fun u => kd_1 H m0 u i)
              rw [lo_bits_s] at this
              first
                | (rw [if_pos hp] at this; exact this)
                | (rw [if_neg (fun q => absurd (hp.symm.trans q) (by decide)), Nat.add_zero] at this; exact this)
            · have hp : ho_agr (ho_set H 2 m0 i) K G s0 m0 = true := decide_eq_true ((pu_o_none _ (fo_lt (f := fun h => ho_comp (ho_set H 2 m0 i) G m0 h) hs12)).mp (Decidable.of_not_not h_145))
              refine ev_s (is_iconst (nI 1) rfl rfl) ?_
              refine ev_s (is_iload rfl rfl) ?_
              refine ev_s (is_ishl _ rfl (pu_shl1 (by omega))) ?_
              refine ev_s (is_goto rfl) ?_
              have hbl := lo_bits_lt (fun v => ho_agr (ho_set H 2 m0 v) K G s0 m0) i
              first
                | refine ev_s (is_ior _ rfl (pu_or hbl)) ?_
                | refine ev_s (is_ior _ rfl (pu_or0 _)) ?_
              refine ev_s (st_istore_8 rfl rfl) ?_
              refine ev_s (st_iinc_9 _ rfl rfl (nI_inc _)) ?_
              refine ev_s (is_goto rfl) ?_
              have := ih (i + 1) _ _ (by omega) hz (fun u => kd_1 H m0 u i)
              rw [lo_bits_s] at this
              first
                | (rw [if_pos hp] at this; exact this)
                | (rw [if_neg (fun q => absurd (hp.symm.trans q) (by decide)), Nat.add_zero] at this; exact this)
        refine ev_s (is_iload_n rfl rfl) ?_
        refine ev_s (is_iconst (nI 2) rfl rfl) ?_
        refine ev_s (is_icmp_ge_f rfl (by decide)) ?_
        refine ev_s (is_iload_n rfl rfl) ?_
        refine ev_s (is_goto rfl) ?_
        refine ev_s (st_istore_5 rfl rfl) ?_
        refine ev_s (is_iload rfl rfl) ?_
        refine ev_s (is_iconst ((-1)) rfl rfl) ?_
        refine ev_s (is_icmp_ne_t rfl (pu_n1 (by omega))) ?_
        refine ev_s (is_aload_n rfl rfl) ?_
        refine ev_s (is_getR rfl (pu_s hC 110 rfl rfl) rfl rfl (pu_r hC 110 1 rfl rfl)) ?_
        refine ev_s (is_iload rfl rfl) ?_
        refine ev_s (is_iaload' (m0) rfl (pu_s hC 111 rfl rfl) rfl rfl (by omega) (rz_k hz (by omega))) ?_
        refine ev_s (st_istore_6 rfl rfl) ?_
        refine ev_s (is_aload_n rfl rfl) ?_
        refine ev_s (is_getR rfl (pu_s hC 110 rfl rfl) rfl rfl (pu_r hC 110 2 rfl rfl)) ?_
        refine ev_s (is_iload rfl rfl) ?_
        refine ev_s (is_iaload' (m0) rfl (pu_s hC 112 rfl rfl) rfl rfl (by omega) (rz_m hz (by omega))) ?_
        refine ev_s (st_istore_7 rfl rfl) ?_
        refine ev_s (is_iconst (nI 0) rfl rfl) ?_
        refine ev_s (st_istore_8 rfl rfl) ?_
        refine ev_s (is_iconst (nI 0) rfl rfl) ?_
        refine ev_s (st_istore_9 rfl rfl) ?_
        exact loop 10 0 H mi (by omega) hz (fun u => kd_21 H m0 u)
      · have ea : an_kinds H K G (nI s0) (nI m0) (nI 2) = (match ho_mate H m0 with | none => -6 | some w => nI (lo_bits (fun v => ho_agr (ho_set H 1 w v) K G s0 m0) 6)) := by
          unfold an_kinds
          rw [if_pos e0, if_pos (show ho_rng (nI 0) (nI 2) (nI 3) = true by decide), es0, em0, show jn (nI 2) = 2 by decide]
          rfl
        refine ev_s (is_iload_n rfl rfl) ?_
        refine ev_s (is_iconst (nI 2) rfl rfl) ?_
        refine ev_s (is_icmp_ge_t rfl (by decide)) ?_
        refine ev_s (is_aload_n rfl rfl) ?_
        refine ev_s (is_iload_n rfl rfl) ?_
        refine ev_c1 (is_callR 2 [_] [] rfl rfl rfl rfl rfl (Nat.le_of_ble_eq_true rfl) rfl rfl rfl (pu_s hC 110 rfl rfl)) rfl rfl (r_mateOf hC hz.1 hm6) ?_
        rcases eo : ho_mate H m0 with _ | q
        · rw [eo] at ea
          rw [ea]
          refine ev_s (st_istore_5 rfl rfl) ?_
          refine ev_s (is_iload rfl rfl) ?_
          refine ev_s (is_iconst ((-1)) rfl rfl) ?_
          refine ev_s (is_icmp_ne_f rfl (fun q => q rfl)) ?_
          refine ev_s (is_bipush ((-6)) rfl rfl) ?_
          refine ev_ret (is_ireturn rfl rfl (by first | rfl | exact pu_b_nar | decide)) ?_
          exact ⟨rfl, rfl, rfl, hz⟩
        · rw [eo] at ea
          rw [ea]
          have hql := ho_mate_lt eo
          have hW : q < 6 := by omega
          have hk1 := (rz_bd hz).2.2.2.2.2.1 q
          have hk2 := (rz_bd hz).2.2.2.2.2.2.1 q
          show Ev _ _ _ [_, _, _, _, _, _, _, _, _, _] [.int (nI q)] _ _ _ (fun r sh2 m2 r2 => sh2 = sh ∧ (r = .int (nI (lo_bits (fun v => ho_agr (ho_set H 1 q v) K G s0 m0) 6)) ∧ r2 = mr ∧ rz_ (H) (K) G mi m2))
          have loop : ∀ (j i : Nat) (Hc : ho_T) (ma : im_MI), i + j = 6 → rz_ Hc K G mi ma → (∀ u, ho_set (ho_set Hc 1 q u) 2 q (H 2 q) = ho_set H 1 q u) → Ev (d + 5) 191 77 [.ref 110, .int (nI s0), .int (nI m0), .int (nI 2), .int (nI 0), .int (nI q), .int (nI (H 1 q)), .int (nI (H 2 q)), .int (nI (lo_bits (fun v => ho_agr (ho_set H 1 q v) K G s0 m0) i)), .int (nI i)] [] sh ma mr (fun r sh2 m2 r2 => sh2 = sh ∧ (r = .int (nI (lo_bits (fun v => ho_agr (ho_set H 1 q v) K G s0 m0) 6)) ∧ r2 = mr ∧ rz_ (H) (K) G mi m2)) := by
            intro j
            induction j with
            | zero =>
              intro i Hc ma hi hz hset
              refine ev_s (is_iload rfl rfl) ?_
              refine ev_s (is_iload_n rfl rfl) ?_
              refine ev_s (is_iconst (nI 2) rfl rfl) ?_
              refine ev_s (is_irem _ rfl (by decide) rfl) ?_
              refine ev_s (is_if_ne_f rfl (by decide)) ?_
              refine ev_s (is_bipush (nI 6) rfl rfl) ?_
              refine ev_s (is_goto rfl) ?_
              refine ev_s (is_icmp_ge_t rfl (nI_le (by omega) (by omega))) ?_
              refine ev_s (is_aload_n rfl rfl) ?_
              refine ev_s (is_getR rfl (pu_s hC 110 rfl rfl) rfl rfl (pu_r hC 110 1 rfl rfl)) ?_
              refine ev_s (is_iload rfl rfl) ?_
              refine ev_s (is_iload rfl rfl) ?_
              refine ev_s (is_iastore (q) rfl (pu_s hC 111 rfl rfl) rfl rfl (by omega)) ?_
              refine ev_s (is_aload_n rfl rfl) ?_
              refine ev_s (is_getR rfl (pu_s hC 110 rfl rfl) rfl rfl (pu_r hC 110 2 rfl rfl)) ?_
              refine ev_s (is_iload rfl rfl) ?_
              refine ev_s (is_iload rfl rfl) ?_
              refine ev_s (is_iastore (q) rfl (pu_s hC 112 rfl rfl) rfl rfl (by omega)) ?_
              refine ev_s (is_iload rfl rfl) ?_
              refine ev_ret (is_ireturn rfl rfl (by first | rfl | exact pu_b_nar | decide)) ?_
              have hz := rz_kd (c := 1) hz (m := q) (v := H 1 q) hW (Or.inl ⟨rfl, by omega⟩)
              have hz := rz_kd (c := 2) hz (m := q) (v := H 2 q) hW (Or.inr ⟨rfl, by omega⟩)
              rw [hset (H 1 q), ho_set_same] at hz
              exact ⟨rfl, by rw [show i = 6 by omega], rfl, hz⟩
            | succ j ih =>
              intro i Hc ma hi hz hset
              refine ev_s (is_iload rfl rfl) ?_
              refine ev_s (is_iload_n rfl rfl) ?_
              refine ev_s (is_iconst (nI 2) rfl rfl) ?_
              refine ev_s (is_irem _ rfl (by decide) rfl) ?_
              refine ev_s (is_if_ne_f rfl (by decide)) ?_
              refine ev_s (is_bipush (nI 6) rfl rfl) ?_
              refine ev_s (is_goto rfl) ?_
              refine ev_s (is_icmp_ge_f rfl (nI_ge (by omega) (by omega))) ?_
              refine ev_s (is_aload_n rfl rfl) ?_
              refine ev_s (is_getR rfl (pu_s hC 110 rfl rfl) rfl rfl (pu_r hC 110 1 rfl rfl)) ?_
              refine ev_s (is_iload rfl rfl) ?_
              refine ev_s (is_iload_n rfl rfl) ?_
              refine ev_s (is_iconst (nI 2) rfl rfl) ?_
              refine ev_s (is_irem _ rfl (by decide) rfl) ?_
              refine ev_s (is_if_ne_f rfl (by decide)) ?_
              refine ev_s (is_iload rfl rfl) ?_
              refine ev_s (is_goto rfl) ?_
              refine ev_s (is_iastore (q) rfl (pu_s hC 111 rfl rfl) rfl rfl (by omega)) ?_
              refine ev_s (is_aload_n rfl rfl) ?_
              refine ev_s (is_getR rfl (pu_s hC 110 rfl rfl) rfl rfl (pu_r hC 110 2 rfl rfl)) ?_
              refine ev_s (is_iload rfl rfl) ?_
              refine ev_s (is_iload_n rfl rfl) ?_
              refine ev_s (is_iconst (nI 2) rfl rfl) ?_
              refine ev_s (is_irem _ rfl (by decide) rfl) ?_
              refine ev_s (is_iconst (nI 1) rfl rfl) ?_
              refine ev_s (is_icmp_ne_t rfl (by decide)) ?_
              refine ev_s (is_iload rfl rfl) ?_
              refine ev_s (is_iastore (q) rfl (pu_s hC 112 rfl rfl) rfl rfl (by omega)) ?_
              have hz := rz_kd (c := 1) hz (m := q) (v := i) hW (Or.inl ⟨rfl, by omega⟩)
              have hz := rz_kd (c := 2) hz (m := q) (v := H 2 q) hW (Or.inr ⟨rfl, by omega⟩)
              rw [hset i] at hz
              refine ev_s (is_iload rfl rfl) ?_
              refine ev_s (is_aload_n rfl rfl) ?_
              refine ev_s (is_iload_n rfl rfl) ?_
              refine ev_s (is_iload_n rfl rfl) ?_
              refine ev_q1 (is_callR 3 [_, _] [_] rfl rfl rfl rfl rfl (Nat.le_of_ble_eq_true rfl) rfl rfl rfl (pu_s hC 110 rfl rfl)) rfl rfl (r_unlike hC hz (s := s0) (m := m0) hs4 hs12 hm6) (fun r_141 mi mr hq_141 => ?_)
              obtain ⟨rfl, hmr, hsc⟩ := hq_141
              have hmr := hmr.symm
              subst hmr
              have hz := rz_sS hz hsc
              refine ev_s (is_iconst ((-1)) rfl rfl) ?_
              refine ev_icmp_ne rfl (fun h_145 => ?_) (fun h_145 => ?_)
              · have hp : ho_agr (ho_set H 1 q i) K G s0 m0 = false := decide_eq_false (fun qq => h_145 ((pu_o_none _ (fo_lt (f := fun h => ho_comp (ho_set H 1 q i) G m0 h) hs12)).mpr qq))
                refine ev_s (is_iconst (nI 0) rfl rfl) ?_
                have hbl := lo_bits_lt (fun v => ho_agr (ho_set H 1 q v) K G s0 m0) i
                first
                  | refine ev_s (is_ior _ rfl (pu_or hbl)) ?_
                  | refine ev_s (is_ior _ rfl (pu_or0 _)) ?_
                refine ev_s (st_istore_8 rfl rfl) ?_
                refine ev_s (st_iinc_9 _ rfl rfl (nI_inc _)) ?_
                refine ev_s (is_goto rfl) ?_
                have := ih (i + 1) _ _ (by omega) hz (fun u => kd_0 H q u i)
                rw [lo_bits_s] at this
                first
                  | (rw [if_pos hp] at this; exact this)
                  | (rw [if_neg (fun q => absurd (hp.symm.trans q) (by decide)), Nat.add_zero] at this; exact this)
              · have hp : ho_agr (ho_set H 1 q i) K G s0 m0 = true := decide_eq_true ((pu_o_none _ (fo_lt (f := fun h => ho_comp (ho_set H 1 q i) G m0 h) hs12)).mp (Decidable.of_not_not h_145))
                refine ev_s (is_iconst (nI 1) rfl rfl) ?_
                refine ev_s (is_iload rfl rfl) ?_
                refine ev_s (is_ishl _ rfl (pu_shl1 (by omega))) ?_
                refine ev_s (is_goto rfl) ?_
                have hbl := lo_bits_lt (fun v => ho_agr (ho_set H 1 q v) K G s0 m0) i
                first
                  | refine ev_s (is_ior _ rfl (pu_or hbl)) ?_
                  | refine ev_s (is_ior _ rfl (pu_or0 _)) ?_
                refine ev_s (st_istore_8 rfl rfl) ?_
                refine ev_s (st_iinc_9 _ rfl rfl (nI_inc _)) ?_
                refine ev_s (is_goto rfl) ?_
                have := ih (i + 1) _ _ (by omega) hz (fun u => kd_0 H q u i)
                rw [lo_bits_s] at this
                first
                  | (rw [if_pos hp] at this; exact this)
                  | (rw [if_neg (fun q => absurd (hp.symm.trans q) (by decide)), Nat.add_zero] at this; exact this)
          refine ev_s (st_istore_5 rfl rfl) ?_
          refine ev_s (is_iload rfl rfl) ?_
          refine ev_s (is_iconst ((-1)) rfl rfl) ?_
          refine ev_s (is_icmp_ne_t rfl (pu_n1 (by omega))) ?_
          refine ev_s (is_aload_n rfl rfl) ?_
          refine ev_s (is_getR rfl (pu_s hC 110 rfl rfl) rfl rfl (pu_r hC 110 1 rfl rfl)) ?_
          refine ev_s (is_iload rfl rfl) ?_
          refine ev_s (is_iaload' (q) rfl (pu_s hC 111 rfl rfl) rfl rfl (by omega) (rz_k hz (by omega))) ?_
          refine ev_s (st_istore_6 rfl rfl) ?_
          refine ev_s (is_aload_n rfl rfl) ?_
          refine ev_s (is_getR rfl (pu_s hC 110 rfl rfl) rfl rfl (pu_r hC 110 2 rfl rfl)) ?_
          refine ev_s (is_iload rfl rfl) ?_
          refine ev_s (is_iaload' (q) rfl (pu_s hC 112 rfl rfl) rfl rfl (by omega) (rz_m hz (by omega))) ?_
          refine ev_s (st_istore_7 rfl rfl) ?_
          refine ev_s (is_iconst (nI 0) rfl rfl) ?_
          refine ev_s (st_istore_8 rfl rfl) ?_
          refine ev_s (is_iconst (nI 0) rfl rfl) ?_
          refine ev_s (st_istore_9 rfl rfl) ?_
          exact loop 6 0 H mi (by omega) hz (fun u => kd_12 H q u)
      · have ea : an_kinds H K G (nI s0) (nI m0) (nI 3) = (match ho_mate H m0 with | none => -6 | some w => nI (lo_bits (fun v => ho_agr (ho_set H 2 w v) K G s0 m0) 10)) := by
          unfold an_kinds
          rw [if_pos e0, if_pos (show ho_rng (nI 0) (nI 3) (nI 3) = true by decide), es0, em0, show jn (nI 3) = 3 by decide]
          rfl
        refine ev_s (is_iload_n rfl rfl) ?_
        refine ev_s (is_iconst (nI 2) rfl rfl) ?_
        refine ev_s (is_icmp_ge_t rfl (by decide)) ?_
        refine ev_s (is_aload_n rfl rfl) ?_
        refine ev_s (is_iload_n rfl rfl) ?_
        refine ev_c1 (is_callR 2 [_] [] rfl rfl rfl rfl rfl (Nat.le_of_ble_eq_true rfl) rfl rfl rfl (pu_s hC 110 rfl rfl)) rfl rfl (r_mateOf hC hz.1 hm6) ?_
        rcases eo : ho_mate H m0 with _ | q
        · rw [eo] at ea
          rw [ea]
          refine ev_s (st_istore_5 rfl rfl) ?_
          refine ev_s (is_iload rfl rfl) ?_
          refine ev_s (is_iconst ((-1)) rfl rfl) ?_
          refine ev_s (is_icmp_ne_f rfl (fun q => q rfl)) ?_
          refine ev_s (is_bipush ((-6)) rfl rfl) ?_
          refine ev_ret (is_ireturn rfl rfl (by first | rfl | exact pu_b_nar | decide)) ?_
          exact ⟨rfl, rfl, rfl, hz⟩
        · rw [eo] at ea
          rw [ea]
          have hql := ho_mate_lt eo
          have hW : q < 6 := by omega
          have hk1 := (rz_bd hz).2.2.2.2.2.1 q
          have hk2 := (rz_bd hz).2.2.2.2.2.2.1 q
          show Ev _ _ _ [_, _, _, _, _, _, _, _, _, _] [.int (nI q)] _ _ _ (fun r sh2 m2 r2 => sh2 = sh ∧ (r = .int (nI (lo_bits (fun v => ho_agr (ho_set H 2 q v) K G s0 m0) 10)) ∧ r2 = mr ∧ rz_ (H) (K) G mi m2))
          have loop : ∀ (j i : Nat) (Hc : ho_T) (ma : im_MI), i + j = 10 → rz_ Hc K G mi ma → (∀ u, ho_set (ho_set Hc 1 q (H 1 q)) 2 q u = ho_set H 2 q u) → Ev (d + 5) 191 77 [.ref 110, .int (nI s0), .int (nI m0), .int (nI 3), .int (nI 0), .int (nI q), .int (nI (H 1 q)), .int (nI (H 2 q)), .int (nI (lo_bits (fun v => ho_agr (ho_set H 2 q v) K G s0 m0) i)), .int (nI i)] [] sh ma mr (fun r sh2 m2 r2 => sh2 = sh ∧ (r = .int (nI (lo_bits (fun v => ho_agr (ho_set H 2 q v) K G s0 m0) 10)) ∧ r2 = mr ∧ rz_ (H) (K) G mi m2)) := by
            intro j
            induction j with
            | zero =>
              intro i Hc ma hi hz hset
              refine ev_s (is_iload rfl rfl) ?_
              refine ev_s (is_iload_n rfl rfl) ?_
              refine ev_s (is_iconst (nI 2) rfl rfl) ?_
              refine ev_s (is_irem _ rfl (by decide) rfl) ?_
              refine ev_s (is_if_ne_t rfl (by decide)) ?_
              refine ev_s (is_bipush (nI 10) rfl rfl) ?_
              refine ev_s (is_icmp_ge_t rfl (nI_le (by omega) (by omega))) ?_
              refine ev_s (is_aload_n rfl rfl) ?_
              refine ev_s (is_getR rfl (pu_s hC 110 rfl rfl) rfl rfl (pu_r hC 110 1 rfl rfl)) ?_
              refine ev_s (is_iload rfl rfl) ?_
              refine ev_s (is_iload rfl rfl) ?_
              refine ev_s (is_iastore (q) rfl (pu_s hC 111 rfl rfl) rfl rfl (by omega)) ?_
              refine ev_s (is_aload_n rfl rfl) ?_
              refine ev_s (is_getR rfl (pu_s hC 110 rfl rfl) rfl rfl (pu_r hC 110 2 rfl rfl)) ?_
              refine ev_s (is_iload rfl rfl) ?_
              refine ev_s (is_iload rfl rfl) ?_
              refine ev_s (is_iastore (q) rfl (pu_s hC 112 rfl rfl) rfl rfl (by omega)) ?_
              refine ev_s (is_iload rfl rfl) ?_
              refine ev_ret (is_ireturn rfl rfl (by first | rfl | exact pu_b_nar | decide)) ?_
              have hz := rz_kd (c := 1) hz (m := q) (v := H 1 q) hW (Or.inl ⟨rfl, by omega⟩)
              have hz := rz_kd (c := 2) hz (m := q) (v := H 2 q) hW (Or.inr ⟨rfl, by omega⟩)
              rw [hset (H 2 q), ho_set_same] at hz
              exact ⟨rfl, by rw [show i = 10 by omega], rfl, hz⟩
            | succ j ih =>
              intro i Hc ma hi hz hset
              refine ev_s (is_iload rfl rfl) ?_
              refine ev_s (is_iload_n rfl rfl) ?_
              refine ev_s (is_iconst (nI 2) rfl rfl) ?_
              refine ev_s (is_irem _ rfl (by decide) rfl) ?_
              refine ev_s (is_if_ne_t rfl (by decide)) ?_
              refine ev_s (is_bipush (nI 10) rfl rfl) ?_
              refine ev_s (is_icmp_ge_f rfl (nI_ge (by omega) (by omega))) ?_
              refine ev_s (is_aload_n rfl rfl) ?_
              refine ev_s (is_getR rfl (pu_s hC 110 rfl rfl) rfl rfl (pu_r hC 110 1 rfl rfl)) ?_
              refine ev_s (is_iload rfl rfl) ?_
              refine ev_s (is_iload_n rfl rfl) ?_
              refine ev_s (is_iconst (nI 2) rfl rfl) ?_
              refine ev_s (is_irem _ rfl (by decide) rfl) ?_
              refine ev_s (is_if_ne_t rfl (by decide)) ?_
              refine ev_s (is_iload rfl rfl) ?_
              refine ev_s (is_iastore (q) rfl (pu_s hC 111 rfl rfl) rfl rfl (by omega)) ?_
              refine ev_s (is_aload_n rfl rfl) ?_
              refine ev_s (is_getR rfl (pu_s hC 110 rfl rfl) rfl rfl (pu_r hC 110 2 rfl rfl)) ?_
              refine ev_s (is_iload rfl rfl) ?_
              refine ev_s (is_iload_n rfl rfl) ?_
              refine ev_s (is_iconst (nI 2) rfl rfl) ?_
              refine ev_s (is_irem _ rfl (by decide) rfl) ?_
              refine ev_s (is_iconst (nI 1) rfl rfl) ?_
              refine ev_s (is_icmp_ne_f rfl (by decide)) ?_
              refine ev_s (is_iload rfl rfl) ?_
              refine ev_s (is_goto rfl) ?_
              refine ev_s (is_iastore (q) rfl (pu_s hC 112 rfl rfl) rfl rfl (by omega)) ?_
              have hz := rz_kd (c := 1) hz (m := q) (v := H 1 q) hW (Or.inl ⟨rfl, by omega⟩)
              have hz := rz_kd (c := 2) hz (m := q) (v := i) hW (Or.inr ⟨rfl, by omega⟩)
              rw [hset i] at hz
              refine ev_s (is_iload rfl rfl) ?_
              refine ev_s (is_aload_n rfl rfl) ?_
              refine ev_s (is_iload_n rfl rfl) ?_
              refine ev_s (is_iload_n rfl rfl) ?_
              refine ev_q1 (is_callR 3 [_, _] [_] rfl rfl rfl rfl rfl (Nat.le_of_ble_eq_true rfl) rfl rfl rfl (pu_s hC 110 rfl rfl)) rfl rfl (r_unlike hC hz (s := s0) (m := m0) hs4 hs12 hm6) (fun r_141 mi mr hq_141 => ?_)
              obtain ⟨rfl, hmr, hsc⟩ := hq_141
              have hmr := hmr.symm
              subst hmr
              have hz := rz_sS hz hsc
              refine ev_s (is_iconst ((-1)) rfl rfl) ?_
              refine ev_icmp_ne rfl (fun h_145 => ?_) (fun h_145 => ?_)
              · have hp : ho_agr (ho_set H 2 q i) K G s0 m0 = false := decide_eq_false (fun qq => h_145 ((pu_o_none _ (fo_lt (f := fun h => ho_comp (ho_set H 2 q i) G m0 h) hs12)).mpr qq))
                refine ev_s (is_iconst (nI 0) rfl rfl) ?_
                have hbl := lo_bits_lt (fun v => ho_agr (ho_set H 2 q v) K G s0 m0) i
                first
                  | refine ev_s (is_ior _ rfl (pu_or hbl)) ?_
                  | refine ev_s (is_ior _ rfl (pu_or0 _)) ?_
                refine ev_s (st_istore_8 rfl rfl) ?_
                refine ev_s (st_iinc_9 _ rfl rfl (nI_inc _)) ?_
                refine ev_s (is_goto rfl) ?_
                have := ih (i + 1) _ _ (by omega) hz (fun u => kd_1 H q u i)
                rw [lo_bits_s] at this
                first
                  | (rw [if_pos hp] at this; exact this)
                  | (rw [if_neg (fun q => absurd (hp.symm.trans q) (by decide)), Nat.add_zero] at this; exact this)
              · have hp : ho_agr (ho_set H 2 q i) K G s0 m0 = true := decide_eq_true ((pu_o_none _ (fo_lt (f := fun h => ho_comp (ho_set H 2 q i) G m0 h) hs12)).mp (Decidable.of_not_not h_145))
                refine ev_s (is_iconst (nI 1) rfl rfl) ?_
                refine ev_s (is_iload rfl rfl) ?_
                refine ev_s (is_ishl _ rfl (pu_shl1 (by omega))) ?_
                refine ev_s (is_goto rfl) ?_
                have hbl := lo_bits_lt (fun v => ho_agr (ho_set H 2 q v) K G s0 m0) i
                first
                  | refine ev_s (is_ior _ rfl (pu_or hbl)) ?_
                  | refine ev_s (is_ior _ rfl (pu_or0 _)) ?_
                refine ev_s (st_istore_8 rfl rfl) ?_
                refine ev_s (st_iinc_9 _ rfl rfl (nI_inc _)) ?_
                refine ev_s (is_goto rfl) ?_
                have := ih (i + 1) _ _ (by omega) hz (fun u => kd_1 H q u i)
                rw [lo_bits_s] at this
                first
                  | (rw [if_pos hp] at this; exact this)
                  | (rw [if_neg (fun q => absurd (hp.symm.trans q) (by decide)), Nat.add_zero] at this; exact this)
          refine ev_s (st_istore_5 rfl rfl) ?_
          refine ev_s (is_iload rfl rfl) ?_
          refine ev_s (is_iconst ((-1)) rfl rfl) ?_
          refine ev_s (is_icmp_ne_t rfl (pu_n1 (by omega))) ?_
          refine ev_s (is_aload_n rfl rfl) ?_
          refine ev_s (is_getR rfl (pu_s hC 110 rfl rfl) rfl rfl (pu_r hC 110 1 rfl rfl)) ?_
          refine ev_s (is_iload rfl rfl) ?_
          refine ev_s (is_iaload' (q) rfl (pu_s hC 111 rfl rfl) rfl rfl (by omega) (rz_k hz (by omega))) ?_
          refine ev_s (st_istore_6 rfl rfl) ?_
          refine ev_s (is_aload_n rfl rfl) ?_
          refine ev_s (is_getR rfl (pu_s hC 110 rfl rfl) rfl rfl (pu_r hC 110 2 rfl rfl)) ?_
          refine ev_s (is_iload rfl rfl) ?_
          refine ev_s (is_iaload' (q) rfl (pu_s hC 112 rfl rfl) rfl rfl (by omega) (rz_m hz (by omega))) ?_
          refine ev_s (st_istore_7 rfl rfl) ?_
          refine ev_s (is_iconst (nI 0) rfl rfl) ?_
          refine ev_s (st_istore_8 rfl rfl) ?_
          refine ev_s (is_iconst (nI 0) rfl rfl) ?_
          refine ev_s (st_istore_9 rfl rfl) ?_
          exact loop 10 0 H mi (by omega) hz (fun u => kd_21 H q u)
    · refine ev_s (is_bipush ((-7)) rfl rfl) ?_
      refine ev_ret (is_ireturn rfl rfl (by first | rfl | exact pu_b_nar | decide)) ?_
      first
        | (rw [show an_kinds H K G s m sort = rf_d H K s m from if_neg h_10]
           exact ⟨rfl, rfl, rfl, hz⟩)
        | (rw [show an_kinds H K G (nI s0) (nI m0) sort = -7 by unfold an_kinds; rw [if_pos e0, if_neg h_22]]
           exact ⟨rfl, rfl, rfl, hz⟩)
  · refine ev_s (is_iload rfl rfl) ?_
    refine ev_ret (is_ireturn rfl rfl (by first | rfl | exact pu_b_nar | decide)) ?_
    first
      | (rw [show an_kinds H K G s m sort = rf_d H K s m from if_neg h_10]
         exact ⟨rfl, rfl, rfl, hz⟩)
      | (rw [show an_kinds H K G (nI s0) (nI m0) sort = -7 by unfold an_kinds; rw [if_pos e0, if_neg h_22]]
         exact ⟨rfl, rfl, rfl, hz⟩)

theorem r_did {d : Nat} {sh : im_Sh} {mi : im_MI} {mr : im_MR} (hC : pu_C sh mr) {H K : ho_T} {G : ho_G} (hz : rz_ H K G mi mi) (s m w : Int32) : EvM (d + 5) 192 [.ref 110, .int s, .int m, .int w] sh mi mr (fun r sh2 m2 r2 => sh2 = sh ∧ (r = .int (an_did H K G s m w) ∧ r2 = mr ∧ rz_ (H) (K) G mi m2)) := by
  show Ev (d + 5) 192 0 [.ref 110, .int s, .int m, .int w, im_bad, im_bad, im_bad, im_bad, im_bad, im_bad] [] sh mi mr _
  have hn6 := rz_n hz
  refine ev_s (is_aload_n rfl rfl) ?_
  refine ev_s (is_iload_n rfl rfl) ?_
  refine ev_s (is_iload_n rfl rfl) ?_
  refine ev_c1 (is_callR 3 [_, _] [] rfl rfl rfl rfl rfl (Nat.le_of_ble_eq_true rfl) rfl rfl rfl (pu_s hC 110 rfl rfl)) rfl rfl (r_toW hC hz _ _) ?_
  refine ev_s (st_istore_4 rfl rfl) ?_
  refine ev_s (is_iload rfl rfl) ?_
  refine ev_if_eq rfl (fun h_10 => ?_) (fun h_10 => ?_)
  · have e0 : rf_d H K s m = nI 0 := h_10
    obtain ⟨hrs, hrm⟩ := rf_d_0 e0
    obtain ⟨s0, rfl, hs4, hk4, hs12, es0⟩ := rf_s_0 hrs
    obtain ⟨m0, rfl, hm0, em0⟩ := ho_isM_n hn6 hrm
    have hm6 : m0 < 6 := by omega
    refine ev_s (is_iload_n rfl rfl) ?_
    refine ev_s (is_iconst (nI 0) rfl rfl) ?_
    refine ev_s (is_bipush (nI 111) rfl rfl) ?_
    refine ev_c1 (is_call0 3 [_, _, _] [] rfl rfl rfl rfl rfl (Nat.le_of_ble_eq_true rfl) rfl rfl rfl) rfl rfl (r_in' _ _ _) ?_
    refine ev_ifB_eq rfl (fun h_23 => ?_) (fun h_23 => ?_)
    · refine ev_s (is_bipush ((-7)) rfl rfl) ?_
      refine ev_ret (is_ireturn rfl rfl (by first | rfl | exact pu_b_nar | decide)) ?_
      first
        | (rw [show an_did H K G s m w = rf_d H K s m from if_neg h_10]
           exact ⟨rfl, rfl, rfl, hz⟩)
        | (rw [show an_did H K G (nI s0) (nI m0) w = -7 by unfold an_did; rw [if_pos e0, if_neg (by rw [dd_out h_23]; decide)]]
           exact ⟨rfl, rfl, rfl, hz⟩)
        | (rw [show an_did H K G (nI s0) (nI m0) (nI w0) = -7 by unfold an_did; rw [if_pos e0, if_neg (by rw [hdi]; exact fun q => absurd (of_decide_eq_true q) (by omega))]]
           exact ⟨rfl, rfl, rfl, hz⟩)
    · obtain ⟨w0, rfl, lw0, uw0, ew0⟩ := ho_rng_n h_23 (by decide) (by decide)
      have hdi := dd_in w0 (by omega)
      refine ev_s (is_iload_n rfl rfl) ?_
      refine ev_s (is_bipush (nI 100) rfl rfl) ?_
      refine ev_s (is_irem _ rfl (by decide) (pk_rem (by omega) (by decide) (by decide))) ?_
      refine ev_s (is_bipush (nI 12) rfl rfl) ?_
      refine ev_icmpN_lt rfl (by omega) (by omega) (fun h_32 => ?_) (fun h_32 => ?_)
      · have hdd : dd_h (nI w0) = true := by rw [hdi]; exact decide_eq_true (by omega)
        obtain ⟨h0, eh0⟩ : ∃ h0, w0 % 100 = h0 := ⟨_, rfl⟩
        have hh0 : h0 < 12 := by omega
        refine ev_s (is_iload_n rfl rfl) ?_
        refine ev_s (is_bipush (nI 100) rfl rfl) ?_
        refine ev_icmpN_ge rfl (by omega) (by omega) (fun h_41 => ?_) (fun h_41 => ?_)
        · have ea : an_did H K G (nI s0) (nI m0) (nI w0) = (match ho_mate H m0 with | none => -6 | some o => nI (lo_bits (fun d => ho_agr (ho_set H (10 + o) h0 d) K G s0 m0) 6)) := by
            unfold an_did dd_w dd_b
            rw [if_pos e0, if_pos hdd, es0, em0, ew0, eh0, if_neg (by omega)]
            rfl
          refine ev_s (is_aload_n rfl rfl) ?_
          refine ev_s (is_iload_n rfl rfl) ?_
          refine ev_c1 (is_callR 2 [_] [] rfl rfl rfl rfl rfl (Nat.le_of_ble_eq_true rfl) rfl rfl rfl (pu_s hC 110 rfl rfl)) rfl rfl (r_mateOf hC hz.1 hm6) ?_
          rcases eo : ho_mate H m0 with _ | q
          · rw [eo] at ea
            rw [ea]
            refine ev_s (st_istore_5 rfl rfl) ?_
            refine ev_s (is_iload rfl rfl) ?_
            refine ev_s (is_iconst ((-1)) rfl rfl) ?_
            refine ev_s (is_icmp_ne_f rfl (fun q => q rfl)) ?_
            refine ev_s (is_bipush ((-6)) rfl rfl) ?_
            refine ev_ret (is_ireturn rfl rfl (by first | rfl | exact pu_b_nar | decide)) ?_
            exact ⟨rfl, rfl, rfl, hz⟩
          · rw [eo] at ea
            rw [ea]
            have hql := ho_mate_lt eo
            have hW : q < 6 := by omega
            show Ev _ _ _ [_, _, _, _, _, _, _, _, _, _] [.int (nI q)] _ _ _ (fun r sh2 m2 r2 => sh2 = sh ∧ (r = .int (nI (lo_bits (fun d => ho_agr (ho_set H (10 + q) h0 d) K G s0 m0) 6)) ∧ r2 = mr ∧ rz_ (H) (K) G mi m2))
            have hdo := (rz_bd hz).2.2.2.2.2.2.2.1 q h0 hh0
            have loop : ∀ (j i : Nat) (v4 : Int32) (Hc : ho_T) (ma : im_MI), i + j = 6 → rz_ Hc K G mi ma → (∀ u, ho_set Hc (10 + q) h0 u = ho_set H (10 + q) h0 u) → Ev (d + 5) 192 91 [.ref 110, .int (nI s0), .int (nI m0), .int (nI w0), .int v4, .int (nI q), .int (nI (14 * q + h0)), .int (nI (H (10 + q) h0)), .int (nI (lo_bits (fun d => ho_agr (ho_set H (10 + q) h0 d) K G s0 m0) i)), .int (nI i)] [] sh ma mr (fun r sh2 m2 r2 => sh2 = sh ∧ (r = .int (nI (lo_bits (fun d => ho_agr (ho_set H (10 + q) h0 d) K G s0 m0) 6)) ∧ r2 = mr ∧ rz_ (H) (K) G mi m2)) := by
              intro j
              induction j with
              | zero =>
                intro i v4 Hc ma hi hz hset
                refine ev_s (is_iload rfl rfl) ?_
                refine ev_s (is_bipush (nI 6) rfl rfl) ?_
                refine ev_s (is_icmp_ge_t rfl (nI_le (by omega) (by omega))) ?_
                refine ev_s (is_aload_n rfl rfl) ?_
                refine ev_s (is_getR rfl (pu_s hC 110 rfl rfl) rfl rfl (pu_r hC 110 3 rfl rfl)) ?_
                refine ev_s (is_iload rfl rfl) ?_
                refine ev_s (is_iload rfl rfl) ?_
                refine ev_s (is_iastore (14 * q + h0) rfl (pu_s hC 113 rfl rfl) rfl rfl (by omega)) ?_
                refine ev_s (is_iload rfl rfl) ?_
                refine ev_ret (is_ireturn rfl rfl (by first | rfl | exact pu_b_nar | decide)) ?_
                have hz := rz_row hz (m := q) (w := h0) (v := H (10 + q) h0) hW (by omega) (ho_bd_put (rz_bd hz) (Or.inl ⟨hh0, hdo⟩))
                rw [hset, ho_set_same] at hz
                exact ⟨rfl, by rw [show i = 6 by omega], rfl, hz⟩
              | succ j ih =>
                intro i v4 Hc ma hi hz hset
                refine ev_s (is_iload rfl rfl) ?_
                refine ev_s (is_bipush (nI 6) rfl rfl) ?_
                refine ev_s (is_icmp_ge_f rfl (nI_ge (by omega) (by omega))) ?_
                refine ev_s (is_aload_n rfl rfl) ?_
                refine ev_s (is_getR rfl (pu_s hC 110 rfl rfl) rfl rfl (pu_r hC 110 3 rfl rfl)) ?_
                refine ev_s (is_iload rfl rfl) ?_
                refine ev_s (is_iload rfl rfl) ?_
                refine ev_s (is_iastore (14 * q + h0) rfl (pu_s hC 113 rfl rfl) rfl rfl (by omega)) ?_
                have hz := rz_row hz (m := q) (w := h0) (v := i) hW (by omega) (ho_bd_put (rz_bd hz) (Or.inl ⟨hh0, by omega⟩))
                rw [hset i] at hz
                refine ev_s (is_iload rfl rfl) ?_
                refine ev_s (is_aload_n rfl rfl) ?_
                refine ev_s (is_iload_n rfl rfl) ?_
                refine ev_s (is_iload_n rfl rfl) ?_
                refine ev_q1 (is_callR 3 [_, _] [_] rfl rfl rfl rfl rfl (Nat.le_of_ble_eq_true rfl) rfl rfl rfl (pu_s hC 110 rfl rfl)) rfl rfl (r_unlike hC hz (s := s0) (m := m0) hs4 hs12 hm6) (fun r_112 mi mr hq_112 => ?_)
                obtain ⟨rfl, hmr, hsc⟩ := hq_112
                have hmr := hmr.symm
                subst hmr
                have hz := rz_sS hz hsc
                refine ev_s (is_iconst ((-1)) rfl rfl) ?_
                refine ev_icmp_ne rfl (fun h_116 => ?_) (fun h_116 => ?_)
                · have hp : ho_agr (ho_set H (10 + q) h0 i) K G s0 m0 = false := decide_eq_false (fun qq => h_116 ((pu_o_none _ (fo_lt (f := fun h => ho_comp (ho_set H (10 + q) h0 i) G m0 h) hs12)).mpr qq))
                  refine ev_s (is_iconst (nI 0) rfl rfl) ?_
                  have hbl := lo_bits_lt (fun d => ho_agr (ho_set H (10 + q) h0 d) K G s0 m0) i
                  first
                    | refine ev_s (is_ior _ rfl (pu_or hbl)) ?_
                    | refine ev_s (is_ior _ rfl (pu_or0 _)) ?_
                  refine ev_s (st_istore_8 rfl rfl) ?_
                  refine ev_s (st_iinc_9 _ rfl rfl (nI_inc _)) ?_
                  refine ev_s (is_goto rfl) ?_
                  have := ih (i + 1) v4 _ _ (by omega) hz (fun u => ho_set_set _ _ _ _ _)
                  rw [lo_bits_s] at this
                  first
                    | (rw [if_pos hp] at this; exact this)
                    | (rw [if_neg (fun q => absurd (hp.symm.trans q) (by decide)), Nat.add_zero] at this; exact this)
                · have hp : ho_agr (ho_set H (10 + q) h0 i) K G s0 m0 = true := decide_eq_true ((pu_o_none _ (fo_lt (f := fun h => ho_comp (ho_set H (10 + q) h0 i) G m0 h) hs12)).mp (Decidable.of_not_not h_116))
                  refine ev_s (is_iconst (nI 1) rfl rfl) ?_
                  refine ev_s (is_iload rfl rfl) ?_
                  refine ev_s (is_ishl _ rfl (pu_shl1 (by omega))) ?_
                  refine ev_s (is_goto rfl) ?_
                  have hbl := lo_bits_lt (fun d => ho_agr (ho_set H (10 + q) h0 d) K G s0 m0) i
                  first
                    | refine ev_s (is_ior _ rfl (pu_or hbl)) ?_
                    | refine ev_s (is_ior _ rfl (pu_or0 _)) ?_
                  refine ev_s (st_istore_8 rfl rfl) ?_
                  refine ev_s (st_iinc_9 _ rfl rfl (nI_inc _)) ?_
                  refine ev_s (is_goto rfl) ?_
                  have := ih (i + 1) v4 _ _ (by omega) hz (fun u => ho_set_set _ _ _ _ _)
                  rw [lo_bits_s] at this
                  first
                    | (rw [if_pos hp] at this; exact this)
                    | (rw [if_neg (fun q => absurd (hp.symm.trans q) (by decide)), Nat.add_zero] at this; exact this)
            refine ev_s (st_istore_5 rfl rfl) ?_
            refine ev_s (is_iload rfl rfl) ?_
            refine ev_s (is_iconst ((-1)) rfl rfl) ?_
            refine ev_s (is_icmp_ne_t rfl (pu_n1 (by omega))) ?_
            refine ev_s (is_bipush (nI 14) rfl rfl) ?_
            refine ev_s (is_iload rfl rfl) ?_
            first
              | refine ev_s (is_imul _ rfl (pk_mul _ _)) ?_
              | refine ev_s (is_imul _ rfl rfl) ?_
            refine ev_s (is_iload_n rfl rfl) ?_
            refine ev_s (is_bipush (nI 100) rfl rfl) ?_
            refine ev_s (is_irem _ rfl (by decide) (pk_rem (by omega) (by decide) (by decide))) ?_
            rw [eh0]
            first
              | refine ev_s (is_iadd _ rfl (nI_add _ _)) ?_
              | refine ev_s (is_iadd _ rfl rfl) ?_
            refine ev_s (st_istore_6 rfl rfl) ?_
            refine ev_s (is_aload_n rfl rfl) ?_
            refine ev_s (is_getR rfl (pu_s hC 110 rfl rfl) rfl rfl (pu_r hC 110 3 rfl rfl)) ?_
            refine ev_s (is_iload rfl rfl) ?_
            refine ev_s (is_iaload' (14 * q + h0) rfl (pu_s hC 113 rfl rfl) rfl rfl (by omega) (rz_at hz (by omega) (by omega))) ?_
            refine ev_s (st_istore_7 rfl rfl) ?_
            refine ev_s (is_iconst (nI 0) rfl rfl) ?_
            refine ev_s (st_istore_8 rfl rfl) ?_
            refine ev_s (is_iconst (nI 0) rfl rfl) ?_
            refine ev_s (st_istore_9 rfl rfl) ?_
            exact loop 6 0 _ H mi (by omega) hz (fun _ => rfl)
        · have ea : an_did H K G (nI s0) (nI m0) (nI w0) = (match some m0 with | none => -6 | some o => nI (lo_bits (fun d => ho_agr (ho_set H (10 + o) h0 d) K G s0 m0) 6)) := by
            unfold an_did dd_w dd_b
            rw [if_pos e0, if_pos hdd, es0, em0, ew0, eh0, if_pos (by omega)]
          rw [ea]
          show Ev _ _ _ _ _ _ _ _ (fun r sh2 m2 r2 => sh2 = sh ∧ (r = .int (nI (lo_bits (fun d => ho_agr (ho_set H (10 + m0) h0 d) K G s0 m0) 6)) ∧ r2 = mr ∧ rz_ (H) (K) G mi m2))
          have hW : m0 < 6 := hm6
          have hdo := (rz_bd hz).2.2.2.2.2.2.2.1 m0 h0 hh0
          have loop : ∀ (j i : Nat) (v4 : Int32) (Hc : ho_T) (ma : im_MI), i + j = 6 → rz_ Hc K G mi ma → (∀ u, ho_set Hc (10 + m0) h0 u = ho_set H (10 + m0) h0 u) → Ev (d + 5) 192 91 [.ref 110, .int (nI s0), .int (nI m0), .int (nI w0), .int v4, .int (nI m0), .int (nI (14 * m0 + h0)), .int (nI (H (10 + m0) h0)), .int (nI (lo_bits (fun d => ho_agr (ho_set H (10 + m0) h0 d) K G s0 m0) i)), .int (nI i)] [] sh ma mr (fun r sh2 m2 r2 => sh2 = sh ∧ (r = .int (nI (lo_bits (fun d => ho_agr (ho_set H (10 + m0) h0 d) K G s0 m0) 6)) ∧ r2 = mr ∧ rz_ (H) (K) G mi m2)) := by
            intro j
            induction j with
            | zero =>
              intro i v4 Hc ma hi hz hset
              refine ev_s (is_iload rfl rfl) ?_
              refine ev_s (is_bipush (nI 6) rfl rfl) ?_
              refine ev_s (is_icmp_ge_t rfl (nI_le (by omega) (by omega))) ?_
              refine ev_s (is_aload_n rfl rfl) ?_
              refine ev_s (is_getR rfl (pu_s hC 110 rfl rfl) rfl rfl (pu_r hC 110 3 rfl rfl)) ?_
              refine ev_s (is_iload rfl rfl) ?_
              refine ev_s (is_iload rfl rfl) ?_
              refine ev_s (is_iastore (14 * m0 + h0) rfl (pu_s hC 113 rfl rfl) rfl rfl (by omega)) ?_
              refine ev_s (is_iload rfl rfl) ?_
              refine ev_ret (is_ireturn rfl rfl (by first | rfl | exact pu_b_nar | decide)) ?_
              have hz := rz_row hz (m := m0) (w := h0) (v := H (10 + m0) h0) hW (by omega) (ho_bd_put (rz_bd hz) (Or.inl ⟨hh0, hdo⟩))
              rw [hset, ho_set_same] at hz
              exact ⟨rfl, by rw [show i = 6 by omega], rfl, hz⟩
            | succ j ih =>
              intro i v4 Hc ma hi hz hset
              refine ev_s (is_iload rfl rfl) ?_
              refine ev_s (is_bipush (nI 6) rfl rfl) ?_
              refine ev_s (is_icmp_ge_f rfl (nI_ge (by omega) (by omega))) ?_
              refine ev_s (is_aload_n rfl rfl) ?_
              refine ev_s (is_getR rfl (pu_s hC 110 rfl rfl) rfl rfl (pu_r hC 110 3 rfl rfl)) ?_
              refine ev_s (is_iload rfl rfl) ?_
              refine ev_s (is_iload rfl rfl) ?_
              refine ev_s (is_iastore (14 * m0 + h0) rfl (pu_s hC 113 rfl rfl) rfl rfl (by omega)) ?_
              have hz := rz_row hz (m := m0) (w := h0) (v := i) hW (by omega) (ho_bd_put (rz_bd hz) (Or.inl ⟨hh0, by omega⟩))
              rw [hset i] at hz
              refine ev_s (is_iload rfl rfl) ?_
              refine ev_s (is_aload_n rfl rfl) ?_
              refine ev_s (is_iload_n rfl rfl) ?_
              refine ev_s (is_iload_n rfl rfl) ?_
              refine ev_q1 (is_callR 3 [_, _] [_] rfl rfl rfl rfl rfl (Nat.le_of_ble_eq_true rfl) rfl rfl rfl (pu_s hC 110 rfl rfl)) rfl rfl (r_unlike hC hz (s := s0) (m := m0) hs4 hs12 hm6) (fun r_112 mi mr hq_112 => ?_)
              obtain ⟨rfl, hmr, hsc⟩ := hq_112
              have hmr := hmr.symm
              subst hmr
              have hz := rz_sS hz hsc
              refine ev_s (is_iconst ((-1)) rfl rfl) ?_
              refine ev_icmp_ne rfl (fun h_116 => ?_) (fun h_116 => ?_)
              · have hp : ho_agr (ho_set H (10 + m0) h0 i) K G s0 m0 = false := decide_eq_false (fun qq => h_116 ((pu_o_none _ (fo_lt (f := fun h => ho_comp (ho_set H (10 + m0) h0 i) G m0 h) hs12)).mpr qq))
                refine ev_s (is_iconst (nI 0) rfl rfl) ?_
                have hbl := lo_bits_lt (fun d => ho_agr (ho_set H (10 + m0) h0 d) K G s0 m0) i
                first
                  | refine ev_s (is_ior _ rfl (pu_or hbl)) ?_
                  | refine ev_s (is_ior _ rfl (pu_or0 _)) ?_
                refine ev_s (st_istore_8 rfl rfl) ?_
                refine ev_s (st_iinc_9 _ rfl rfl (nI_inc _)) ?_
                refine ev_s (is_goto rfl) ?_
                have := ih (i + 1) v4 _ _ (by omega) hz (fun u => ho_set_set _ _ _ _ _)
                rw [lo_bits_s] at this
                first
                  | (rw [if_pos hp] at this; exact this)
                  | (rw [if_neg (fun q => absurd (hp.symm.trans q) (by decide)), Nat.add_zero] at this; exact this)
              · have hp : ho_agr (ho_set H (10 + m0) h0 i) K G s0 m0 = true := decide_eq_true ((pu_o_none _ (fo_lt (f := fun h => ho_comp (ho_set H (10 + m0) h0 i) G m0 h) hs12)).mp (Decidable.of_not_not h_116))
                refine ev_s (is_iconst (nI 1) rfl rfl) ?_
                refine ev_s (is_iload rfl rfl) ?_
                refine ev_s (is_ishl _ rfl (pu_shl1 (by omega))) ?_
                refine ev_s (is_goto rfl) ?_
                have hbl := lo_bits_lt (fun d => ho_agr (ho_set H (10 + m0) h0 d) K G s0 m0) i
                first
                  | refine ev_s (is_ior _ rfl (pu_or hbl)) ?_
                  | refine ev_s (is_ior _ rfl (pu_or0 _)) ?_
                refine ev_s (st_istore_8 rfl rfl) ?_
                refine ev_s (st_iinc_9 _ rfl rfl (nI_inc _)) ?_
                refine ev_s (is_goto rfl) ?_
                have := ih (i + 1) v4 _ _ (by omega) hz (fun u => ho_set_set _ _ _ _ _)
                rw [lo_bits_s] at this
                first
                  | (rw [if_pos hp] at this; exact this)
                  | (rw [if_neg (fun q => absurd (hp.symm.trans q) (by decide)), Nat.add_zero] at this; exact this)
          refine ev_s (is_iload_n rfl rfl) ?_
          refine ev_s (is_goto rfl) ?_
          refine ev_s (st_istore_5 rfl rfl) ?_
          refine ev_s (is_iload rfl rfl) ?_
          refine ev_s (is_iconst ((-1)) rfl rfl) ?_
          refine ev_s (is_icmp_ne_t rfl (pu_n1 (by omega))) ?_
          refine ev_s (is_bipush (nI 14) rfl rfl) ?_
          refine ev_s (is_iload rfl rfl) ?_
          first
            | refine ev_s (is_imul _ rfl (pk_mul _ _)) ?_
            | refine ev_s (is_imul _ rfl rfl) ?_
          refine ev_s (is_iload_n rfl rfl) ?_
          refine ev_s (is_bipush (nI 100) rfl rfl) ?_
          refine ev_s (is_irem _ rfl (by decide) (pk_rem (by omega) (by decide) (by decide))) ?_
          rw [eh0]
          first
            | refine ev_s (is_iadd _ rfl (nI_add _ _)) ?_
            | refine ev_s (is_iadd _ rfl rfl) ?_
          refine ev_s (st_istore_6 rfl rfl) ?_
          refine ev_s (is_aload_n rfl rfl) ?_
          refine ev_s (is_getR rfl (pu_s hC 110 rfl rfl) rfl rfl (pu_r hC 110 3 rfl rfl)) ?_
          refine ev_s (is_iload rfl rfl) ?_
          refine ev_s (is_iaload' (14 * m0 + h0) rfl (pu_s hC 113 rfl rfl) rfl rfl (by omega) (rz_at hz (by omega) (by omega))) ?_
          refine ev_s (st_istore_7 rfl rfl) ?_
          refine ev_s (is_iconst (nI 0) rfl rfl) ?_
          refine ev_s (st_istore_8 rfl rfl) ?_
          refine ev_s (is_iconst (nI 0) rfl rfl) ?_
          refine ev_s (st_istore_9 rfl rfl) ?_
          exact loop 6 0 _ H mi (by omega) hz (fun _ => rfl)
      · refine ev_s (is_bipush ((-7)) rfl rfl) ?_
        refine ev_ret (is_ireturn rfl rfl (by first | rfl | exact pu_b_nar | decide)) ?_
        first
          | (rw [show an_did H K G s m w = rf_d H K s m from if_neg h_10]
             exact ⟨rfl, rfl, rfl, hz⟩)
          | (rw [show an_did H K G (nI s0) (nI m0) w = -7 by unfold an_did; rw [if_pos e0, if_neg (by rw [dd_out h_23]; decide)]]
             exact ⟨rfl, rfl, rfl, hz⟩)
          | (rw [show an_did H K G (nI s0) (nI m0) (nI w0) = -7 by unfold an_did; rw [if_pos e0, if_neg (by rw [hdi]; exact fun q => absurd (of_decide_eq_true q) (by omega))]]
             exact ⟨rfl, rfl, rfl, hz⟩)
  · refine ev_s (is_iload rfl rfl) ?_
    refine ev_ret (is_ireturn rfl rfl (by first | rfl | exact pu_b_nar | decide)) ?_
    first
      | (rw [show an_did H K G s m w = rf_d H K s m from if_neg h_10]
         exact ⟨rfl, rfl, rfl, hz⟩)
      | (rw [show an_did H K G (nI s0) (nI m0) w = -7 by unfold an_did; rw [if_pos e0, if_neg (by rw [dd_out h_23]; decide)]]
         exact ⟨rfl, rfl, rfl, hz⟩)
      | (rw [show an_did H K G (nI s0) (nI m0) (nI w0) = -7 by unfold an_did; rw [if_pos e0, if_neg (by rw [hdi]; exact fun q => absurd (of_decide_eq_true q) (by omega))]]
         exact ⟨rfl, rfl, rfl, hz⟩)

/-- a sheet becomes another row -/
theorem rz_sh {H K K2 : ho_T} {G : ho_G} {m0 mi m2 : im_MI} (h : rz_ H K G m0 mi) {s z n : Nat} (hs : s < 4) (hz4 : z < 4) (hn : n ≤ 40) {f : Nat → Nat} (hf : ∀ j, f j < 2 ^ 32) (hR : rr_ok H G m2) (e : ∀ k, ¬ (119 ≤ k ∧ k ≤ 121) → k ≠ 125 → k ≠ 126 → m2 k = mi k) (g1 : ∀ q, q < 4 → m2 119 q = if q = s then nI z - 1 else mi 119 q) (g2 : ∀ q, q < 4 → m2 120 q = if q = s then nI n else mi 120 q) (g3 : ∀ q j, q < 4 → j < 40 → m2 121 (40 * q + j) = if q = s then nI (f j) else mi 121 (40 * q + j)) (k4 : ∀ q, K2 4 q = if q = s then z else K 4 q) (k5 : ∀ q, K2 5 q = if q = s then n else K 5 q) (k6 : ∀ q j, q < 4 → K2 (20 + q) j = if q = s then f j else K (20 + q) j) (ko : ∀ i j, i ≠ 4 → i ≠ 5 → (i < 20 ∨ 24 ≤ i) → K2 i j = K i j) : rz_ H K2 G m0 m2 := by
  have hn6 := rz_n h
  obtain ⟨h1, ⟨q1, q2, q3, q4, q5, q6, c1, c2, c3, c4, c5, c6⟩, h3⟩ := h
  have k0 : ∀ j, K2 0 j = K 0 j := fun j => ko 0 j (by decide) (by decide) (by decide)
  have k6' : ∀ j, K2 6 j = K 6 j := fun j => ko 6 j (by decide) (by decide) (by decide)
  refine ⟨hR, ⟨by rw [e 110 (by decide) (by decide) (by decide)]; exact q1, fun j hj => by rw [e 114 (by decide) (by decide) (by decide), k6']; exact q2 j hj, by rw [e 110 (by decide) (by decide) (by decide), k0]; exact q3, fun hi => ?_, fun q hq => ?_, fun j hj => by rw [e 123 (by decide) (by decide) (by decide)]; exact q6 j hj, fun q => ?_, fun q => ?_, fun q j hq => ?_, fun j => by rw [k6']; exact c4 j, by rw [k0]; exact c5, fun hi => ?_⟩, h3.trans (fun k hk => e k (fun q => by have := of_decide_eq_false hk; omega) (fun q => by rw [q] at hk; cases hk) (fun q => by rw [q] at hk; cases hk))⟩
  · rw [k0] at hi
    obtain ⟨d1, d2, d3, d4⟩ := q4 hi
    rw [e 118 (by decide) (by decide) (by decide), e 117 (by decide) (by decide) (by decide), k0, k0, k0]
    exact ⟨d1, d2, d3, fun m k hm hk => by rw [ko _ _ (by omega) (by omega) (by omega)]; exact d4 m k hm hk⟩
  · rw [g1 q hq, g2 q hq, k4, k5]
    by_cases c : q = s
    · rw [if_pos c, if_pos c, if_pos c, if_pos c]
      exact ⟨rfl, rfl, fun j hj => by rw [g3 q j hq hj, if_pos c, k6 q j hq, if_pos c]⟩
    · rw [if_neg c, if_neg c, if_neg c, if_neg c]
      exact ⟨(q5 q hq).1, (q5 q hq).2.1, fun j hj => by rw [g3 q j hq hj, if_neg c, k6 q j hq, if_neg c]; exact (q5 q hq).2.2 j hj⟩
  · rw [k4]; split
    · exact hz4
    · exact c1 q
  · rw [k5]; split
    · exact hn
    · exact c2 q
  · rw [k6 _ _ hq]; split
    · exact hf j
    · exact c3 q j hq
  · rw [k0] at hi
    obtain ⟨d1, d2, d3, d4, d5, d6, d7, d8⟩ := c6 hi
    simp only [k0]
    refine ⟨d1, d2, d3, fun m h hm hh => by rw [ko _ _ (by omega) (by omega) (by omega)]; exact d4 m h hm hh, fun m hm => by rw [ko _ _ (by omega) (by omega) (by omega)]; exact d5 m hm, fun m hm => by rw [ko _ _ (by omega) (by omega) (by omega)]; exact d6 m hm, fun m hm => by rw [ko _ _ (by omega) (by omega) (by omega)]; exact d7 m hm, fun m o hm ho hq => ?_⟩
    rw [ko _ _ (by omega) (by omega) (by omega), ko _ _ (by omega) (by omega) (by omega)] at hq
    exact d8 m o hm ho hq
theorem fl_4 (H K : ho_T) (G : ho_G) (s m n q : Nat) : fl_K H K G s m n 4 q = if q = s then 2 else K 4 q := by
  unfold fl_K
  by_cases h : q = s
  · rw [if_pos ⟨rfl, h⟩, if_pos h]
  · rw [if_neg (by omega), if_neg (by omega), if_neg (by omega), if_neg h]
theorem fl_5 (H K : ho_T) (G : ho_G) (s m n q : Nat) : fl_K H K G s m n 5 q = if q = s then n else K 5 q := by
  unfold fl_K
  rw [if_neg (by omega)]
  by_cases h : q = s
  · rw [if_pos ⟨rfl, h⟩, if_pos h]
  · rw [if_neg (by omega), if_neg (by omega), if_neg h]
theorem fl_6 (H K : ho_T) (G : ho_G) (s m n q j : Nat) : fl_K H K G s m n (20 + q) j = if q = s then (if j < n then ho_comp H G m j else 0) else K (20 + q) j := by
  unfold fl_K
  rw [if_neg (by omega), if_neg (by omega)]
  by_cases h : q = s
  · rw [if_pos (by omega), if_pos h]
  · rw [if_neg (by omega), if_neg h]
theorem fl_o (H K : ho_T) (G : ho_G) {s m n i j : Nat} (hs : s < 4) (h4 : i ≠ 4) (h5 : i ≠ 5) (h : i < 20 ∨ 24 ≤ i) : fl_K H K G s m n i j = K i j := by
  unfold fl_K
  rw [if_neg (by omega), if_neg (by omega), if_neg (by omega)]
theorem fl_6' (H K : ho_T) (G : ho_G) {s m n q j : Nat} : fl_K H K G s m n (20 + q) j = if q = s then (fun j => if j < n then ho_comp H G m j else 0) j else K (20 + q) j := fl_6 H K G s m n q j
/-- cells of a sheet, so many told anew -/
def cs_ok (mi ma : im_MI) (s i : Nat) (f : Nat → Nat) : Prop := ∀ q, ma 121 q = if 40 * s ≤ q ∧ q < 40 * s + i then nI (f (q - 40 * s)) else mi 121 q
theorem cs_at {mi ma : im_MI} {s : Nat} {f : Nat → Nat} (h : cs_ok mi ma s 40 f) (hs : s < 4) : ∀ q j, q < 4 → j < 40 → ma 121 (40 * q + j) = if q = s then nI (f j) else mi 121 (40 * q + j) := by
  intro q j hq hj
  rw [h]
  by_cases c : q = s
  · subst c
    rw [if_pos (by omega), if_pos rfl, show 40 * q + j - 40 * q = j by omega]
  · rw [if_neg (by omega), if_neg c]
theorem cs_put {mi ma : im_MI} {s i v : Nat} {f : Nat → Nat} (h : cs_ok mi ma s i f) (hv : v = f i) : cs_ok mi (im_u ma 121 (40 * s + i) (nI v)) s (i + 1) f := by
  intro q
  by_cases c : q = 40 * s + i
  · rw [c, im_u_s, if_pos (by omega), hv, show 40 * s + i - 40 * s = i by omega]
  · rw [im_u_j _ _ _ _ c, h q]
    by_cases c2 : 40 * s ≤ q ∧ q < 40 * s + i
    · rw [if_pos c2, if_pos (by omega)]
    · rw [if_neg c2, if_neg (by omega)]
theorem rr_121 {H : ho_T} {G : ho_G} {mi : im_MI} (h : rr_ok H G mi) {k j : Nat} {v : Int32} (hk : 119 ≤ k ∧ k ≤ 121) : rr_ok H G (im_u mi k j v) := rr_row h fun q h1 h2 => im_u_row' (by omega)

theorem cs_row {mi ma mb : im_MI} {s i : Nat} {f : Nat → Nat} (h : cs_ok mi ma s i f) (e : mb 121 = ma 121) : cs_ok mi mb s i f := fun q => by rw [e]; exact h q

theorem r_film {d : Nat} {sh : im_Sh} {mi : im_MI} {mr : im_MR} (hC : pu_C sh mr) {H K : ho_T} {G : ho_G} (hz : rz_ H K G mi mi) (s m n : Int32) : EvM (d + 4) 195 [.ref 110, .int s, .int m, .int n] sh mi mr (fun r sh2 m2 r2 => sh2 = sh ∧ (r = .int (an_film H s m n) ∧ r2 = mr ∧ rz_ (H) (st_film H K G s m n) G mi m2)) := by
  show Ev (d + 4) 195 0 [.ref 110, .int s, .int m, .int n, im_bad] [] sh mi mr _
  have hn6 := rz_n hz
  refine ev_s (is_iload_n rfl rfl) ?_
  refine ev_s (is_iconst (nI 0) rfl rfl) ?_
  refine ev_s (is_iconst (nI 3) rfl rfl) ?_
  refine ev_c1 (is_call0 3 [_, _, _] [] rfl rfl rfl rfl rfl (Nat.le_of_ble_eq_true rfl) rfl rfl rfl) rfl rfl (r_in' _ _ _) ?_
  refine ev_ifB_ne rfl (fun h_6 => ?_) (fun h_6 => ?_)
  · obtain ⟨s0, rfl, ls0, us0, es0⟩ := ho_rng_n h_6 (by decide) (by decide)
    refine ev_s (is_aload_n rfl rfl) ?_
    refine ev_s (is_iload_n rfl rfl) ?_
    refine ev_c1 (is_callR 2 [_] [] rfl rfl rfl rfl rfl (Nat.le_of_ble_eq_true rfl) rfl rfl rfl (pu_s hC 110 rfl rfl)) rfl rfl (r_isMan' hC hz.1 _) ?_
    refine ev_ifB_ne rfl (fun h_17 => ?_) (fun h_17 => ?_)
    · obtain ⟨m0, rfl, hm0, em0⟩ := ho_isM_n hn6 h_17
      refine ev_s (is_iload_n rfl rfl) ?_
      refine ev_s (is_iconst (nI 0) rfl rfl) ?_
      refine ev_s (is_bipush (nI 12) rfl rfl) ?_
      refine ev_c1 (is_call0 3 [_, _, _] [] rfl rfl rfl rfl rfl (Nat.le_of_ble_eq_true rfl) rfl rfl rfl) rfl rfl (r_in' _ _ _) ?_
      refine ev_ifB_ne rfl (fun h_30 => ?_) (fun h_30 => ?_)
      · obtain ⟨n0, rfl, ln0, un0, en0⟩ := ho_rng_n h_30 (by decide) (by decide)
        rw [show an_film H (nI s0) (nI m0) (nI n0) = nI n0 by simp [an_film, es0, em0, en0, h_6, h_17, h_30], show st_film H K G (nI s0) (nI m0) (nI n0) = fl_K H K G s0 m0 n0 by simp [st_film, es0, em0, en0, h_6, h_17, h_30]]
        have hloop : ∀ (mj : im_MI), rz_ H K G mj mj → mj = mi → ∀ (ma : im_MI), rr_ok H G ma → (∀ k, k ≠ 121 → k ≠ 125 → k ≠ 126 → ma k = (im_u (im_u mj 119 s0 (nI 1)) 120 s0 (nI n0)) k) → cs_ok mj ma s0 0 (fun j => if j < n0 then ho_comp H G m0 j else 0) → Ev (d + 4) 195 53 [.ref 110, .int (nI s0), .int (nI m0), .int (nI n0), .int (nI 0)] [] sh ma mr (fun r sh2 m2 r2 => sh2 = sh ∧ (r = .int (nI n0) ∧ r2 = mr ∧ rz_ (H) (fl_K H K G s0 m0 n0) G mj m2)) := by
          intro mj hz emj ma hR e g
          have loop : ∀ (j i : Nat) (ma : im_MI), i + j = 40 → rr_ok H G ma → (∀ k, k ≠ 121 → k ≠ 125 → k ≠ 126 → ma k = (im_u (im_u mj 119 s0 (nI 1)) 120 s0 (nI n0)) k) → cs_ok mj ma s0 i (fun j => if j < n0 then ho_comp H G m0 j else 0) → Ev (d + 4) 195 53 [.ref 110, .int (nI s0), .int (nI m0), .int (nI n0), .int (nI i)] [] sh ma mr (fun r sh2 m2 r2 => sh2 = sh ∧ (r = .int (nI n0) ∧ r2 = mr ∧ rz_ (H) (fl_K H K G s0 m0 n0) G mj m2)) := by
            intro j
            induction j with
            | zero =>
              intro i ma hi hR e g
              refine ev_s (is_iload rfl rfl) ?_
              refine ev_s (is_bipush (nI 40) rfl rfl) ?_
              refine ev_s (is_icmp_ge_t rfl (nI_le (by omega) (by omega))) ?_
              refine ev_s (is_iload_n rfl rfl) ?_
              refine ev_ret (is_ireturn rfl rfl (by first | rfl | exact pu_b_nar | decide)) ?_
              have h6 : i = 40 := by omega
              subst h6
              refine ⟨rfl, rfl, rfl, rz_sh hz (z := 2) (n := n0) (s := s0) (by omega) (by decide) (by omega) (f := (fun j => if j < n0 then ho_comp H G m0 j else 0)) (fun j => by have := ho_comp_le H G (rz_bd hz) m0 j; show (if j < n0 then ho_comp H G m0 j else 0) < _; split <;> omega) hR (fun k h1 h2 h3 => by rw [e k (by omega) h2 h3, im_u_kk _ _ _ _ (by omega), im_u_kk _ _ _ _ (by omega)]) (fun q hq => ?_) (fun q hq => ?_) (cs_at g (by omega)) (fl_4 H K G s0 m0 n0) (fl_5 H K G s0 m0 n0) (fun q j _ => fl_6' H K G) (fun i j h4 h5 h => fl_o H K G (by omega) h4 h5 h)⟩
              · rw [e 119 (by decide) (by decide) (by decide), im_u_k _ _ _ _ (by decide)]
                by_cases c : q = s0
                · rw [if_pos c, c, im_u_s]; rfl
                · rw [if_neg c, im_u_j _ _ _ _ c]
              · rw [e 120 (by decide) (by decide) (by decide)]
                by_cases c : q = s0
                · rw [if_pos c, c, im_u_s]
                · rw [if_neg c, im_u_j _ _ _ _ c, im_u_k _ _ _ _ (by decide)]
            | succ j ih =>
              intro i ma hi hR e g
              refine ev_s (is_iload rfl rfl) ?_
              refine ev_s (is_bipush (nI 40) rfl rfl) ?_
              refine ev_s (is_icmp_ge_f rfl (nI_ge (by omega) (by omega))) ?_
              refine ev_s (is_aload_n rfl rfl) ?_
              refine ev_s (is_getR rfl (pu_s hC 110 rfl rfl) rfl rfl (pu_r hC 110 16 rfl rfl)) ?_
              refine ev_s (is_bipush (nI 40) rfl rfl) ?_
              refine ev_s (is_iload_n rfl rfl) ?_
              first
                | refine ev_s (is_imul _ rfl (pk_mul _ _)) ?_
                | refine ev_s (is_imul _ rfl rfl) ?_
              refine ev_s (is_iload rfl rfl) ?_
              first
                | refine ev_s (is_iadd _ rfl (nI_add _ _)) ?_
                | refine ev_s (is_iadd _ rfl rfl) ?_
              refine ev_s (is_iload rfl rfl) ?_
              refine ev_s (is_iload_n rfl rfl) ?_
              refine ev_icmpN_ge rfl (by omega) (by omega) (fun h_74 => ?_) (fun h_74 => ?_)
              · refine ev_s (is_iconst (nI 0) rfl rfl) ?_
                refine ev_s (is_iastore (40 * s0 + i) rfl (pu_s hC 121 rfl rfl) rfl rfl (by omega)) ?_
                refine ev_s (st_iinc_4 _ rfl rfl (nI_inc _)) ?_
                refine ev_s (is_goto rfl) ?_
                refine ih (i + 1) _ (by omega) (rr_121 hR (by decide)) (fun k h1 h2 h3 => by rw [im_u_kk _ _ _ _ h1]; exact e k h1 h2 h3) (cs_put g ?_)
                show _ = (if i < n0 then ho_comp H G m0 i else 0)
                first
                  | rw [if_neg (by omega)]
                  | rw [if_pos (by omega)]
              · refine ev_s (is_aload_n rfl rfl) ?_
                refine ev_s (is_iload_n rfl rfl) ?_
                refine ev_s (is_iload rfl rfl) ?_
                refine ev_s (is_iconst (nI 0) rfl rfl) ?_
                refine ev_s (is_bipush (nI 11) rfl rfl) ?_
                refine ev_c1 (is_call0 3 [_, _, _] [_, _, _, _] rfl rfl rfl rfl rfl (Nat.le_of_ble_eq_true rfl) rfl rfl rfl) rfl rfl (r_within _ _ _) ?_
                rw [pu_cl_in (lo := 0) (v := i) (hi := 11) (by omega) (by omega) (by decide)]
                refine ev_q1 (is_callR 3 [_, _] [_, _] rfl rfl rfl rfl rfl (Nat.le_of_ble_eq_true rfl) rfl rfl rfl (pu_s hC 110 rfl rfl)) rfl rfl (r_companyOf hC hR (m := m0) (h := i) (by omega) (by omega)) (fun r_87 mi mr hq_87 => ?_)
                obtain ⟨rfl, hmr, hsc⟩ := hq_87
                have hmr := hmr.symm
                subst hmr
                have hR := rr_sS hR hsc
                have e : ∀ k, k ≠ 121 → k ≠ 125 → k ≠ 126 → mi k = (im_u (im_u mj 119 s0 (nI 1)) 120 s0 (nI n0)) k := fun k h1 h2 h3 => by rw [hsc k (by unfold sS; rw [Bool.or_eq_false_iff]; exact ⟨nbeq_f h2, nbeq_f h3⟩)]; exact e k h1 h2 h3
                have g := cs_row g (hsc 121 rfl)
                refine ev_s (is_goto rfl) ?_
                refine ev_s (is_iastore (40 * s0 + i) rfl (pu_s hC 121 rfl rfl) rfl rfl (by omega)) ?_
                refine ev_s (st_iinc_4 _ rfl rfl (nI_inc _)) ?_
                refine ev_s (is_goto rfl) ?_
                refine ih (i + 1) _ (by omega) (rr_121 hR (by decide)) (fun k h1 h2 h3 => by rw [im_u_kk _ _ _ _ h1]; exact e k h1 h2 h3) (cs_put g ?_)
                show _ = (if i < n0 then ho_comp H G m0 i else 0)
                first
                  | rw [if_neg (by omega)]
                  | rw [if_pos (by omega)]
          exact loop 40 0 ma (by omega) hR e g
        refine ev_s (is_aload_n rfl rfl) ?_
        refine ev_s (is_getR rfl (pu_s hC 110 rfl rfl) rfl rfl (pu_r hC 110 14 rfl rfl)) ?_
        refine ev_s (is_iload_n rfl rfl) ?_
        refine ev_s (is_iconst (nI 1) rfl rfl) ?_
        refine ev_s (is_iastore (s0) rfl (pu_s hC 119 rfl rfl) rfl rfl (by omega)) ?_
        refine ev_s (is_aload_n rfl rfl) ?_
        refine ev_s (is_getR rfl (pu_s hC 110 rfl rfl) rfl rfl (pu_r hC 110 15 rfl rfl)) ?_
        refine ev_s (is_iload_n rfl rfl) ?_
        refine ev_s (is_iload_n rfl rfl) ?_
        refine ev_s (is_iastore (s0) rfl (pu_s hC 120 rfl rfl) rfl rfl (by omega)) ?_
        refine ev_s (is_iconst (nI 0) rfl rfl) ?_
        refine ev_s (st_istore_4 rfl rfl) ?_
        exact hloop mi hz rfl _ (rr_121 (rr_121 hz.1 (by decide)) (by decide)) (fun _ _ _ _ => rfl) (fun q => by rw [if_neg (by omega), im_u_k _ _ _ _ (by decide), im_u_k _ _ _ _ (by decide)])
      · refine ev_s (is_bipush ((-7)) rfl rfl) ?_
        refine ev_ret (is_ireturn rfl rfl (by first | rfl | exact pu_b_nar | decide)) ?_
        refine ⟨rfl, by simp [an_film, h_6, es0, h_17, em0, h_30], rfl, ?_⟩
        rw [show st_film H K G (nI s0) (nI m0) n = K by simp [st_film, h_6, es0, h_17, em0, h_30]]; exact hz
    · refine ev_s (is_bipush ((-5)) rfl rfl) ?_
      refine ev_ret (is_ireturn rfl rfl (by first | rfl | exact pu_b_nar | decide)) ?_
      refine ⟨rfl, by simp [an_film, h_6, es0, h_17], rfl, ?_⟩
      rw [show st_film H K G (nI s0) m n = K by simp [st_film, h_6, es0, h_17]]; exact hz
  · refine ev_s (is_bipush ((-2)) rfl rfl) ?_
    refine ev_ret (is_ireturn rfl rfl (by first | rfl | exact pu_b_nar | decide)) ?_
    refine ⟨rfl, by simp [an_film, h_6], rfl, ?_⟩
    rw [show st_film H K G s m n = K by simp [st_film, h_6]]; exact hz
