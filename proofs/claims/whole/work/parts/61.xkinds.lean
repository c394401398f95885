/-! ===== PURE, the class: kinds, did ===== -/

theorem pu_b_0 {p : Prop} [Decidable p] (h : ¬ p) : pu_b p = 0 := if_neg h
theorem pu_b_1 {p : Prop} [Decidable p] (h : p) : ¬ pu_b p = 0 := by rw [pu_b, if_pos h]; decide

theorem x_agrS {d : Nat} {sh : im_Sh} {mi : im_MI} {mr : im_MR} (hC : pu_C sh mr) {H K : ho_T} {G : ho_G} (hx : xa_ok H G mi mr) (hz : xh_ok H K mi) {s0 m0 : Nat} (hs4 : s0 < 4) (hs12 : K 5 s0 ≤ 12) (hm0 : m0 < H 0 0) {k : Nat} {a : Nat → Nat} (hk : xm_M k) (ha : xm_ok mi k a) : EvM (d + 5) 128 [.ref 29, .int (nI s0), .int (nI m0), .ref k, .int (nI 0)] sh mi mr (fun r sh2 m2 r2 => sh2 = sh ∧ (r = .int (pu_b (fo_ K s0 (fun h => md_compO G (H 0 3) (H 0 1) a (ho_mcell H m0) (ho_mrow H m0) h) = none)) ∧ r2 = mr ∧ sc_ (xS 104) mi m2)) := by
  show Ev (d + 5) 128 0 [.ref 29, .int (nI s0), .int (nI m0), .ref k, .int (nI 0), im_bad, im_bad] [] sh mi mr _
  have hn6 := xa_n hx
  have hs : sc_ xQ mi mi := sc_rf
  refine ev_s (is_iload rfl rfl) ?_
  refine ev_s (is_if_eq_t rfl rfl) ?_
  refine ev_s (is_aload_n rfl rfl) ?_
  refine ev_s (st_astore_5 rfl rfl) ?_
  refine ev_s (is_iload rfl rfl) ?_
  refine ev_s (is_if_eq_t rfl rfl) ?_
  refine ev_s (is_aload_n rfl rfl) ?_
  refine ev_s (is_iload_n rfl rfl) ?_
  refine ev_c1 (is_callR 2 [_] [] rfl rfl rfl rfl rfl (Nat.le_of_ble_eq_true rfl) rfl rfl rfl (pu_s hC 29 rfl rfl)) rfl rfl (x_mate hC hx hm0) ?_
  refine ev_s (st_astoreO_6 rfl rfl) ?_
  refine ev_s (is_aload_n rfl rfl) ?_
  refine ev_s (is_getR rfl (pu_s hC 29 rfl rfl) rfl rfl (pu_r hC 29 3 rfl rfl)) ?_
  refine ev_s (is_aload_n rfl rfl) ?_
  refine ev_s (is_getR rfl (pu_s hC 29 rfl rfl) rfl rfl (pu_r hC 29 12 rfl rfl)) ?_
  refine ev_s (is_iload_n rfl rfl) ?_
  refine ev_s (is_aaload (k := 4) (s0) rfl (pu_s hC 39 rfl rfl) rfl rfl rfl (by omega) (pu_sheet hC (by omega)).1) ?_
  refine ev_s (is_aload rfl rfl) ?_
  refine ev_s (is_aloadO rfl rfl) ?_
  refine ev_q1 (is_call0 4 [_, _, _, _] [] rfl rfl rfl rfl rfl (Nat.le_of_ble_eq_true rfl) rfl rfl rfl) rfl (by cases ho_mcell H m0 <;> rfl) (x_firstO hC (xa_r hx) hk ha (s := s0) hs4 (hz.1 s0 hs4).2.1 hs12 (hz.1 s0 hs4).2.2 (fun j => hz.2.2.2.2.2.2.2.1 s0 j hs4) (o := ho_mcell H m0) (xa_mate hx m0)) (fun r_47 mi mr hq_47 => ?_)
  obtain ⟨rfl, hmr, hsc⟩ := hq_47
  have hmr := hmr.symm
  subst hmr
  refine ev_s (is_iconst ((-1)) rfl rfl) ?_
  refine ev_icmp_ne rfl (fun h_51 => ?_) (fun h_51 => ?_)
  · refine ev_s (is_iconst (nI 0) rfl rfl) ?_
    refine ev_ret (is_ireturn rfl rfl (by first | rfl | exact pu_b_nar | decide)) ?_
    first
      | exact ⟨rfl, pu_b_t ((pu_o_none _ (fo_lt (f := (fun h => md_compO G (H 0 3) (H 0 1) a (ho_mcell H m0) (ho_mrow H m0) h)) hs12)).mp (Decidable.of_not_not h_51)), rfl, hsc⟩
      | exact ⟨rfl, pu_b_f (fun q => h_51 ((pu_o_none _ (fo_lt (f := (fun h => md_compO G (H 0 3) (H 0 1) a (ho_mcell H m0) (ho_mrow H m0) h)) hs12)).mpr q)), rfl, hsc⟩
  · refine ev_s (is_iconst (nI 1) rfl rfl) ?_
    refine ev_s (is_goto rfl) ?_
    refine ev_ret (is_ireturn rfl rfl (by first | rfl | exact pu_b_nar | decide)) ?_
    first
      | exact ⟨rfl, pu_b_t ((pu_o_none _ (fo_lt (f := (fun h => md_compO G (H 0 3) (H 0 1) a (ho_mcell H m0) (ho_mrow H m0) h)) hs12)).mp (Decidable.of_not_not h_51)), rfl, hsc⟩
      | exact ⟨rfl, pu_b_f (fun q => h_51 ((pu_o_none _ (fo_lt (f := (fun h => md_compO G (H 0 3) (H 0 1) a (ho_mcell H m0) (ho_mrow H m0) h)) hs12)).mpr q)), rfl, hsc⟩

theorem x_agrM {d : Nat} {sh : im_Sh} {mi : im_MI} {mr : im_MR} (hC : pu_C sh mr) {H K : ho_T} {G : ho_G} (hx : xa_ok H G mi mr) (hz : xh_ok H K mi) {s0 m0 : Nat} (hs4 : s0 < 4) (hs12 : K 5 s0 ≤ 12) (hm0 : m0 < H 0 0) {k : Nat} {a : Nat → Nat} (hk : xm_M k) (ha : xm_ok mi k a) : EvM (d + 5) 128 [.ref 29, .int (nI s0), .int (nI m0), .ref k, .int (nI 1)] sh mi mr (fun r sh2 m2 r2 => sh2 = sh ∧ (r = .int (pu_b (fo_ K s0 (fun h => md_compO G (H 0 3) (H 0 1) (ho_row H m0) (some k) a h) = none)) ∧ r2 = mr ∧ sc_ (xS 104) mi m2)) := by
  show Ev (d + 5) 128 0 [.ref 29, .int (nI s0), .int (nI m0), .ref k, .int (nI 1), im_bad, im_bad] [] sh mi mr _
  have hn6 := xa_n hx
  have hs : sc_ xQ mi mi := sc_rf
  refine ev_s (is_iload rfl rfl) ?_
  refine ev_s (is_if_eq_f rfl (by decide)) ?_
  refine ev_s (is_aload_n rfl rfl) ?_
  refine ev_s (is_getR rfl (pu_s hC 29 rfl rfl) rfl rfl (pu_r hC 29 0 rfl rfl)) ?_
  refine ev_s (is_iload_n rfl rfl) ?_
  refine ev_s (is_aaload (k := 1) (m0) rfl (pu_s hC 30 rfl rfl) rfl rfl rfl (by omega) (pu_rows hC (by omega)).1) ?_
  refine ev_s (is_goto rfl) ?_
  refine ev_s (st_astore_5 rfl rfl) ?_
  refine ev_s (is_iload rfl rfl) ?_
  refine ev_s (is_if_eq_f rfl (by decide)) ?_
  refine ev_s (is_aload_n rfl rfl) ?_
  refine ev_s (is_goto rfl) ?_
  refine ev_s (st_astore_6 rfl rfl) ?_
  refine ev_s (is_aload_n rfl rfl) ?_
  refine ev_s (is_getR rfl (pu_s hC 29 rfl rfl) rfl rfl (pu_r hC 29 3 rfl rfl)) ?_
  refine ev_s (is_aload_n rfl rfl) ?_
  refine ev_s (is_getR rfl (pu_s hC 29 rfl rfl) rfl rfl (pu_r hC 29 12 rfl rfl)) ?_
  refine ev_s (is_iload_n rfl rfl) ?_
  refine ev_s (is_aaload (k := 4) (s0) rfl (pu_s hC 39 rfl rfl) rfl rfl rfl (by omega) (pu_sheet hC (by omega)).1) ?_
  refine ev_s (is_aload rfl rfl) ?_
  refine ev_s (is_aload rfl rfl) ?_
  refine ev_q1 (is_call0 4 [_, _, _, _] [] rfl rfl rfl rfl rfl (Nat.le_of_ble_eq_true rfl) rfl rfl rfl) rfl rfl (x_firstOS hC (xa_r hx) (xm_Mi (m := m0) (by omega)) (xa_m hx hm0) (s := s0) hs4 (hz.1 s0 hs4).2.1 hs12 (hz.1 s0 hs4).2.2 (fun j => hz.2.2.2.2.2.2.2.1 s0 j hs4) (q := k) (b := a) (fun q hq => by cases hq; exact ⟨hk, ha⟩)) (fun r_47 mi mr hq_47 => ?_)
  obtain ⟨rfl, hmr, hsc⟩ := hq_47
  have hmr := hmr.symm
  subst hmr
  refine ev_s (is_iconst ((-1)) rfl rfl) ?_
  refine ev_icmp_ne rfl (fun h_51 => ?_) (fun h_51 => ?_)
  · refine ev_s (is_iconst (nI 0) rfl rfl) ?_
    refine ev_ret (is_ireturn rfl rfl (by first | rfl | exact pu_b_nar | decide)) ?_
    first
      | exact ⟨rfl, pu_b_t ((pu_o_none _ (fo_lt (f := (fun h => md_compO G (H 0 3) (H 0 1) (ho_row H m0) (some k) a h)) hs12)).mp (Decidable.of_not_not h_51)), rfl, hsc⟩
      | exact ⟨rfl, pu_b_f (fun q => h_51 ((pu_o_none _ (fo_lt (f := (fun h => md_compO G (H 0 3) (H 0 1) (ho_row H m0) (some k) a h)) hs12)).mpr q)), rfl, hsc⟩
  · refine ev_s (is_iconst (nI 1) rfl rfl) ?_
    refine ev_s (is_goto rfl) ?_
    refine ev_ret (is_ireturn rfl rfl (by first | rfl | exact pu_b_nar | decide)) ?_
    first
      | exact ⟨rfl, pu_b_t ((pu_o_none _ (fo_lt (f := (fun h => md_compO G (H 0 3) (H 0 1) (ho_row H m0) (some k) a h)) hs12)).mp (Decidable.of_not_not h_51)), rfl, hsc⟩
      | exact ⟨rfl, pu_b_f (fun q => h_51 ((pu_o_none _ (fo_lt (f := (fun h => md_compO G (H 0 3) (H 0 1) (ho_row H m0) (some k) a h)) hs12)).mpr q)), rfl, hsc⟩

theorem xm_kind {mi : im_MI} {k v : Nat} {a : Nat → Nat} (ha : xm_ok mi k a) (hv : v < 6) : xm_ok (im_u mi k 0 (nI v)) k (ho_at a 14 v) := by
  obtain ⟨h1, h2, h3, h4, h5, h6, h7, h8, h9, h10⟩ := ha
  have e : ∀ j, j ≠ 0 → im_u mi k 0 (nI v) k j = mi k j := fun j hj => im_u_j _ _ _ _ hj
  have e1 : ∀ j, im_u mi k 0 (nI v) (k + 1) j = mi (k + 1) j := fun j => im_u_k _ _ _ _ (by omega)
  have e2 : ∀ j, j ≠ 14 → ho_at a 14 v j = a j := fun j hj => if_neg hj
  refine ⟨by rw [im_u_s]; rfl, by rw [e 1 (by decide), e2 15 (by decide)]; exact h2, by rw [e 2 (by decide), e2 12 (by decide)]; exact h3, by rw [e 3 (by decide), e2 13 (by decide)]; exact h4, fun j hj => by rw [e1, e2 j (by omega)]; exact h5 j hj, hv, by rw [e2 15 (by decide)]; exact h7, by rw [e2 12 (by decide)]; exact h8, by rw [e2 13 (by decide)]; exact h9, fun j hj => by rw [e2 j (by omega)]; exact h10 j hj⟩
theorem xm_more {mi : im_MI} {k v : Nat} {a : Nat → Nat} (ha : xm_ok mi k a) (hv : v < 10) : xm_ok (im_u mi k 1 (nI v)) k (ho_at a 15 v) := by
  obtain ⟨h1, h2, h3, h4, h5, h6, h7, h8, h9, h10⟩ := ha
  have e : ∀ j, j ≠ 1 → im_u mi k 1 (nI v) k j = mi k j := fun j hj => im_u_j _ _ _ _ hj
  have e1 : ∀ j, im_u mi k 1 (nI v) (k + 1) j = mi (k + 1) j := fun j => im_u_k _ _ _ _ (by omega)
  have e2 : ∀ j, j ≠ 15 → ho_at a 15 v j = a j := fun j hj => if_neg hj
  refine ⟨by rw [e 0 (by decide), e2 14 (by decide)]; exact h1, by rw [im_u_s]; rfl, by rw [e 2 (by decide), e2 12 (by decide)]; exact h3, by rw [e 3 (by decide), e2 13 (by decide)]; exact h4, fun j hj => by rw [e1, e2 j (by omega)]; exact h5 j hj, by rw [e2 14 (by decide)]; exact h6, hv, by rw [e2 12 (by decide)]; exact h8, by rw [e2 13 (by decide)]; exact h9, fun j hj => by rw [e2 j (by omega)]; exact h10 j hj⟩
theorem ho_at_at (a : Nat → Nat) (h u v : Nat) : ho_at (ho_at a h u) h v = ho_at a h v := by
  funext j
  unfold ho_at
  split <;> rfl
theorem ho_agr_own {H H' K : ho_T} {G : ho_G} {s w : Nat} {a : Nat → Nat} (h12 : K 5 s ≤ 12) (e : ho_alt H H' w a) : ho_agr H' K G s w = decide (fo_ K s (fun h => md_compO G (H 0 3) (H 0 1) a (ho_mcell H w) (ho_mrow H w) h) = none) := by
  unfold ho_agr ho_fo
  rw [fo_eq h12 (fun q hq => ho_alt_own e hq)]
theorem ho_agr_mt {H H' K : ho_T} {G : ho_G} {s m w : Nat} {a : Nat → Nat} (h12 : K 5 s ≤ 12) (e : ho_alt H H' w a) (hm : ho_mate H m = some w) (c : Nat) : ho_agr H' K G s m = decide (fo_ K s (fun h => md_compO G (H 0 3) (H 0 1) (ho_row H m) (some c) a h) = none) := by
  unfold ho_agr ho_fo
  rw [fo_eq h12 (fun q hq => ho_alt_mate e hm hq)]
  rfl
theorem xQ_th {m : Nat} (hm : m < 6) (k : Nat) (h : k = 56 + 4 * m ∨ k = 56 + 4 * m + 1) : xQ k = true := xQ_t (by omega)
theorem xa_Q {H : ho_T} {G : ho_G} {mi m2 : im_MI} {mr : im_MR} {k : Nat} {a : Nat → Nat} (_hk : xm_M k) (ha : xm_ok mi k a) (hs : sc_ (xS 104) mi m2) : xm_ok m2 k a := xm_sc _hk ha (Or.inl rfl) hs

theorem x_kinds {d : Nat} {sh : im_Sh} {mi : im_MI} {mr : im_MR} (hC : pu_C sh mr) {H K : ho_T} {G : ho_G} (hx : xa_ok H G mi mr) (hz : xh_ok H K mi) (s m sort : Int32) : EvM (d + 6) 89 [.ref 29, .int s, .int m, .int sort] sh mi mr (fun r sh2 m2 r2 => sh2 = sh ∧ (r = .int (an_kinds H K G s m sort) ∧ r2 = mr ∧ sc_ xQ mi m2)) := by
  show Ev (d + 6) 89 0 [.ref 29, .int s, .int m, .int sort, im_bad, im_bad, im_bad, im_bad, im_bad, im_bad, im_bad] [] sh mi mr _
  have hn6 := xa_n hx
  have hs : sc_ xQ mi mi := sc_rf
  refine ev_s (is_aload_n rfl rfl) ?_
  refine ev_s (is_iload_n rfl rfl) ?_
  refine ev_s (is_iload_n rfl rfl) ?_
  refine ev_c1 (is_callR 3 [_, _] [] rfl rfl rfl rfl rfl (Nat.le_of_ble_eq_true rfl) rfl rfl rfl (pu_s hC 29 rfl rfl)) rfl rfl (x_refD hC hx hz _ _) ?_
  refine ev_s (st_istore_4 rfl rfl) ?_
  refine ev_s (is_iload rfl rfl) ?_
  refine ev_if_eq rfl (fun h_10 => ?_) (fun h_10 => ?_)
  · have e0 : rf_d H K s m = nI 0 := h_10
    obtain ⟨hrs, hrm⟩ := rf_d_0 e0
    obtain ⟨s0, rfl, hs4, hk4, hs12, es0⟩ := rf_s_0 hrs
    obtain ⟨m0, rfl, hm0, em0⟩ := ho_isM_n hn6 hrm
    refine ev_s (is_iload_n rfl rfl) ?_
    refine ev_s (is_iconst (nI 0) rfl rfl) ?_
    refine ev_s (is_iconst (nI 3) rfl rfl) ?_
    refine ev_c1 (is_call0 3 [_, _, _] [] rfl rfl rfl rfl rfl (Nat.le_of_ble_eq_true rfl) rfl rfl rfl) rfl rfl (x_within' _ _ _) ?_
    refine ev_ifB_ne rfl (fun h_22 => ?_) (fun h_22 => ?_)
    · obtain ⟨z0, rfl, lz0, uz0, ez0⟩ := ho_rng_n h_22 (by decide) (by decide)
      have e0b : rf_d H K (nI s0) (nI m0) = nI 0 := e0
      rw [show rf_d H K (nI s0) (nI m0) = nI 0 from e0]
      rcases (show z0 = 0 ∨ z0 = 1 ∨ z0 = 2 ∨ z0 = 3 by omega) with rfl | rfl | rfl | rfl
      · have ea : an_kinds H K G (nI s0) (nI m0) (nI 0) = (match some m0 with | none => -6 | some w => nI (lo_bits (fun v => ho_agr (ho_set H 1 w v) K G s0 m0) 6)) := by
          unfold an_kinds
          rw [if_pos e0, if_pos (show ho_rng (nI 0) (nI 0) (nI 3) = true by decide), es0, em0, show jn (nI 0) = 0 by decide]
          rfl
        rw [ea]
        show Ev _ _ _ _ _ _ _ _ (fun r sh2 m2 r2 => sh2 = sh ∧ (r = .int (nI (lo_bits (fun v => ho_agr (ho_set H 1 m0 v) K G s0 m0) 6)) ∧ r2 = mr ∧ sc_ xQ mi m2))
        have loop : ∀ (j i : Nat) (ma : im_MI) (a : Nat → Nat), i + j = 6 → xa_ok H G ma mr → xh_ok H K ma → sc_ xQ mi ma → xm_ok ma (56 + 4 * m0) a → (∀ v, ho_at a 14 v = ho_at (ho_row H m0) 14 v) → Ev (d + 6) 89 96 [.ref 29, .int (nI s0), .int (nI m0), .int (nI 0), .int (nI 0), .int (nI 0), .int (nI 0), .int (nI m0), .ref (56 + 4 * m0), .int (nI (lo_bits (fun v => ho_agr (ho_set H 1 m0 v) K G s0 m0) i)), .int (nI i)] [] sh ma mr (fun r sh2 m2 r2 => sh2 = sh ∧ (r = .int (nI (lo_bits (fun v => ho_agr (ho_set H 1 m0 v) K G s0 m0) 6)) ∧ r2 = mr ∧ sc_ xQ mi m2)) := by
          intro j
          induction j with
          | zero =>
            intro i ma a hi hx hz hs hok hat
            refine ev_s (is_iload rfl rfl) ?_
            refine ev_s (is_iload rfl rfl) ?_
            refine ev_s (is_if_eq_t rfl rfl) ?_
            refine ev_s (is_bipush (nI 6) rfl rfl) ?_
            refine ev_s (is_icmp_ge_t rfl (nI_le (by omega) (by omega))) ?_
            refine ev_s (is_iload rfl rfl) ?_
            refine ev_ret (is_ireturn rfl rfl (by first | rfl | exact pu_b_nar | decide)) ?_
            exact ⟨rfl, by rw [show i = 6 by omega], rfl, hs⟩
          | succ j ih =>
            intro i ma a hi hx hz hs hok hat
            refine ev_s (is_iload rfl rfl) ?_
            refine ev_s (is_iload rfl rfl) ?_
            refine ev_s (is_if_eq_t rfl rfl) ?_
            refine ev_s (is_bipush (nI 6) rfl rfl) ?_
            refine ev_s (is_icmp_ge_f rfl (nI_ge (by omega) (by omega))) ?_
            refine ev_s (is_iload rfl rfl) ?_
            refine ev_s (is_if_eq_t rfl rfl) ?_
            refine ev_s (is_aload rfl rfl) ?_
            refine ev_s (is_iload rfl rfl) ?_
            refine ev_s (is_putI rfl (pu_M hC (xm_Mt (m := m0) (by omega))).1 rfl rfl rfl) ?_
            have hok := xm_kind hok (v := i) (by omega)
            rw [hat] at hok
            have h1 : sc_ xQ ma _ := sc_rf.u (k := 56 + 4 * m0) (j := 0) (v := nI i) (xQ_th (m := m0) (by omega) _ (Or.inl rfl))
            have hs := hs.trans h1
            have hz := xh_sc hx hz h1
            have hx := xa_sc hx h1
            refine ev_s (is_aload_n rfl rfl) ?_
            refine ev_s (is_iload_n rfl rfl) ?_
            refine ev_s (is_iload_n rfl rfl) ?_
            refine ev_s (is_aload rfl rfl) ?_
            refine ev_s (is_iload rfl rfl) ?_
            refine ev_q1 (is_callR 5 [_, _, _, _] [] rfl rfl rfl rfl rfl (Nat.le_of_ble_eq_true rfl) rfl rfl rfl (pu_s hC 29 rfl rfl)) rfl rfl (x_agrS hC hx hz hs4 hs12 hm0 (xm_Mt (m := m0) (by omega)) hok) (fun r_142 mi mr hq_142 => ?_)
            obtain ⟨rfl, hmr, hsc⟩ := hq_142
            have hmr := hmr.symm
            subst hmr
            have hok := xm_sc (xm_Mt (m := m0) (by omega)) hok (Or.inl rfl) hsc
            have hsc := hsc.mono (xS_xQ (Or.inl rfl))
            have hs := hs.trans hsc
            have hz := xh_sc hx hz hsc
            have hx := xa_sc hx hsc
            refine ev_ifB_eq rfl (fun h_145 => ?_) (fun h_145 => ?_)
            · have hp : (fun v => ho_agr (ho_set H 1 m0 v) K G s0 m0) i = false := by show ho_agr _ _ _ _ _ = _; rw [ho_agr_own hs12 (ho_alt_kind H m0 i)]; exact decide_eq_false h_145
              refine ev_s (st_iinc_10 _ rfl rfl (nI_inc _)) ?_
              refine ev_s (is_goto rfl) ?_
              have := ih (i + 1) _ _ (by omega) hx hz hs hok (by intro v; rw [ho_at_at])
              rw [lo_bits_s] at this
              first
                | (rw [if_pos hp] at this; exact this)
                | (rw [if_neg (fun q => absurd (hp.symm.trans q) (by decide))] at this; exact this)
            · have hp : (fun v => ho_agr (ho_set H 1 m0 v) K G s0 m0) i = true := by show ho_agr _ _ _ _ _ = _; rw [ho_agr_own hs12 (ho_alt_kind H m0 i)]; exact decide_eq_true h_145
              refine ev_s (is_iload rfl rfl) ?_
              refine ev_s (is_iconst (nI 1) rfl rfl) ?_
              refine ev_s (is_iload rfl rfl) ?_
              refine ev_s (is_ishl _ rfl (pu_shl1 (by omega))) ?_
              have hbl := lo_bits_lt (fun v => ho_agr (ho_set H 1 m0 v) K G s0 m0) i
              refine ev_s (is_ior _ rfl (pu_or hbl)) ?_
              refine ev_s (st_istore_9 rfl rfl) ?_
              refine ev_s (st_iinc_10 _ rfl rfl (nI_inc _)) ?_
              refine ev_s (is_goto rfl) ?_
              have := ih (i + 1) _ _ (by omega) hx hz hs hok (by intro v; rw [ho_at_at])
              rw [lo_bits_s] at this
              first
                | (rw [if_pos hp] at this; exact this)
                | (rw [if_neg (fun q => absurd (hp.symm.trans q) (by decide))] at this; exact this)
        refine ev_s (is_iload_n rfl rfl) ?_
        refine ev_s (is_iconst (nI 1) rfl rfl) ?_
        refine ev_s (is_icmp_le_t rfl (by decide)) ?_
        refine ev_s (is_iconst (nI 0) rfl rfl) ?_
        refine ev_s (st_istore_5 rfl rfl) ?_
        refine ev_s (is_iload_n rfl rfl) ?_
        refine ev_s (is_iconst (nI 2) rfl rfl) ?_
        refine ev_s (is_irem _ rfl (by decide) rfl) ?_
        refine ev_s (is_iconst (nI 1) rfl rfl) ?_
        refine ev_s (is_icmp_ne_t rfl (by decide)) ?_
        refine ev_s (is_iconst (nI 0) rfl rfl) ?_
        refine ev_s (st_istore_6 rfl rfl) ?_
        refine ev_s (is_iload rfl rfl) ?_
        refine ev_s (is_if_eq_t rfl rfl) ?_
        refine ev_s (is_iload_n rfl rfl) ?_
        refine ev_s (st_istore_7 rfl rfl) ?_
        refine ev_s (is_aload_n rfl rfl) ?_
        refine ev_s (is_iload rfl rfl) ?_
        refine ev_c1 (is_callR 2 [_] [] rfl rfl rfl rfl rfl (Nat.le_of_ble_eq_true rfl) rfl rfl rfl (pu_s hC 29 rfl rfl)) rfl rfl (x_noMan' hC hx _) ?_
        refine ev_s (is_if_eq_t rfl (pu_b_0 (fun q => q (ho_isM_t hn6 hm0)))) ?_
        refine ev_s (is_aload_n rfl rfl) ?_
        refine ev_s (is_iload rfl rfl) ?_
        refine ev_q1 (is_callR 2 [_] [] rfl rfl rfl rfl rfl (Nat.le_of_ble_eq_true rfl) rfl rfl rfl (pu_s hC 29 rfl rfl)) rfl rfl (x_thought hC hx (m := m0) (by omega)) (fun r_85 mi mr hq_85 => ?_)
        obtain ⟨rfl, hmr, hsc, hok⟩ := hq_85
        have hmr := hmr.symm
        subst hmr
        have hsc := hsc.mono (xM2_xQ (by omega))
        refine ev_s (st_astore_8 rfl rfl) ?_
        refine ev_s (is_iconst (nI 0) rfl rfl) ?_
        refine ev_s (st_istore_9 rfl rfl) ?_
        refine ev_s (is_iconst (nI 0) rfl rfl) ?_
        refine ev_s (st_istore_10 rfl rfl) ?_
        exact loop 6 0 _ _ (by omega) (xa_sc hx hsc) (xh_sc hx hz hsc) hsc hok (fun v => rfl)
      · have ea : an_kinds H K G (nI s0) (nI m0) (nI 1) = (match some m0 with | none => -6 | some w => nI (lo_bits (fun v => ho_agr (ho_set H 2 w v) K G s0 m0) 10)) := by
          unfold an_kinds
          rw [if_pos e0, if_pos (show ho_rng (nI 0) (nI 1) (nI 3) = true by decide), es0, em0, show jn (nI 1) = 1 by decide]
          rfl
        rw [ea]
        show Ev _ _ _ _ _ _ _ _ (fun r sh2 m2 r2 => sh2 = sh ∧ (r = .int (nI (lo_bits (fun v => ho_agr (ho_set H 2 m0 v) K G s0 m0) 10)) ∧ r2 = mr ∧ sc_ xQ mi m2))
        have loop : ∀ (j i : Nat) (ma : im_MI) (a : Nat → Nat), i + j = 10 → xa_ok H G ma mr → xh_ok H K ma → sc_ xQ mi ma → xm_ok ma (56 + 4 * m0) a → (∀ v, ho_at a 15 v = ho_at (ho_row H m0) 15 v) → Ev (d + 6) 89 96 [.ref 29, .int (nI s0), .int (nI m0), .int (nI 1), .int (nI 0), .int (nI 0), .int (nI 1), .int (nI m0), .ref (56 + 4 * m0), .int (nI (lo_bits (fun v => ho_agr (ho_set H 2 m0 v) K G s0 m0) i)), .int (nI i)] [] sh ma mr (fun r sh2 m2 r2 => sh2 = sh ∧ (r = .int (nI (lo_bits (fun v => ho_agr (ho_set H 2 m0 v) K G s0 m0) 10)) ∧ r2 = mr ∧ sc_ xQ mi m2)) := by
          intro j
          induction j with
          | zero =>
            intro i ma a hi hx hz hs hok hat
            refine ev_s (is_iload rfl rfl) ?_
            refine ev_s (is_iload rfl rfl) ?_
            refine ev_s (is_if_eq_f rfl (by decide)) ?_
            refine ev_s (is_bipush (nI 10) rfl rfl) ?_
            refine ev_s (is_goto rfl) ?_
            refine ev_s (is_icmp_ge_t rfl (nI_le (by omega) (by omega))) ?_
            refine ev_s (is_iload rfl rfl) ?_
            refine ev_ret (is_ireturn rfl rfl (by first | rfl | exact pu_b_nar | decide)) ?_
            exact ⟨rfl, by rw [show i = 10 by omega], rfl, hs⟩
          | succ j ih =>
            intro i ma a hi hx hz hs hok hat
            refine ev_s (is_iload rfl rfl) ?_
            refine ev_s (is_iload rfl rfl) ?_
            refine ev_s (is_if_eq_f rfl (by decide)) ?_
            refine ev_s (is_bipush (nI 10) rfl rfl) ?_
            refine ev_s (is_goto rfl) ?_
            refine ev_s (is_icmp_ge_f rfl (nI_ge (by omega) (by omega))) ?_
            refine ev_s (is_iload rfl rfl) ?_
            refine ev_s (is_if_eq_f rfl (by decide)) ?_
            refine ev_s (is_aload rfl rfl) ?_
            refine ev_s (is_iload rfl rfl) ?_
            refine ev_s (is_putI rfl (pu_M hC (xm_Mt (m := m0) (by omega))).1 rfl rfl rfl) ?_
            refine ev_s (is_goto rfl) ?_
            have hok := xm_more hok (v := i) (by omega)
            rw [hat] at hok
            have h1 : sc_ xQ ma _ := sc_rf.u (k := 56 + 4 * m0) (j := 1) (v := nI i) (xQ_th (m := m0) (by omega) _ (Or.inl rfl))
            have hs := hs.trans h1
            have hz := xh_sc hx hz h1
            have hx := xa_sc hx h1
            refine ev_s (is_aload_n rfl rfl) ?_
            refine ev_s (is_iload_n rfl rfl) ?_
            refine ev_s (is_iload_n rfl rfl) ?_
            refine ev_s (is_aload rfl rfl) ?_
            refine ev_s (is_iload rfl rfl) ?_
            refine ev_q1 (is_callR 5 [_, _, _, _] [] rfl rfl rfl rfl rfl (Nat.le_of_ble_eq_true rfl) rfl rfl rfl (pu_s hC 29 rfl rfl)) rfl rfl (x_agrS hC hx hz hs4 hs12 hm0 (xm_Mt (m := m0) (by omega)) hok) (fun r_142 mi mr hq_142 => ?_)
            obtain ⟨rfl, hmr, hsc⟩ := hq_142
            have hmr := hmr.symm
            subst hmr
            have hok := xm_sc (xm_Mt (m := m0) (by omega)) hok (Or.inl rfl) hsc
            have hsc := hsc.mono (xS_xQ (Or.inl rfl))
            have hs := hs.trans hsc
            have hz := xh_sc hx hz hsc
            have hx := xa_sc hx hsc
            refine ev_ifB_eq rfl (fun h_145 => ?_) (fun h_145 => ?_)
            · have hp : (fun v => ho_agr (ho_set H 2 m0 v) K G s0 m0) i = false := by show ho_agr _ _ _ _ _ = _; rw [ho_agr_own hs12 (ho_alt_more H m0 i)]; exact decide_eq_false h_145
              refine ev_s (st_iinc_10 _ rfl rfl (nI_inc _)) ?_
              refine ev_s (is_goto rfl) ?_
              have := ih (i + 1) _ _ (by omega) hx hz hs hok (by intro v; rw [ho_at_at])
              rw [lo_bits_s] at this
              first
                | (rw [if_pos hp] at this; exact this)
                | (rw [if_neg (fun q => absurd (hp.symm.trans q) (by decide))] at this; exact this)
            · have hp : (fun v => ho_agr (ho_set H 2 m0 v) K G s0 m0) i = true := by show ho_agr _ _ _ _ _ = _; rw [ho_agr_own hs12 (ho_alt_more H m0 i)]; exact decide_eq_true h_145
              refine ev_s (is_iload rfl rfl) ?_
              refine ev_s (is_iconst (nI 1) rfl rfl) ?_
              refine ev_s (is_iload rfl rfl) ?_
              refine ev_s (is_ishl _ rfl (pu_shl1 (by omega))) ?_
              have hbl := lo_bits_lt (fun v => ho_agr (ho_set H 2 m0 v) K G s0 m0) i
              refine ev_s (is_ior _ rfl (pu_or hbl)) ?_
              refine ev_s (st_istore_9 rfl rfl) ?_
              refine ev_s (st_iinc_10 _ rfl rfl (nI_inc _)) ?_
              refine ev_s (is_goto rfl) ?_
              have := ih (i + 1) _ _ (by omega) hx hz hs hok (by intro v; rw [ho_at_at])
              rw [lo_bits_s] at this
              first
                | (rw [if_pos hp] at this; exact this)
                | (rw [if_neg (fun q => absurd (hp.symm.trans q) (by decide))] at this; exact this)
        refine ev_s (is_iload_n rfl rfl) ?_
        refine ev_s (is_iconst (nI 1) rfl rfl) ?_
        refine ev_s (is_icmp_le_t rfl (by decide)) ?_
        refine ev_s (is_iconst (nI 0) rfl rfl) ?_
        refine ev_s (st_istore_5 rfl rfl) ?_
        refine ev_s (is_iload_n rfl rfl) ?_
        refine ev_s (is_iconst (nI 2) rfl rfl) ?_
        refine ev_s (is_irem _ rfl (by decide) rfl) ?_
        refine ev_s (is_iconst (nI 1) rfl rfl) ?_
        refine ev_s (is_icmp_ne_f rfl (by decide)) ?_
        refine ev_s (is_iconst (nI 1) rfl rfl) ?_
        refine ev_s (is_goto rfl) ?_
        refine ev_s (st_istore_6 rfl rfl) ?_
        refine ev_s (is_iload rfl rfl) ?_
        refine ev_s (is_if_eq_t rfl rfl) ?_
        refine ev_s (is_iload_n rfl rfl) ?_
        refine ev_s (st_istore_7 rfl rfl) ?_
        refine ev_s (is_aload_n rfl rfl) ?_
        refine ev_s (is_iload rfl rfl) ?_
        refine ev_c1 (is_callR 2 [_] [] rfl rfl rfl rfl rfl (Nat.le_of_ble_eq_true rfl) rfl rfl rfl (pu_s hC 29 rfl rfl)) rfl rfl (x_noMan' hC hx _) ?_
        refine ev_s (is_if_eq_t rfl (pu_b_0 (fun q => q (ho_isM_t hn6 hm0)))) ?_
        refine ev_s (is_aload_n rfl rfl) ?_
        refine ev_s (is_iload rfl rfl) ?_
        refine ev_q1 (is_callR 2 [_] [] rfl rfl rfl rfl rfl (Nat.le_of_ble_eq_true rfl) rfl rfl rfl (pu_s hC 29 rfl rfl)) rfl rfl (x_thought hC hx (m := m0) (by omega)) (fun r_85 mi mr hq_85 => ?_)
        obtain ⟨rfl, hmr, hsc, hok⟩ := hq_85
        have hmr := hmr.symm
        subst hmr
        have hsc := hsc.mono (xM2_xQ (by omega))
        refine ev_s (st_astore_8 rfl rfl) ?_
        refine ev_s (is_iconst (nI 0) rfl rfl) ?_
        refine ev_s (st_istore_9 rfl rfl) ?_
        refine ev_s (is_iconst (nI 0) rfl rfl) ?_
        refine ev_s (st_istore_10 rfl rfl) ?_
        exact loop 10 0 _ _ (by omega) (xa_sc hx hsc) (xh_sc hx hz hsc) hsc hok (fun v => rfl)
      · have ea : an_kinds H K G (nI s0) (nI m0) (nI 2) = (match ho_mate H m0 with | none => -6 | some w => nI (lo_bits (fun v => ho_agr (ho_set H 1 w v) K G s0 m0) 6)) := by
          unfold an_kinds
          rw [if_pos e0, if_pos (show ho_rng (nI 0) (nI 2) (nI 3) = true by decide), es0, em0, show jn (nI 2) = 2 by decide]
          rfl
        refine ev_s (is_iload_n rfl rfl) ?_
        refine ev_s (is_iconst (nI 1) rfl rfl) ?_
        refine ev_s (is_icmp_le_f rfl (by decide)) ?_
        refine ev_s (is_iconst (nI 1) rfl rfl) ?_
        refine ev_s (is_goto rfl) ?_
        refine ev_s (st_istore_5 rfl rfl) ?_
        refine ev_s (is_iload_n rfl rfl) ?_
        refine ev_s (is_iconst (nI 2) rfl rfl) ?_
        refine ev_s (is_irem _ rfl (by decide) rfl) ?_
        refine ev_s (is_iconst (nI 1) rfl rfl) ?_
        refine ev_s (is_icmp_ne_t rfl (by decide)) ?_
        refine ev_s (is_iconst (nI 0) rfl rfl) ?_
        refine ev_s (st_istore_6 rfl rfl) ?_
        refine ev_s (is_iload rfl rfl) ?_
        refine ev_s (is_if_eq_f rfl (by decide)) ?_
        refine ev_s (is_aload_n rfl rfl) ?_
        refine ev_s (is_iload_n rfl rfl) ?_
        refine ev_c1 (is_callR 2 [_] [] rfl rfl rfl rfl rfl (Nat.le_of_ble_eq_true rfl) rfl rfl rfl (pu_s hC 29 rfl rfl)) rfl rfl (x_mateN hC hx hm0) ?_
        rcases eo : ho_mate H m0 with _ | q
        · rw [eo] at ea
          rw [ea]
          refine ev_s (is_goto rfl) ?_
          refine ev_s (st_istore_7 rfl rfl) ?_
          refine ev_s (is_aload_n rfl rfl) ?_
          refine ev_s (is_iload rfl rfl) ?_
          refine ev_c1 (is_callR 2 [_] [] rfl rfl rfl rfl rfl (Nat.le_of_ble_eq_true rfl) rfl rfl rfl (pu_s hC 29 rfl rfl)) rfl rfl (x_noMan' hC hx _) ?_
          refine ev_s (is_if_eq_f rfl (pu_b_1 (fun q => absurd (show ho_isM H (-1) = true from q) (by rw [ho_isM_m1]; decide)))) ?_
          refine ev_s (is_bipush ((-6)) rfl rfl) ?_
          refine ev_ret (is_ireturn rfl rfl (by first | rfl | exact pu_b_nar | decide)) ?_
          exact ⟨rfl, rfl, rfl, sc_rf⟩
        · rw [eo] at ea
          rw [ea]
          have hql := ho_mate_lt eo
          show Ev _ _ _ [_, _, _, _, _, _, _, _, _, _, _] [.int (nI q)] _ _ _ (fun r sh2 m2 r2 => sh2 = sh ∧ (r = .int (nI (lo_bits (fun v => ho_agr (ho_set H 1 q v) K G s0 m0) 6)) ∧ r2 = mr ∧ sc_ xQ mi m2))
          have loop : ∀ (j i : Nat) (ma : im_MI) (a : Nat → Nat), i + j = 6 → xa_ok H G ma mr → xh_ok H K ma → sc_ xQ mi ma → xm_ok ma (56 + 4 * q) a → (∀ v, ho_at a 14 v = ho_at (ho_row H q) 14 v) → Ev (d + 6) 89 96 [.ref 29, .int (nI s0), .int (nI m0), .int (nI 2), .int (nI 0), .int (nI 1), .int (nI 0), .int (nI q), .ref (56 + 4 * q), .int (nI (lo_bits (fun v => ho_agr (ho_set H 1 q v) K G s0 m0) i)), .int (nI i)] [] sh ma mr (fun r sh2 m2 r2 => sh2 = sh ∧ (r = .int (nI (lo_bits (fun v => ho_agr (ho_set H 1 q v) K G s0 m0) 6)) ∧ r2 = mr ∧ sc_ xQ mi m2)) := by
            intro j
            induction j with
            | zero =>
              intro i ma a hi hx hz hs hok hat
              refine ev_s (is_iload rfl rfl) ?_
              refine ev_s (is_iload rfl rfl) ?_
              refine ev_s (is_if_eq_t rfl rfl) ?_
              refine ev_s (is_bipush (nI 6) rfl rfl) ?_
              refine ev_s (is_icmp_ge_t rfl (nI_le (by omega) (by omega))) ?_
              refine ev_s (is_iload rfl rfl) ?_
              refine ev_ret (is_ireturn rfl rfl (by first | rfl | exact pu_b_nar | decide)) ?_
              exact ⟨rfl, by rw [show i = 6 by omega], rfl, hs⟩
            | succ j ih =>
              intro i ma a hi hx hz hs hok hat
              refine ev_s (is_iload rfl rfl) ?_
              refine ev_s (is_iload rfl rfl) ?_
              refine ev_s (is_if_eq_t rfl rfl) ?_
              refine ev_s (is_bipush (nI 6) rfl rfl) ?_
              refine ev_s (is_icmp_ge_f rfl (nI_ge (by omega) (by omega))) ?_
              refine ev_s (is_iload rfl rfl) ?_
              refine ev_s (is_if_eq_t rfl rfl) ?_
              refine ev_s (is_aload rfl rfl) ?_
              refine ev_s (is_iload rfl rfl) ?_
              refine ev_s (is_putI rfl (pu_M hC (xm_Mt (m := q) (by omega))).1 rfl rfl rfl) ?_
              have hok := xm_kind hok (v := i) (by omega)
              rw [hat] at hok
              have h1 : sc_ xQ ma _ := sc_rf.u (k := 56 + 4 * q) (j := 0) (v := nI i) (xQ_th (m := q) (by omega) _ (Or.inl rfl))
              have hs := hs.trans h1
              have hz := xh_sc hx hz h1
              have hx := xa_sc hx h1
              refine ev_s (is_aload_n rfl rfl) ?_
              refine ev_s (is_iload_n rfl rfl) ?_
              refine ev_s (is_iload_n rfl rfl) ?_
              refine ev_s (is_aload rfl rfl) ?_
              refine ev_s (is_iload rfl rfl) ?_
              refine ev_q1 (is_callR 5 [_, _, _, _] [] rfl rfl rfl rfl rfl (Nat.le_of_ble_eq_true rfl) rfl rfl rfl (pu_s hC 29 rfl rfl)) rfl rfl (x_agrM hC hx hz hs4 hs12 hm0 (xm_Mt (m := q) (by omega)) hok) (fun r_142 mi mr hq_142 => ?_)
              obtain ⟨rfl, hmr, hsc⟩ := hq_142
              have hmr := hmr.symm
              subst hmr
              have hok := xm_sc (xm_Mt (m := q) (by omega)) hok (Or.inl rfl) hsc
              have hsc := hsc.mono (xS_xQ (Or.inl rfl))
              have hs := hs.trans hsc
              have hz := xh_sc hx hz hsc
              have hx := xa_sc hx hsc
              refine ev_ifB_eq rfl (fun h_145 => ?_) (fun h_145 => ?_)
              · have hp : (fun v => ho_agr (ho_set H 1 q v) K G s0 m0) i = false := by show ho_agr _ _ _ _ _ = _; rw [ho_agr_mt hs12 (ho_alt_kind H q i) eo (56 + 4 * q)]; exact decide_eq_false h_145
                refine ev_s (st_iinc_10 _ rfl rfl (nI_inc _)) ?_
                refine ev_s (is_goto rfl) ?_
                have := ih (i + 1) _ _ (by omega) hx hz hs hok (by intro v; rw [ho_at_at])
                rw [lo_bits_s] at this
                first
                  | (rw [if_pos hp] at this; exact this)
                  | (rw [if_neg (fun q => absurd (hp.symm.trans q) (by decide))] at this; exact this)
              · have hp : (fun v => ho_agr (ho_set H 1 q v) K G s0 m0) i = true := by show ho_agr _ _ _ _ _ = _; rw [ho_agr_mt hs12 (ho_alt_kind H q i) eo (56 + 4 * q)]; exact decide_eq_true h_145
                refine ev_s (is_iload rfl rfl) ?_
                refine ev_s (is_iconst (nI 1) rfl rfl) ?_
                refine ev_s (is_iload rfl rfl) ?_
                refine ev_s (is_ishl _ rfl (pu_shl1 (by omega))) ?_
                have hbl := lo_bits_lt (fun v => ho_agr (ho_set H 1 q v) K G s0 m0) i
                refine ev_s (is_ior _ rfl (pu_or hbl)) ?_
                refine ev_s (st_istore_9 rfl rfl) ?_
                refine ev_s (st_iinc_10 _ rfl rfl (nI_inc _)) ?_
                refine ev_s (is_goto rfl) ?_
                have := ih (i + 1) _ _ (by omega) hx hz hs hok (by intro v; rw [ho_at_at])
                rw [lo_bits_s] at this
                first
                  | (rw [if_pos hp] at this; exact this)
                  | (rw [if_neg (fun q => absurd (hp.symm.trans q) (by decide))] at this; exact this)
          refine ev_s (is_goto rfl) ?_
          refine ev_s (st_istore_7 rfl rfl) ?_
          refine ev_s (is_aload_n rfl rfl) ?_
          refine ev_s (is_iload rfl rfl) ?_
          refine ev_c1 (is_callR 2 [_] [] rfl rfl rfl rfl rfl (Nat.le_of_ble_eq_true rfl) rfl rfl rfl (pu_s hC 29 rfl rfl)) rfl rfl (x_noMan' hC hx _) ?_
          refine ev_s (is_if_eq_t rfl (pu_b_0 (fun q => q (ho_isM_t hn6 hql)))) ?_
          refine ev_s (is_aload_n rfl rfl) ?_
          refine ev_s (is_iload rfl rfl) ?_
          refine ev_q1 (is_callR 2 [_] [] rfl rfl rfl rfl rfl (Nat.le_of_ble_eq_true rfl) rfl rfl rfl (pu_s hC 29 rfl rfl)) rfl rfl (x_thought hC hx (m := q) (by omega)) (fun r_85 mi mr hq_85 => ?_)
          obtain ⟨rfl, hmr, hsc, hok⟩ := hq_85
          have hmr := hmr.symm
          subst hmr
          have hsc := hsc.mono (xM2_xQ (by omega))
          refine ev_s (st_astore_8 rfl rfl) ?_
          refine ev_s (is_iconst (nI 0) rfl rfl) ?_
          refine ev_s (st_istore_9 rfl rfl) ?_
          refine ev_s (is_iconst (nI 0) rfl rfl) ?_
          refine ev_s (st_istore_10 rfl rfl) ?_
          exact loop 6 0 _ _ (by omega) (xa_sc hx hsc) (xh_sc hx hz hsc) hsc hok (fun v => rfl)
      · have ea : an_kinds H K G (nI s0) (nI m0) (nI 3) = (match ho_mate H m0 with | none => -6 | some w => nI (lo_bits (fun v => ho_agr (ho_set H 2 w v) K G s0 m0) 10)) := by
          unfold an_kinds
          rw [if_pos e0, if_pos (show ho_rng (nI 0) (nI 3) (nI 3) = true by decide), es0, em0, show jn (nI 3) = 3 by decide]
          rfl
        refine ev_s (is_iload_n rfl rfl) ?_
        refine ev_s (is_iconst (nI 1) rfl rfl) ?_
        refine ev_s (is_icmp_le_f rfl (by decide)) ?_
        refine ev_s (is_iconst (nI 1) rfl rfl) ?_
        refine ev_s (is_goto rfl) ?_
        refine ev_s (st_istore_5 rfl rfl) ?_
        refine ev_s (is_iload_n rfl rfl) ?_
        refine ev_s (is_iconst (nI 2) rfl rfl) ?_
        refine ev_s (is_irem _ rfl (by decide) rfl) ?_
        refine ev_s (is_iconst (nI 1) rfl rfl) ?_
        refine ev_s (is_icmp_ne_f rfl (by decide)) ?_
        refine ev_s (is_iconst (nI 1) rfl rfl) ?_
        refine ev_s (is_goto rfl) ?_
        refine ev_s (st_istore_6 rfl rfl) ?_
        refine ev_s (is_iload rfl rfl) ?_
        refine ev_s (is_if_eq_f rfl (by decide)) ?_
        refine ev_s (is_aload_n rfl rfl) ?_
        refine ev_s (is_iload_n rfl rfl) ?_
        refine ev_c1 (is_callR 2 [_] [] rfl rfl rfl rfl rfl (Nat.le_of_ble_eq_true rfl) rfl rfl rfl (pu_s hC 29 rfl rfl)) rfl rfl (x_mateN hC hx hm0) ?_
        rcases eo : ho_mate H m0 with _ | q
        · rw [eo] at ea
          rw [ea]
          refine ev_s (is_goto rfl) ?_
          refine ev_s (st_istore_7 rfl rfl) ?_
          refine ev_s (is_aload_n rfl rfl) ?_
          refine ev_s (is_iload rfl rfl) ?_
          refine ev_c1 (is_callR 2 [_] [] rfl rfl rfl rfl rfl (Nat.le_of_ble_eq_true rfl) rfl rfl rfl (pu_s hC 29 rfl rfl)) rfl rfl (x_noMan' hC hx _) ?_
          refine ev_s (is_if_eq_f rfl (pu_b_1 (fun q => absurd (show ho_isM H (-1) = true from q) (by rw [ho_isM_m1]; decide)))) ?_
          refine ev_s (is_bipush ((-6)) rfl rfl) ?_
          refine ev_ret (is_ireturn rfl rfl (by first | rfl | exact pu_b_nar | decide)) ?_
          exact ⟨rfl, rfl, rfl, sc_rf⟩
        · rw [eo] at ea
          rw [ea]
          have hql := ho_mate_lt eo
          show Ev _ _ _ [_, _, _, _, _, _, _, _, _, _, _] [.int (nI q)] _ _ _ (fun r sh2 m2 r2 => sh2 = sh ∧ (r = .int (nI (lo_bits (fun v => ho_agr (ho_set H 2 q v) K G s0 m0) 10)) ∧ r2 = mr ∧ sc_ xQ mi m2))
          have loop : ∀ (j i : Nat) (ma : im_MI) (a : Nat → Nat), i + j = 10 → xa_ok H G ma mr → xh_ok H K ma → sc_ xQ mi ma → xm_ok ma (56 + 4 * q) a → (∀ v, ho_at a 15 v = ho_at (ho_row H q) 15 v) → Ev (d + 6) 89 96 [.ref 29, .int (nI s0), .int (nI m0), .int (nI 3), .int (nI 0), .int (nI 1), .int (nI 1), .int (nI q), .ref (56 + 4 * q), .int (nI (lo_bits (fun v => ho_agr (ho_set H 2 q v) K G s0 m0) i)), .int (nI i)] [] sh ma mr (fun r sh2 m2 r2 => sh2 = sh ∧ (r = .int (nI (lo_bits (fun v => ho_agr (ho_set H 2 q v) K G s0 m0) 10)) ∧ r2 = mr ∧ sc_ xQ mi m2)) := by
            intro j
            induction j with
            | zero =>
              intro i ma a hi hx hz hs hok hat
              refine ev_s (is_iload rfl rfl) ?_
              refine ev_s (is_iload rfl rfl) ?_
              refine ev_s (is_if_eq_f rfl (by decide)) ?_
              refine ev_s (is_bipush (nI 10) rfl rfl) ?_
              refine ev_s (is_goto rfl) ?_
              refine ev_s (is_icmp_ge_t rfl (nI_le (by omega) (by omega))) ?_
              refine ev_s (is_iload rfl rfl) ?_
              refine ev_ret (is_ireturn rfl rfl (by first | rfl | exact pu_b_nar | decide)) ?_
              exact ⟨rfl, by rw [show i = 10 by omega], rfl, hs⟩
            | succ j ih =>
              intro i ma a hi hx hz hs hok hat
              refine ev_s (is_iload rfl rfl) ?_
              refine ev_s (is_iload rfl rfl) ?_
              refine ev_s (is_if_eq_f rfl (by decide)) ?_
              refine ev_s (is_bipush (nI 10) rfl rfl) ?_
              refine ev_s (is_goto rfl) ?_
              refine ev_s (is_icmp_ge_f rfl (nI_ge (by omega) (by omega))) ?_
              refine ev_s (is_iload rfl rfl) ?_
              refine ev_s (is_if_eq_f rfl (by decide)) ?_
              refine ev_s (is_aload rfl rfl) ?_
              refine ev_s (is_iload rfl rfl) ?_
              refine ev_s (is_putI rfl (pu_M hC (xm_Mt (m := q) (by omega))).1 rfl rfl rfl) ?_
              refine ev_s (is_goto rfl) ?_
              have hok := xm_more hok (v := i) (by omega)
              rw [hat] at hok
              have h1 : sc_ xQ ma _ := sc_rf.u (k := 56 + 4 * q) (j := 1) (v := nI i) (xQ_th (m := q) (by omega) _ (Or.inl rfl))
              have hs := hs.trans h1
              have hz := xh_sc hx hz h1
              have hx := xa_sc hx h1
              refine ev_s (is_aload_n rfl rfl) ?_
              refine ev_s (is_iload_n rfl rfl) ?_
              refine ev_s (is_iload_n rfl rfl) ?_
              refine ev_s (is_aload rfl rfl) ?_
              refine ev_s (is_iload rfl rfl) ?_
              refine ev_q1 (is_callR 5 [_, _, _, _] [] rfl rfl rfl rfl rfl (Nat.le_of_ble_eq_true rfl) rfl rfl rfl (pu_s hC 29 rfl rfl)) rfl rfl (x_agrM hC hx hz hs4 hs12 hm0 (xm_Mt (m := q) (by omega)) hok) (fun r_142 mi mr hq_142 => ?_)
              obtain ⟨rfl, hmr, hsc⟩ := hq_142
              have hmr := hmr.symm
              subst hmr
              have hok := xm_sc (xm_Mt (m := q) (by omega)) hok (Or.inl rfl) hsc
              have hsc := hsc.mono (xS_xQ (Or.inl rfl))
              have hs := hs.trans hsc
              have hz := xh_sc hx hz hsc
              have hx := xa_sc hx hsc
              refine ev_ifB_eq rfl (fun h_145 => ?_) (fun h_145 => ?_)
              · have hp : (fun v => ho_agr (ho_set H 2 q v) K G s0 m0) i = false := by show ho_agr _ _ _ _ _ = _; rw [ho_agr_mt hs12 (ho_alt_more H q i) eo (56 + 4 * q)]; exact decide_eq_false h_145
                refine ev_s (st_iinc_10 _ rfl rfl (nI_inc _)) ?_
                refine ev_s (is_goto rfl) ?_
                have := ih (i + 1) _ _ (by omega) hx hz hs hok (by intro v; rw [ho_at_at])
                rw [lo_bits_s] at this
                first
                  | (rw [if_pos hp] at this; exact this)
                  | (rw [if_neg (fun q => absurd (hp.symm.trans q) (by decide))] at this; exact this)
              · have hp : (fun v => ho_agr (ho_set H 2 q v) K G s0 m0) i = true := by show ho_agr _ _ _ _ _ = _; rw [ho_agr_mt hs12 (ho_alt_more H q i) eo (56 + 4 * q)]; exact decide_eq_true h_145
                refine ev_s (is_iload rfl rfl) ?_
                refine ev_s (is_iconst (nI 1) rfl rfl) ?_
                refine ev_s (is_iload rfl rfl) ?_
                refine ev_s (is_ishl _ rfl (pu_shl1 (by omega))) ?_
                have hbl := lo_bits_lt (fun v => ho_agr (ho_set H 2 q v) K G s0 m0) i
                refine ev_s (is_ior _ rfl (pu_or hbl)) ?_
                refine ev_s (st_istore_9 rfl rfl) ?_
                refine ev_s (st_iinc_10 _ rfl rfl (nI_inc _)) ?_
                refine ev_s (is_goto rfl) ?_
                have := ih (i + 1) _ _ (by omega) hx hz hs hok (by intro v; rw [ho_at_at])
                rw [lo_bits_s] at this
                first
                  | (rw [if_pos hp] at this; exact this)
                  | (rw [if_neg (fun q => absurd (hp.symm.trans q) (by decide))] at this; exact this)
          refine ev_s (is_goto rfl) ?_
          refine ev_s (st_istore_7 rfl rfl) ?_
          refine ev_s (is_aload_n rfl rfl) ?_
          refine ev_s (is_iload rfl rfl) ?_
          refine ev_c1 (is_callR 2 [_] [] rfl rfl rfl rfl rfl (Nat.le_of_ble_eq_true rfl) rfl rfl rfl (pu_s hC 29 rfl rfl)) rfl rfl (x_noMan' hC hx _) ?_
          refine ev_s (is_if_eq_t rfl (pu_b_0 (fun q => q (ho_isM_t hn6 hql)))) ?_
          refine ev_s (is_aload_n rfl rfl) ?_
          refine ev_s (is_iload rfl rfl) ?_
          refine ev_q1 (is_callR 2 [_] [] rfl rfl rfl rfl rfl (Nat.le_of_ble_eq_true rfl) rfl rfl rfl (pu_s hC 29 rfl rfl)) rfl rfl (x_thought hC hx (m := q) (by omega)) (fun r_85 mi mr hq_85 => ?_)
          obtain ⟨rfl, hmr, hsc, hok⟩ := hq_85
          have hmr := hmr.symm
          subst hmr
          have hsc := hsc.mono (xM2_xQ (by omega))
          refine ev_s (st_astore_8 rfl rfl) ?_
          refine ev_s (is_iconst (nI 0) rfl rfl) ?_
          refine ev_s (st_istore_9 rfl rfl) ?_
          refine ev_s (is_iconst (nI 0) rfl rfl) ?_
          refine ev_s (st_istore_10 rfl rfl) ?_
          exact loop 10 0 _ _ (by omega) (xa_sc hx hsc) (xh_sc hx hz hsc) hsc hok (fun v => rfl)
    · refine ev_s (is_bipush ((-7)) rfl rfl) ?_
      refine ev_ret (is_ireturn rfl rfl (by first | rfl | exact pu_b_nar | decide)) ?_
      first
        | (rw [show an_kinds H K G s m sort = rf_d H K s m from if_neg h_10]
           exact ⟨rfl, rfl, rfl, sc_rf⟩)
        | (rw [show an_kinds H K G (nI s0) (nI m0) sort = -7 by unfold an_kinds; rw [if_pos e0, if_neg h_22]]
           exact ⟨rfl, rfl, rfl, sc_rf⟩)
  · refine ev_s (is_iload rfl rfl) ?_
    refine ev_ret (is_ireturn rfl rfl (by first | rfl | exact pu_b_nar | decide)) ?_
    first
      | (rw [show an_kinds H K G s m sort = rf_d H K s m from if_neg h_10]
         exact ⟨rfl, rfl, rfl, sc_rf⟩)
      | (rw [show an_kinds H K G (nI s0) (nI m0) sort = -7 by unfold an_kinds; rw [if_pos e0, if_neg h_22]]
         exact ⟨rfl, rfl, rfl, sc_rf⟩)

theorem x_did {d : Nat} {sh : im_Sh} {mi : im_MI} {mr : im_MR} (hC : pu_C sh mr) {H K : ho_T} {G : ho_G} (hx : xa_ok H G mi mr) (hz : xh_ok H K mi) (s m w : Int32) : EvM (d + 6) 90 [.ref 29, .int s, .int m, .int w] sh mi mr (fun r sh2 m2 r2 => sh2 = sh ∧ (r = .int (an_did H K G s m w) ∧ r2 = mr ∧ sc_ xQ mi m2)) := by
  show Ev (d + 6) 90 0 [.ref 29, .int s, .int m, .int w, im_bad, im_bad, im_bad, im_bad, im_bad, im_bad] [] sh mi mr _
  have hn6 := xa_n hx
  have hs : sc_ xQ mi mi := sc_rf
  refine ev_s (is_aload_n rfl rfl) ?_
  refine ev_s (is_iload_n rfl rfl) ?_
  refine ev_s (is_iload_n rfl rfl) ?_
  refine ev_c1 (is_callR 3 [_, _] [] rfl rfl rfl rfl rfl (Nat.le_of_ble_eq_true rfl) rfl rfl rfl (pu_s hC 29 rfl rfl)) rfl rfl (x_refD hC hx hz _ _) ?_
  refine ev_s (st_istore_4 rfl rfl) ?_
  refine ev_s (is_iload rfl rfl) ?_
  refine ev_if_eq rfl (fun h_10 => ?_) (fun h_10 => ?_)
  · have e0 : rf_d H K s m = nI 0 := h_10
    obtain ⟨hrs, hrm⟩ := rf_d_0 e0
    obtain ⟨s0, rfl, hs4, hk4, hs12, es0⟩ := rf_s_0 hrs
    obtain ⟨m0, rfl, hm0, em0⟩ := ho_isM_n hn6 hrm
    refine ev_s (is_iload_n rfl rfl) ?_
    refine ev_s (is_bipush (nI 100) rfl rfl) ?_
    refine ev_icmp_lt rfl (fun h_19 => ?_) (fun h_19 => ?_)
    · refine ev_s (is_iconst (nI 0) rfl rfl) ?_
      refine ev_s (st_istore_5 rfl rfl) ?_
      refine ev_s (is_iload rfl rfl) ?_
      refine ev_s (is_if_eq_t rfl rfl) ?_
      refine ev_s (is_iload_n rfl rfl) ?_
      refine ev_s (st_istore_6 rfl rfl) ?_
      refine ev_s (is_iload rfl rfl) ?_
      refine ev_c1 (is_call0 1 [_] [] rfl rfl rfl rfl rfl (Nat.le_of_ble_eq_true rfl) rfl rfl rfl) rfl rfl (x_noHour' _) ?_
      refine ev_ifB_eq rfl (fun h_49 => ?_) (fun h_49 => ?_)
      · obtain ⟨w0, rfl, lw0, uw0, ew0⟩ := ho_rng_n (Decidable.of_not_not h_49) (by decide) (by decide)
        have hdd : dd_h (nI w0) = true := by rw [dd_lt h_19]; exact Decidable.of_not_not h_49
        have hw2 : jn (nI w0) % 100 = w0 := by rw [ew0]; omega
        have ea : an_did H K G (nI s0) (nI m0) (nI w0) = nI (lo_bits (fun d => ho_agr (ho_set H (10 + m0) w0 d) K G s0 m0) 6) := by
          unfold an_did dd_w dd_b
          rw [if_pos e0, if_pos hdd, es0, em0, hw2, ew0, if_pos (show w0 < 100 by omega)]
        rw [ea]
        have loop : ∀ (j i : Nat) (w v4 : Int32) (ma : im_MI), i + j = 6 → xa_ok H G ma mr → xh_ok H K ma → sc_ xQ mi ma → Ev (d + 6) 90 89 [.ref 29, .int (nI s0), .int (nI m0), .int w, .int v4, .int (nI 0), .int (nI w0), .int (nI m0), .int (nI (lo_bits (fun d => ho_agr (ho_set H (10 + m0) w0 d) K G s0 m0) i)), .int (nI i)] [] sh ma mr (fun r sh2 m2 r2 => sh2 = sh ∧ (r = .int (nI (lo_bits (fun d => ho_agr (ho_set H (10 + m0) w0 d) K G s0 m0) 6)) ∧ r2 = mr ∧ sc_ xQ mi m2)) := by
          intro j
          induction j with
          | zero =>
            intro i w v4 ma hi hx hz hs
            refine ev_s (is_iload rfl rfl) ?_
            refine ev_s (is_bipush (nI 6) rfl rfl) ?_
            refine ev_s (is_icmp_ge_t rfl (nI_le (by omega) (by omega))) ?_
            refine ev_s (is_iload rfl rfl) ?_
            refine ev_ret (is_ireturn rfl rfl (by first | rfl | exact pu_b_nar | decide)) ?_
            exact ⟨rfl, by rw [show i = 6 by omega], rfl, hs⟩
          | succ j ih =>
            intro i w v4 ma hi hx hz hs
            refine ev_s (is_iload rfl rfl) ?_
            refine ev_s (is_bipush (nI 6) rfl rfl) ?_
            refine ev_s (is_icmp_ge_f rfl (nI_ge (by omega) (by omega))) ?_
            refine ev_s (is_aload_n rfl rfl) ?_
            refine ev_s (is_iload_n rfl rfl) ?_
            refine ev_s (is_iload_n rfl rfl) ?_
            refine ev_s (is_aload_n rfl rfl) ?_
            refine ev_s (is_iload rfl rfl) ?_
            refine ev_s (is_iload rfl rfl) ?_
            refine ev_s (is_iload rfl rfl) ?_
            refine ev_q1 (is_callR 4 [_, _, _] [_, _, _] rfl rfl rfl rfl rfl (Nat.le_of_ble_eq_true rfl) rfl rfl rfl (pu_s hC 29 rfl rfl)) rfl rfl (x_dOther hC hx (m := m0) (h := w0) (v := i) (by omega) (by omega) (by omega)) (fun r_106 mi mr hq_106 => ?_)
            obtain ⟨rfl, hmr, hsc, hok⟩ := hq_106
            have hmr := hmr.symm
            subst hmr
            have hsc := hsc.mono (xM2_xQ (by omega))
            have hs := hs.trans hsc
            have hz := xh_sc hx hz hsc
            have hx := xa_sc hx hsc
            refine ev_s (is_iload rfl rfl) ?_
            refine ev_q1 (is_callR 5 [_, _, _, _] [] rfl rfl rfl rfl rfl (Nat.le_of_ble_eq_true rfl) rfl rfl rfl (pu_s hC 29 rfl rfl)) rfl rfl (x_agrS hC hx hz hs4 hs12 hm0 (xm_Mt (m := m0) (by omega)) hok) (fun r_111 mi mr hq_111 => ?_)
            obtain ⟨rfl, hmr, hsc⟩ := hq_111
            have hmr := hmr.symm
            subst hmr
            have hsc := hsc.mono (xS_xQ (Or.inl rfl))
            have hs := hs.trans hsc
            have hz := xh_sc hx hz hsc
            have hx := xa_sc hx hsc
            refine ev_ifB_eq rfl (fun h_114 => ?_) (fun h_114 => ?_)
            · have hp : (fun d => ho_agr (ho_set H (10 + m0) w0 d) K G s0 m0) i = false := by show ho_agr _ _ _ _ _ = _; rw [ho_agr_own hs12 (ho_alt_do H m0 i (h := w0) (by omega))]; exact decide_eq_false h_114
              refine ev_s (st_iinc_9 _ rfl rfl (nI_inc _)) ?_
              refine ev_s (is_goto rfl) ?_
              have := ih (i + 1) w v4 _ (by omega) hx hz hs
              rw [lo_bits_s] at this
              first
                | (rw [if_pos hp] at this; exact this)
                | (rw [if_neg (fun q => absurd (hp.symm.trans q) (by decide))] at this; exact this)
            · have hp : (fun d => ho_agr (ho_set H (10 + m0) w0 d) K G s0 m0) i = true := by show ho_agr _ _ _ _ _ = _; rw [ho_agr_own hs12 (ho_alt_do H m0 i (h := w0) (by omega))]; exact decide_eq_true h_114
              refine ev_s (is_iload rfl rfl) ?_
              refine ev_s (is_iconst (nI 1) rfl rfl) ?_
              refine ev_s (is_iload rfl rfl) ?_
              refine ev_s (is_ishl _ rfl (pu_shl1 (by omega))) ?_
              have hbl := lo_bits_lt (fun d => ho_agr (ho_set H (10 + m0) w0 d) K G s0 m0) i
              refine ev_s (is_ior _ rfl (pu_or hbl)) ?_
              refine ev_s (st_istore_8 rfl rfl) ?_
              refine ev_s (st_iinc_9 _ rfl rfl (nI_inc _)) ?_
              refine ev_s (is_goto rfl) ?_
              have := ih (i + 1) w v4 _ (by omega) hx hz hs
              rw [lo_bits_s] at this
              first
                | (rw [if_pos hp] at this; exact this)
                | (rw [if_neg (fun q => absurd (hp.symm.trans q) (by decide))] at this; exact this)
        refine ev_s (is_iload rfl rfl) ?_
        refine ev_s (is_if_eq_t rfl rfl) ?_
        refine ev_s (is_iload_n rfl rfl) ?_
        refine ev_s (st_istore_7 rfl rfl) ?_
        refine ev_s (is_aload_n rfl rfl) ?_
        refine ev_s (is_iload rfl rfl) ?_
        refine ev_c1 (is_callR 2 [_] [] rfl rfl rfl rfl rfl (Nat.le_of_ble_eq_true rfl) rfl rfl rfl (pu_s hC 29 rfl rfl)) rfl rfl (x_noMan' hC hx _) ?_
        refine ev_s (is_if_eq_t rfl (pu_b_0 (fun q => q (ho_isM_t hn6 hm0)))) ?_
        refine ev_s (is_iconst (nI 0) rfl rfl) ?_
        refine ev_s (st_istore_8 rfl rfl) ?_
        refine ev_s (is_iconst (nI 0) rfl rfl) ?_
        refine ev_s (st_istore_9 rfl rfl) ?_
        exact loop 6 0 _ _ _ (by omega) hx hz sc_rf
      · refine ev_s (is_bipush ((-7)) rfl rfl) ?_
        refine ev_ret (is_ireturn rfl rfl (by first | rfl | exact pu_b_nar | decide)) ?_
        rw [show an_did H K G (nI s0) (nI m0) w = -7 by unfold an_did; rw [if_pos e0, if_neg (by rw [dd_lt h_19]; exact h_49)]]
        exact ⟨rfl, rfl, rfl, sc_rf⟩
    · refine ev_s (is_iconst (nI 1) rfl rfl) ?_
      refine ev_s (is_goto rfl) ?_
      refine ev_s (st_istore_5 rfl rfl) ?_
      refine ev_s (is_iload rfl rfl) ?_
      refine ev_s (is_if_eq_f rfl (by decide)) ?_
      refine ev_s (is_iload_n rfl rfl) ?_
      refine ev_s (is_bipush (nI 100) rfl rfl) ?_
      first
        | refine ev_s (is_isub _ rfl (pk_sub (by omega))) ?_
        | refine ev_s (is_isub _ rfl rfl) ?_
      refine ev_s (is_goto rfl) ?_
      refine ev_s (st_istore_6 rfl rfl) ?_
      refine ev_s (is_iload rfl rfl) ?_
      refine ev_c1 (is_call0 1 [_] [] rfl rfl rfl rfl rfl (Nat.le_of_ble_eq_true rfl) rfl rfl rfl) rfl rfl (x_noHour' _) ?_
      refine ev_ifB_eq rfl (fun h_49 => ?_) (fun h_49 => ?_)
      · obtain ⟨w0, ew, lw0, uw0, ew0⟩ := ho_rng_n (Decidable.of_not_not h_49) (by decide) (by decide)
        have hdd : dd_h w = true := by rw [dd_ge h_19]; exact Decidable.of_not_not h_49
        have hw := dd_100 ew (by omega)
        have hw1 : jn w = 100 + w0 := by rw [hw]; exact jn_n (by omega)
        have hw2 : jn w % 100 = w0 := by rw [hw1]; omega
        have ea : an_did H K G (nI s0) (nI m0) w = (match ho_mate H m0 with | none => -6 | some o => nI (lo_bits (fun d => ho_agr (ho_set H (10 + o) w0 d) K G s0 m0) 6)) := by
          unfold an_did dd_w dd_b
          rw [if_pos e0, if_pos hdd, es0, em0, hw2, hw1, if_neg (show ¬ 100 + w0 < 100 by omega)]
          rfl
        rw [ew]
        refine ev_s (is_iload rfl rfl) ?_
        refine ev_s (is_if_eq_f rfl (by decide)) ?_
        refine ev_s (is_aload_n rfl rfl) ?_
        refine ev_s (is_iload_n rfl rfl) ?_
        refine ev_c1 (is_callR 2 [_] [] rfl rfl rfl rfl rfl (Nat.le_of_ble_eq_true rfl) rfl rfl rfl (pu_s hC 29 rfl rfl)) rfl rfl (x_mateN hC hx hm0) ?_
        rcases eo : ho_mate H m0 with _ | q
        · rw [eo] at ea
          rw [ea]
          refine ev_s (is_goto rfl) ?_
          refine ev_s (st_istore_7 rfl rfl) ?_
          refine ev_s (is_aload_n rfl rfl) ?_
          refine ev_s (is_iload rfl rfl) ?_
          refine ev_c1 (is_callR 2 [_] [] rfl rfl rfl rfl rfl (Nat.le_of_ble_eq_true rfl) rfl rfl rfl (pu_s hC 29 rfl rfl)) rfl rfl (x_noMan' hC hx _) ?_
          refine ev_s (is_if_eq_f rfl (pu_b_1 (fun q => absurd (show ho_isM H (-1) = true from q) (by rw [ho_isM_m1]; decide)))) ?_
          refine ev_s (is_bipush ((-6)) rfl rfl) ?_
          refine ev_ret (is_ireturn rfl rfl (by first | rfl | exact pu_b_nar | decide)) ?_
          exact ⟨rfl, rfl, rfl, sc_rf⟩
        · rw [eo] at ea
          rw [ea]
          have hql := ho_mate_lt eo
          show Ev _ _ _ [_, _, _, _, _, _, _, _, _, _] [.int (nI q)] _ _ _ (fun r sh2 m2 r2 => sh2 = sh ∧ (r = .int (nI (lo_bits (fun d => ho_agr (ho_set H (10 + q) w0 d) K G s0 m0) 6)) ∧ r2 = mr ∧ sc_ xQ mi m2))
          have loop : ∀ (j i : Nat) (w v4 : Int32) (ma : im_MI), i + j = 6 → xa_ok H G ma mr → xh_ok H K ma → sc_ xQ mi ma → Ev (d + 6) 90 89 [.ref 29, .int (nI s0), .int (nI m0), .int w, .int v4, .int (nI 1), .int (nI w0), .int (nI q), .int (nI (lo_bits (fun d => ho_agr (ho_set H (10 + q) w0 d) K G s0 m0) i)), .int (nI i)] [] sh ma mr (fun r sh2 m2 r2 => sh2 = sh ∧ (r = .int (nI (lo_bits (fun d => ho_agr (ho_set H (10 + q) w0 d) K G s0 m0) 6)) ∧ r2 = mr ∧ sc_ xQ mi m2)) := by
            intro j
            induction j with
            | zero =>
              intro i w v4 ma hi hx hz hs
              refine ev_s (is_iload rfl rfl) ?_
              refine ev_s (is_bipush (nI 6) rfl rfl) ?_
              refine ev_s (is_icmp_ge_t rfl (nI_le (by omega) (by omega))) ?_
              refine ev_s (is_iload rfl rfl) ?_
              refine ev_ret (is_ireturn rfl rfl (by first | rfl | exact pu_b_nar | decide)) ?_
              exact ⟨rfl, by rw [show i = 6 by omega], rfl, hs⟩
            | succ j ih =>
              intro i w v4 ma hi hx hz hs
              refine ev_s (is_iload rfl rfl) ?_
              refine ev_s (is_bipush (nI 6) rfl rfl) ?_
              refine ev_s (is_icmp_ge_f rfl (nI_ge (by omega) (by omega))) ?_
              refine ev_s (is_aload_n rfl rfl) ?_
              refine ev_s (is_iload_n rfl rfl) ?_
              refine ev_s (is_iload_n rfl rfl) ?_
              refine ev_s (is_aload_n rfl rfl) ?_
              refine ev_s (is_iload rfl rfl) ?_
              refine ev_s (is_iload rfl rfl) ?_
              refine ev_s (is_iload rfl rfl) ?_
              refine ev_q1 (is_callR 4 [_, _, _] [_, _, _] rfl rfl rfl rfl rfl (Nat.le_of_ble_eq_true rfl) rfl rfl rfl (pu_s hC 29 rfl rfl)) rfl rfl (x_dOther hC hx (m := q) (h := w0) (v := i) (by omega) (by omega) (by omega)) (fun r_106 mi mr hq_106 => ?_)
              obtain ⟨rfl, hmr, hsc, hok⟩ := hq_106
              have hmr := hmr.symm
              subst hmr
              have hsc := hsc.mono (xM2_xQ (by omega))
              have hs := hs.trans hsc
              have hz := xh_sc hx hz hsc
              have hx := xa_sc hx hsc
              refine ev_s (is_iload rfl rfl) ?_
              refine ev_q1 (is_callR 5 [_, _, _, _] [] rfl rfl rfl rfl rfl (Nat.le_of_ble_eq_true rfl) rfl rfl rfl (pu_s hC 29 rfl rfl)) rfl rfl (x_agrM hC hx hz hs4 hs12 hm0 (xm_Mt (m := q) (by omega)) hok) (fun r_111 mi mr hq_111 => ?_)
              obtain ⟨rfl, hmr, hsc⟩ := hq_111
              have hmr := hmr.symm
              subst hmr
              have hsc := hsc.mono (xS_xQ (Or.inl rfl))
              have hs := hs.trans hsc
              have hz := xh_sc hx hz hsc
              have hx := xa_sc hx hsc
              refine ev_ifB_eq rfl (fun h_114 => ?_) (fun h_114 => ?_)
              · have hp : (fun d => ho_agr (ho_set H (10 + q) w0 d) K G s0 m0) i = false := by show ho_agr _ _ _ _ _ = _; rw [ho_agr_mt hs12 (ho_alt_do H q i (h := w0) (by omega)) eo (56 + 4 * q)]; exact decide_eq_false h_114
                refine ev_s (st_iinc_9 _ rfl rfl (nI_inc _)) ?_
                refine ev_s (is_goto rfl) ?_
                have := ih (i + 1) w v4 _ (by omega) hx hz hs
                rw [lo_bits_s] at this
                first
                  | (rw [if_pos hp] at this; exact this)
                  | (rw [if_neg (fun q => absurd (hp.symm.trans q) (by decide))] at this; exact this)
              · have hp : (fun d => ho_agr (ho_set H (10 + q) w0 d) K G s0 m0) i = true := by show ho_agr _ _ _ _ _ = _; rw [ho_agr_mt hs12 (ho_alt_do H q i (h := w0) (by omega)) eo (56 + 4 * q)]; exact decide_eq_true h_114
                refine ev_s (is_iload rfl rfl) ?_
                refine ev_s (is_iconst (nI 1) rfl rfl) ?_
                refine ev_s (is_iload rfl rfl) ?_
                refine ev_s (is_ishl _ rfl (pu_shl1 (by omega))) ?_
                have hbl := lo_bits_lt (fun d => ho_agr (ho_set H (10 + q) w0 d) K G s0 m0) i
                refine ev_s (is_ior _ rfl (pu_or hbl)) ?_
                refine ev_s (st_istore_8 rfl rfl) ?_
                refine ev_s (st_iinc_9 _ rfl rfl (nI_inc _)) ?_
                refine ev_s (is_goto rfl) ?_
                have := ih (i + 1) w v4 _ (by omega) hx hz hs
                rw [lo_bits_s] at this
                first
                  | (rw [if_pos hp] at this; exact this)
                  | (rw [if_neg (fun q => absurd (hp.symm.trans q) (by decide))] at this; exact this)
          refine ev_s (is_goto rfl) ?_
          refine ev_s (st_istore_7 rfl rfl) ?_
          refine ev_s (is_aload_n rfl rfl) ?_
          refine ev_s (is_iload rfl rfl) ?_
          refine ev_c1 (is_callR 2 [_] [] rfl rfl rfl rfl rfl (Nat.le_of_ble_eq_true rfl) rfl rfl rfl (pu_s hC 29 rfl rfl)) rfl rfl (x_noMan' hC hx _) ?_
          refine ev_s (is_if_eq_t rfl (pu_b_0 (fun q => q (ho_isM_t hn6 hql)))) ?_
          refine ev_s (is_iconst (nI 0) rfl rfl) ?_
          refine ev_s (st_istore_8 rfl rfl) ?_
          refine ev_s (is_iconst (nI 0) rfl rfl) ?_
          refine ev_s (st_istore_9 rfl rfl) ?_
          exact loop 6 0 _ _ _ (by omega) hx hz sc_rf
      · refine ev_s (is_bipush ((-7)) rfl rfl) ?_
        refine ev_ret (is_ireturn rfl rfl (by first | rfl | exact pu_b_nar | decide)) ?_
        rw [show an_did H K G (nI s0) (nI m0) w = -7 by unfold an_did; rw [if_pos e0, if_neg (by rw [dd_ge h_19]; exact h_49)]]
        exact ⟨rfl, rfl, rfl, sc_rf⟩
  · refine ev_s (is_iload rfl rfl) ?_
    refine ev_ret (is_ireturn rfl rfl (by first | rfl | exact pu_b_nar | decide)) ?_
    rw [show an_did H K G s m w = rf_d H K s m from if_neg h_10]
    exact ⟨rfl, rfl, rfl, sc_rf⟩
