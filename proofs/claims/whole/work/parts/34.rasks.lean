/-! ===== PURE, the reference: asksOf, companyOf, daysOf, dayOf, allOf ===== -/
theorem nI_sh31 : ∀ h, h < 32 → ((nI h &&& 31).toBitVec.smod 32).toNat = h := by decide +kernel
theorem nI_shr {w h : Nat} (hw : w < 2 ^ 31) (hh : h < 32) : nI w >>> (nI h &&& 31) = nI (w / 2 ^ h) := pk_shrN hw _ h (nI_sh31 h hh)
theorem nI_and1 {a : Nat} (h : a < 2 ^ 32) : nI a &&& nI 1 = nI (a % 2) := pk_andN h 1 (by decide)
theorem ho_w_lt (H : ho_T) (h : Nat) : ho_w H h < 2 := Nat.mod_lt _ (by decide)
theorem ho_asks_le (H : ho_T) (G : ho_G) (p m h : Nat) : ho_asks H G p m h ≤ 100 := by
  unfold ho_asks ho_say
  split
  · exact te_clamp_le _ (by decide)
  · exact Nat.le_trans (te_clamp_le _ (by decide)) (by decide)
theorem ho_asks_le2 (H : ho_T) (G : ho_G) (p m h : Nat) (hp : p ≠ 2) : ho_asks H G p m h ≤ 99 := by
  unfold ho_asks ho_say
  rw [if_neg hp]
  exact te_clamp_le _ (by decide)
theorem kd_minds_le (k more v : Nat) (h1 : more < 10) (h2 : v ≤ 100) : kd_minds k more v ≤ 109 := by
  unfold kd_minds
  repeat' split
  all_goals omega
theorem ho_comp_le (H : ho_T) (G : ho_G) (hb : ho_bd H) (m h : Nat) : ho_comp H G m h ≤ 109 := by
  unfold ho_comp
  split
  · omega
  · exact kd_minds_le _ _ _ (hb.2.2.2.2.2.2.1 m) (ho_asks_le _ _ _ _ _)
theorem ho_days_le (H : ho_T) (G : ho_G) (m h : Nat) : ho_days H G m h ≤ 99 := by
  have := ho_asks_le2 H G 1 m h (by decide)
  unfold ho_days kd_serves
  repeat' split
  all_goals omega

theorem r_asksOf {d : Nat} {sh : im_Sh} {mi : im_MI} {mr : im_MR} (hC : pu_C sh mr) {H : ho_T} {G : ho_G} (hR : rr_ok H G mi) {p m h : Nat} (hp : p < 3) (hm : m < 6) (hh : h < 12) : EvM (d + 2) 156 [.ref 110, .int (nI p), .int (nI m), .int (nI h)] sh mi mr (fun r sh2 m2 r2 => sh2 = sh ∧ (r = .int (nI (ho_asks H G p m h)) ∧ r2 = mr ∧ sc_ sS mi m2)) := by
  show Ev (d + 2) 156 0 [.ref 110, .int (nI p), .int (nI m), .int (nI h)] [] sh mi mr _
  obtain ⟨h1, h2, h3, h4, h5, h6, h7, h8, h9⟩ := id hR
  obtain ⟨b1, b2, b3, b4, b5, b6, b7, b8, b9, b10⟩ := id h8
  refine ev_s (is_aload_n rfl rfl) ?_
  refine ev_s (is_getR rfl (pu_s hC 110 rfl rfl) rfl rfl (pu_r hC 110 28 rfl rfl)) ?_
  refine ev_s (is_iconst (nI 0) rfl rfl) ?_
  refine ev_s (is_aload_n rfl rfl) ?_
  refine ev_s (is_getR rfl (pu_s hC 110 rfl rfl) rfl rfl (pu_r hC 110 3 rfl rfl)) ?_
  refine ev_s (is_bipush (nI 14) rfl rfl) ?_
  refine ev_s (is_iload_n rfl rfl) ?_
  first
    | refine ev_s (is_imul _ rfl (pk_mul _ _)) ?_
    | refine ev_s (is_imul _ rfl rfl) ?_
  refine ev_s (is_iload_n rfl rfl) ?_
  first
    | refine ev_s (is_iadd _ rfl (nI_add _ _)) ?_
    | refine ev_s (is_iadd _ rfl rfl) ?_
  refine ev_s (is_iaload' (14 * m + h) rfl (pu_s hC 113 rfl rfl) rfl rfl (by omega) (h6 m h hm (by omega))) ?_
  refine ev_s (is_iastore (0) rfl (pu_s hC 126 rfl rfl) rfl rfl (by decide)) ?_
  refine ev_s (is_aload_n rfl rfl) ?_
  refine ev_s (is_getR rfl (pu_s hC 110 rfl rfl) rfl rfl (pu_r hC 110 28 rfl rfl)) ?_
  refine ev_s (is_iconst (nI 1) rfl rfl) ?_
  refine ev_s (is_aload_n rfl rfl) ?_
  refine ev_s (is_iload_n rfl rfl) ?_
  refine ev_s (is_iload_n rfl rfl) ?_
  refine ev_c1 (is_callR 3 [_, _] [_, _] rfl rfl rfl rfl rfl (Nat.le_of_ble_eq_true rfl) rfl rfl rfl (pu_s hC 110 rfl rfl)) rfl rfl (r_signTo hC (rr_scr hR (Or.inr (Or.inl rfl))) (m := m) (h := h) hm hh) ?_
  refine ev_s (is_iastore (1) rfl (pu_s hC 126 rfl rfl) rfl rfl (by decide)) ?_
  refine ev_s (is_aload_n rfl rfl) ?_
  refine ev_s (is_getR rfl (pu_s hC 110 rfl rfl) rfl rfl (pu_r hC 110 28 rfl rfl)) ?_
  refine ev_s (is_iconst (nI 2) rfl rfl) ?_
  refine ev_s (is_iload_n rfl rfl) ?_
  refine ev_s (is_iastore (2) rfl (pu_s hC 126 rfl rfl) rfl rfl (by decide)) ?_
  refine ev_s (is_aload_n rfl rfl) ?_
  refine ev_s (is_getR rfl (pu_s hC 110 rfl rfl) rfl rfl (pu_r hC 110 28 rfl rfl)) ?_
  refine ev_s (is_iconst (nI 3) rfl rfl) ?_
  refine ev_s (is_aload_n rfl rfl) ?_
  refine ev_s (is_getR rfl (pu_s hC 110 rfl rfl) rfl rfl (pu_r hC 110 3 rfl rfl)) ?_
  refine ev_s (is_bipush (nI 14) rfl rfl) ?_
  refine ev_s (is_iload_n rfl rfl) ?_
  first
    | refine ev_s (is_imul _ rfl (pk_mul _ _)) ?_
    | refine ev_s (is_imul _ rfl rfl) ?_
  refine ev_s (is_bipush (nI 12) rfl rfl) ?_
  first
    | refine ev_s (is_iadd _ rfl (nI_add _ _)) ?_
    | refine ev_s (is_iadd _ rfl rfl) ?_
  refine ev_s (is_iaload' (14 * m + 12) rfl (pu_s hC 113 rfl rfl) rfl rfl (by omega) ((im_u_k _ _ _ _ (by decide)).trans (((im_u_k _ _ _ _ (by decide)).trans (((im_u_k _ _ _ _ (by decide)).trans (h6 m 12 hm (by decide)))))))) ?_
  refine ev_s (is_iastore (3) rfl (pu_s hC 126 rfl rfl) rfl rfl (by decide)) ?_
  refine ev_s (is_aload_n rfl rfl) ?_
  refine ev_s (is_getR rfl (pu_s hC 110 rfl rfl) rfl rfl (pu_r hC 110 28 rfl rfl)) ?_
  refine ev_s (is_iconst (nI 4) rfl rfl) ?_
  refine ev_s (is_aload_n rfl rfl) ?_
  refine ev_s (is_getR rfl (pu_s hC 110 rfl rfl) rfl rfl (pu_r hC 110 2 rfl rfl)) ?_
  refine ev_s (is_iload_n rfl rfl) ?_
  refine ev_s (is_iaload' (m) rfl (pu_s hC 112 rfl rfl) rfl rfl hm ((im_u_k _ _ _ _ (by decide)).trans (((im_u_k _ _ _ _ (by decide)).trans (((im_u_k _ _ _ _ (by decide)).trans (((im_u_k _ _ _ _ (by decide)).trans ((h5 m hm).2))))))))) ?_
  refine ev_s (is_iastore (4) rfl (pu_s hC 126 rfl rfl) rfl rfl (by decide)) ?_
  refine ev_s (is_aload_n rfl rfl) ?_
  refine ev_s (is_getR rfl (pu_s hC 110 rfl rfl) rfl rfl (pu_r hC 110 28 rfl rfl)) ?_
  refine ev_s (is_iconst (nI 5) rfl rfl) ?_
  refine ev_s (is_aload_n rfl rfl) ?_
  refine ev_s (is_getI' rfl (pu_s hC 110 rfl rfl) rfl rfl ((im_u_k _ _ _ _ (by decide)).trans (((im_u_k _ _ _ _ (by decide)).trans (((im_u_k _ _ _ _ (by decide)).trans (((im_u_k _ _ _ _ (by decide)).trans (((im_u_k _ _ _ _ (by decide)).trans (h2))))))))))) ?_
  refine ev_s (is_iload_n rfl rfl) ?_
  refine ev_s (is_ishr _ rfl (nI_shr (by omega) (by omega))) ?_
  refine ev_s (is_iconst (nI 1) rfl rfl) ?_
  refine ev_s (is_iand _ rfl (nI_and1 (by have := Nat.div_le_self (H 0 1) (2 ^ h); omega))) ?_
  refine ev_s (is_iastore (5) rfl (pu_s hC 126 rfl rfl) rfl rfl (by decide)) ?_
  have hnm : ∀ c, c < 6 → im_u (im_u (im_u (im_u (im_u (im_u mi 126 0 (nI (H (10 + m) h))) 126 1 (nI (ho_sign H m h))) 126 2 (nI h)) 126 3 (nI (H (10 + m) 12))) 126 4 (nI (H 2 m))) 126 5 (nI (H 0 1 / 2 ^ h % 2)) 126 c = ho_nm (fun _ _ => 0) (H (10 + m) h) (ho_sign H m h) h (H (10 + m) 12) (H 2 m) (ho_w H h) c := by
    intro c hc
    rcases (show c = 0 ∨ c = 1 ∨ c = 2 ∨ c = 3 ∨ c = 4 ∨ c = 5 by omega) with rfl | rfl | rfl | rfl | rfl | rfl <;> simp [im_u, ho_nm, ho_w]
  refine ev_s (is_aload_n rfl rfl) ?_
  refine ev_s (is_iload_n rfl rfl) ?_
  refine ev_q1 (is_callR 2 [_] [] rfl rfl rfl rfl rfl (Nat.le_of_ble_eq_true rfl) rfl rfl rfl (pu_s hC 110 rfl rfl)) rfl rfl (r_says hC (rr_scr (rr_scr (rr_scr (rr_scr (rr_scr (rr_scr hR (Or.inr (Or.inl rfl))) (Or.inr (Or.inl rfl))) (Or.inr (Or.inl rfl))) (Or.inr (Or.inl rfl))) (Or.inr (Or.inl rfl))) (Or.inr (Or.inl rfl))) (p := p) hp (nm := ho_nm (fun _ _ => 0) (H (10 + m) h) (ho_sign H m h) h (H (10 + m) 12) (H 2 m) (ho_w H h)) hnm) (fun r_82 mi mr hq_82 => ?_)
  obtain ⟨rfl, hmr, hsc⟩ := hq_82
  have hmr := hmr.symm
  subst hmr
  refine ev_s (is_iconst (nI 0) rfl rfl) ?_
  refine ev_s (is_iload_n rfl rfl) ?_
  refine ev_s (is_iconst (nI 2) rfl rfl) ?_
  refine ev_selN2 (p = 2) (100) (99) (pcJ := 98) (fun hS kS => ?_) (fun hS kS => ?_) ?_
  · refine ev_s (is_icmp_ne_f rfl (fun q => q (by rw [hS]))) ?_
    refine ev_s (is_bipush (nI 100) rfl rfl) ?_
    refine ev_s (is_goto rfl) ?_
    exact kS
  · refine ev_s (is_icmp_ne_t rfl (fun q => hS ((nI_eq (by omega) (by omega)).mp q))) ?_
    refine ev_s (is_bipush (nI 99) rfl rfl) ?_
    exact kS
  refine ev_c1 (is_call0 3 [_, _, _] [] rfl rfl rfl rfl rfl (Nat.le_of_ble_eq_true rfl) rfl rfl rfl) rfl rfl (r_within _ _ _) ?_
  refine ev_ret (is_ireturn rfl rfl (by first | rfl | exact pu_b_nar | decide)) ?_
  refine ⟨rfl, ?_, rfl, ?_⟩
  · rw [pu_cl_te]; rfl
  · exact ((((((sc_rf.u rfl).u rfl).u rfl).u rfl).u rfl).u rfl).trans (fun k hk => hsc k (by unfold sS at hk; rw [Bool.or_eq_false_iff] at hk; exact hk.1))

theorem r_companyOf {d : Nat} {sh : im_Sh} {mi : im_MI} {mr : im_MR} (hC : pu_C sh mr) {H : ho_T} {G : ho_G} (hR : rr_ok H G mi) {m h : Nat} (hm : m < 6) (hh : h < 12) : EvM (d + 3) 163 [.ref 110, .int (nI m), .int (nI h)] sh mi mr (fun r sh2 m2 r2 => sh2 = sh ∧ (r = .int (nI (ho_comp H G m h)) ∧ r2 = mr ∧ sc_ sS mi m2)) := by
  show Ev (d + 3) 163 0 [.ref 110, .int (nI m), .int (nI h), im_bad] [] sh mi mr _
  obtain ⟨h1, h2, h3, h4, h5, h6, h7, h8, h9⟩ := id hR
  obtain ⟨b1, b2, b3, b4, b5, b6, b7, b8, b9, b10⟩ := id h8
  refine ev_s (is_aload_n rfl rfl) ?_
  refine ev_s (is_iload_n rfl rfl) ?_
  refine ev_c1 (is_callR 2 [_] [] rfl rfl rfl rfl rfl (Nat.le_of_ble_eq_true rfl) rfl rfl rfl (pu_s hC 110 rfl rfl)) rfl rfl (r_mateOf hC hR (m := m) hm) ?_
  refine ev_s (is_iconst ((-1)) rfl rfl) ?_
  by_cases hmt : ho_mate H m = none
  · refine ev_s (is_icmp_ne_f rfl (fun q => q (by rw [hmt]; rfl))) ?_
    refine ev_s (is_iconst (nI 0) rfl rfl) ?_
    refine ev_ret (is_ireturn rfl rfl (by first | rfl | exact pu_b_nar | decide)) ?_
    exact ⟨rfl, congrArg Value.int (congrArg nI (by unfold ho_comp; rw [hmt])), rfl, sc_rf⟩
  · refine ev_s (is_icmp_ne_t rfl (fun q => hmt ((pu_o_none _ (fun k hk => by have := ho_mate_lt hk; omega)).mp q))) ?_
    obtain ⟨o, ho⟩ := Option.ne_none_iff_exists'.mp hmt
    refine ev_s (is_aload_n rfl rfl) ?_
    refine ev_s (is_iconst (nI 0) rfl rfl) ?_
    refine ev_s (is_iload_n rfl rfl) ?_
    refine ev_s (is_iload_n rfl rfl) ?_
    refine ev_q1 (is_callR 4 [_, _, _] [] rfl rfl rfl rfl rfl (Nat.le_of_ble_eq_true rfl) rfl rfl rfl (pu_s hC 110 rfl rfl)) rfl rfl (r_asksOf hC hR (p := 0) (m := m) (h := h) (by decide) hm hh) (fun r_15 mi mr hq_15 => ?_)
    obtain ⟨rfl, hmr, hsc⟩ := hq_15
    have hmr := hmr.symm
    subst hmr
    obtain ⟨e1, e2, e3, e4, e5, e6, e7, e8, e9⟩ := rr_sS hR hsc
    have hal := ho_asks_le H G 0 m h
    have hk6 := b6 m
    have hm10 := b7 m
    refine ev_s (st_istore_n_3 rfl rfl) ?_
    refine ev_s (is_aload_n rfl rfl) ?_
    refine ev_s (is_getR rfl (pu_s hC 110 rfl rfl) rfl rfl (pu_r hC 110 1 rfl rfl)) ?_
    refine ev_s (is_iload_n rfl rfl) ?_
    refine ev_s (is_iaload' (m) rfl (pu_s hC 111 rfl rfl) rfl rfl hm (e5 m hm).1) ?_
    rcases (show H 1 m = 0 ∨ H 1 m = 1 ∨ H 1 m = 2 ∨ H 1 m = 3 ∨ H 1 m = 4 ∨ H 1 m = 5 by omega) with hk | hk | hk | hk | hk | hk
    · rw [hk]
      refine ev_s (is_tsw 83 rfl (by decide)) ?_
      refine ev_s (is_iload_n rfl rfl) ?_
      refine ev_ret (is_ireturn rfl rfl (by first | rfl | exact pu_b_nar | decide)) ?_
      refine ⟨rfl, congrArg Value.int (congrArg nI ?_), rfl, hsc⟩
      unfold ho_comp
      rw [ho]
      dsimp only
      unfold kd_minds
      repeat (first
        | rw [if_pos (by omega)]
        | rw [if_neg (by omega)])
    · rw [hk]
      refine ev_s (is_tsw 83 rfl (by decide)) ?_
      refine ev_s (is_iload_n rfl rfl) ?_
      refine ev_ret (is_ireturn rfl rfl (by first | rfl | exact pu_b_nar | decide)) ?_
      refine ⟨rfl, congrArg Value.int (congrArg nI ?_), rfl, hsc⟩
      unfold ho_comp
      rw [ho]
      dsimp only
      unfold kd_minds
      repeat (first
        | rw [if_pos (by omega)]
        | rw [if_neg (by omega)])
    · rw [hk]
      refine ev_s (is_tsw 52 rfl (by decide)) ?_
      refine ev_s (is_iload_n rfl rfl) ?_
      refine ev_s (is_iconst (nI 2) rfl rfl) ?_
      refine ev_s (is_idiv _ rfl (by decide) (pk_div (by omega) (by decide) (by decide))) ?_
      refine ev_ret (is_ireturn rfl rfl (by first | rfl | exact pu_b_nar | decide)) ?_
      refine ⟨rfl, congrArg Value.int (congrArg nI ?_), rfl, hsc⟩
      unfold ho_comp
      rw [ho]
      dsimp only
      unfold kd_minds
      repeat (first
        | rw [if_pos (by omega)]
        | rw [if_neg (by omega)])
    · rw [hk]
      refine ev_s (is_tsw 56 rfl (by decide)) ?_
      refine ev_s (is_iload_n rfl rfl) ?_
      refine ev_s (is_aload_n rfl rfl) ?_
      refine ev_s (is_getR rfl (pu_s hC 110 rfl rfl) rfl rfl (pu_r hC 110 2 rfl rfl)) ?_
      refine ev_s (is_iload_n rfl rfl) ?_
      refine ev_s (is_iaload' (m) rfl (pu_s hC 112 rfl rfl) rfl rfl hm (e5 m hm).2) ?_
      first
        | refine ev_s (is_iadd _ rfl (nI_add _ _)) ?_
        | refine ev_s (is_iadd _ rfl rfl) ?_
      refine ev_ret (is_ireturn rfl rfl (by first | rfl | exact pu_b_nar | decide)) ?_
      refine ⟨rfl, congrArg Value.int (congrArg nI ?_), rfl, hsc⟩
      unfold ho_comp
      rw [ho]
      dsimp only
      unfold kd_minds
      repeat (first
        | rw [if_pos (by omega)]
        | rw [if_neg (by omega)])
    · rw [hk]
      refine ev_s (is_tsw 65 rfl (by decide)) ?_
      refine ev_s (is_iload_n rfl rfl) ?_
      refine ev_s (is_aload_n rfl rfl) ?_
      refine ev_s (is_getR rfl (pu_s hC 110 rfl rfl) rfl rfl (pu_r hC 110 2 rfl rfl)) ?_
      refine ev_s (is_iload_n rfl rfl) ?_
      refine ev_s (is_iaload' (m) rfl (pu_s hC 112 rfl rfl) rfl rfl hm (e5 m hm).2) ?_
      first
        | refine ev_icmpN_gt rfl (by omega) (by omega) (fun h_72 => ?_) (fun h_72 => ?_)
        | refine ev_icmp_gt rfl (fun h_72 => ?_) (fun h_72 => ?_)
      · refine ev_s (is_iload_n rfl rfl) ?_
        refine ev_s (is_iconst (nI 2) rfl rfl) ?_
        refine ev_s (is_idiv _ rfl (by decide) (pk_div (by omega) (by decide) (by decide))) ?_
        refine ev_ret (is_ireturn rfl rfl (by first | rfl | exact pu_b_nar | decide)) ?_
        refine ⟨rfl, congrArg Value.int (congrArg nI ?_), rfl, hsc⟩
        unfold ho_comp
        rw [ho]
        dsimp only
        unfold kd_minds
        repeat (first
          | rw [if_pos (by omega)]
          | rw [if_neg (by omega)])
      · refine ev_s (is_iconst (nI 0) rfl rfl) ?_
        refine ev_s (is_goto rfl) ?_
        refine ev_ret (is_ireturn rfl rfl (by first | rfl | exact pu_b_nar | decide)) ?_
        refine ⟨rfl, congrArg Value.int (congrArg nI ?_), rfl, hsc⟩
        unfold ho_comp
        rw [ho]
        dsimp only
        unfold kd_minds
        repeat (first
          | rw [if_pos (by omega)]
          | rw [if_neg (by omega)])
    · rw [hk]
      refine ev_s (is_tsw 83 rfl (by decide)) ?_
      refine ev_s (is_iload_n rfl rfl) ?_
      refine ev_ret (is_ireturn rfl rfl (by first | rfl | exact pu_b_nar | decide)) ?_
      refine ⟨rfl, congrArg Value.int (congrArg nI ?_), rfl, hsc⟩
      unfold ho_comp
      rw [ho]
      dsimp only
      unfold kd_minds
      repeat (first
        | rw [if_pos (by omega)]
        | rw [if_neg (by omega)])

theorem r_daysOf {d : Nat} {sh : im_Sh} {mi : im_MI} {mr : im_MR} (hC : pu_C sh mr) {H : ho_T} {G : ho_G} (hR : rr_ok H G mi) {m h : Nat} (hm : m < 6) (hh : h < 12) : EvM (d + 4) 164 [.ref 110, .int (nI m), .int (nI h)] sh mi mr (fun r sh2 m2 r2 => sh2 = sh ∧ (r = .int (nI (ho_days H G m h)) ∧ r2 = mr ∧ sc_ sS mi m2)) := by
  show Ev (d + 4) 164 0 [.ref 110, .int (nI m), .int (nI h), im_bad, im_bad] [] sh mi mr _
  obtain ⟨h1, h2, h3, h4, h5, h6, h7, h8, h9⟩ := id hR
  obtain ⟨b1, b2, b3, b4, b5, b6, b7, b8, b9, b10⟩ := id h8
  refine ev_s (is_aload_n rfl rfl) ?_
  refine ev_s (is_getI' rfl (pu_s hC 110 rfl rfl) rfl rfl h2) ?_
  refine ev_s (is_iload_n rfl rfl) ?_
  refine ev_s (is_ishr _ rfl (nI_shr (by omega) (by omega))) ?_
  refine ev_s (is_iconst (nI 1) rfl rfl) ?_
  refine ev_s (is_iand (nI (ho_w H h)) rfl (nI_and1 (by have := Nat.div_le_self (H 0 1) (2 ^ h); omega))) ?_
  have hw2 := ho_w_lt H h
  refine ev_ifN_eq rfl (by omega) (fun h_8 => ?_) (fun h_8 => ?_)
  · refine ev_s (is_iconst (nI 0) rfl rfl) ?_
    refine ev_ret (is_ireturn rfl rfl (by first | rfl | exact pu_b_nar | decide)) ?_
    first
      | exact ⟨rfl, congrArg Value.int (congrArg nI (by unfold ho_days; rw [if_pos (Or.inl h_8)])), rfl, sc_rf⟩
      | exact ⟨rfl, congrArg Value.int (congrArg nI (by unfold ho_days; rw [if_pos (Or.inr h_17)])), rfl, hsc⟩
  · refine ev_s (is_aload_n rfl rfl) ?_
    refine ev_s (is_iload_n rfl rfl) ?_
    refine ev_s (is_iload_n rfl rfl) ?_
    refine ev_q1 (is_callR 3 [_, _] [] rfl rfl rfl rfl rfl (Nat.le_of_ble_eq_true rfl) rfl rfl rfl (pu_s hC 110 rfl rfl)) rfl rfl (r_companyOf hC hR (m := m) (h := h) hm hh) (fun r_14 mi mr hq_14 => ?_)
    obtain ⟨rfl, hmr, hsc⟩ := hq_14
    have hmr := hmr.symm
    subst hmr
    have hcl := ho_comp_le H G h8 m h
    refine ev_ifN_ne rfl (by omega) (fun h_17 => ?_) (fun h_17 => ?_)
    · refine ev_s (is_aload_n rfl rfl) ?_
      refine ev_s (is_iconst (nI 1) rfl rfl) ?_
      refine ev_s (is_iload_n rfl rfl) ?_
      refine ev_s (is_iload_n rfl rfl) ?_
      refine ev_q1 (is_callR 4 [_, _, _] [] rfl rfl rfl rfl rfl (Nat.le_of_ble_eq_true rfl) rfl rfl rfl (pu_s hC 110 rfl rfl)) rfl rfl (r_asksOf hC (rr_sS hR hsc) (p := 1) (m := m) (h := h) (by decide) hm hh) (fun r_26 mi mr hq_26 => ?_)
      obtain ⟨rfl, hmr2, hsc2⟩ := hq_26
      have hmr2 := hmr2.symm
      subst hmr2
      have hsc3 := hsc.trans hsc2
      obtain ⟨e1, e2, e3, e4, e5, e6, e7, e8, e9⟩ := rr_sS hR hsc3
      have hal := ho_asks_le H G 1 m h
      have hk6 := b6 m
      have hm10 := b7 m
      refine ev_s (st_istore_n_3 rfl rfl) ?_
      refine ev_s (is_aload_n rfl rfl) ?_
      refine ev_s (is_getR rfl (pu_s hC 110 rfl rfl) rfl rfl (pu_r hC 110 1 rfl rfl)) ?_
      refine ev_s (is_iload_n rfl rfl) ?_
      refine ev_s (is_iaload' (m) rfl (pu_s hC 111 rfl rfl) rfl rfl hm (e5 m hm).1) ?_
      refine ev_s (is_iconst (nI 4) rfl rfl) ?_
      refine ev_icmpN_ne rfl (by omega) (by omega) (fun h_37 => ?_) (fun h_37 => ?_)
      · refine ev_s (is_aload_n rfl rfl) ?_
        refine ev_s (is_getR rfl (pu_s hC 110 rfl rfl) rfl rfl (pu_r hC 110 1 rfl rfl)) ?_
        refine ev_s (is_iload_n rfl rfl) ?_
        refine ev_s (is_iaload' (m) rfl (pu_s hC 111 rfl rfl) rfl rfl hm (e5 m hm).1) ?_
        refine ev_s (is_iconst (nI 5) rfl rfl) ?_
        refine ev_icmpN_ne rfl (by omega) (by omega) (fun h_53 => ?_) (fun h_53 => ?_)
        · refine ev_s (is_iload_n rfl rfl) ?_
          refine ev_s (st_istore_4 rfl rfl) ?_
          refine ev_s (is_iload rfl rfl) ?_
          refine ev_s (is_if_ge_t rfl (nI_pos' (by omega))) ?_
          refine ev_s (is_iload rfl rfl) ?_
          refine ev_ret (is_ireturn rfl rfl (by first | rfl | exact pu_b_nar | decide)) ?_
          refine ⟨rfl, congrArg Value.int (congrArg nI ?_), rfl, hsc3⟩
          unfold ho_days
          rw [if_neg (by omega)]
          unfold kd_serves
          repeat (first
            | rw [if_pos (by omega)]
            | rw [if_neg (by omega)])
          all_goals omega
        · refine ev_s (is_iload_n rfl rfl) ?_
          refine ev_s (is_aload_n rfl rfl) ?_
          refine ev_s (is_getR rfl (pu_s hC 110 rfl rfl) rfl rfl (pu_r hC 110 2 rfl rfl)) ?_
          refine ev_s (is_iload_n rfl rfl) ?_
          refine ev_s (is_iaload' (m) rfl (pu_s hC 112 rfl rfl) rfl rfl hm (e5 m hm).2) ?_
          rcases Nat.lt_or_ge (ho_asks H G 1 m h) (H 2 m) with hlt | hge
          · refine ev_s (is_isub _ rfl rfl) ?_
            refine ev_s (is_goto rfl) ?_
            refine ev_s (st_istore_4 rfl rfl) ?_
            refine ev_s (is_iload rfl rfl) ?_
            refine ev_s (is_if_ge_f rfl (fun q => absurd (pk_sneg (by omega) hlt) (Int32.not_lt.mpr q))) ?_
            refine ev_s (is_iconst (nI 0) rfl rfl) ?_
            refine ev_s (is_goto rfl) ?_
            refine ev_ret (is_ireturn rfl rfl (by first | rfl | exact pu_b_nar | decide)) ?_
            refine ⟨rfl, congrArg Value.int (congrArg nI ?_), rfl, hsc3⟩
            unfold ho_days
            rw [if_neg (by omega)]
            unfold kd_serves
            repeat (first
              | rw [if_pos (by omega)]
              | rw [if_neg (by omega)])
            all_goals omega
          · refine ev_s (is_isub _ rfl (pk_sub hge)) ?_
            refine ev_s (is_goto rfl) ?_
            refine ev_s (st_istore_4 rfl rfl) ?_
            refine ev_s (is_iload rfl rfl) ?_
            refine ev_s (is_if_ge_t rfl (nI_pos' (by omega))) ?_
            refine ev_s (is_iload rfl rfl) ?_
            refine ev_ret (is_ireturn rfl rfl (by first | rfl | exact pu_b_nar | decide)) ?_
            refine ⟨rfl, congrArg Value.int (congrArg nI ?_), rfl, hsc3⟩
            unfold ho_days
            rw [if_neg (by omega)]
            unfold kd_serves
            repeat (first
              | rw [if_pos (by omega)]
              | rw [if_neg (by omega)])
            all_goals omega
      · refine ev_s (is_iload_n rfl rfl) ?_
        refine ev_s (is_iconst (nI 3) rfl rfl) ?_
        refine ev_s (is_idiv _ rfl (by decide) (pk_div (by omega) (by decide) (by decide))) ?_
        refine ev_s (is_goto rfl) ?_
        refine ev_s (st_istore_4 rfl rfl) ?_
        refine ev_s (is_iload rfl rfl) ?_
        refine ev_s (is_if_ge_t rfl (nI_pos' (by omega))) ?_
        refine ev_s (is_iload rfl rfl) ?_
        refine ev_ret (is_ireturn rfl rfl (by first | rfl | exact pu_b_nar | decide)) ?_
        refine ⟨rfl, congrArg Value.int (congrArg nI ?_), rfl, hsc3⟩
        unfold ho_days
        rw [if_neg (by omega)]
        unfold kd_serves
        repeat (first
          | rw [if_pos (by omega)]
          | rw [if_neg (by omega)])
        all_goals omega
    · refine ev_s (is_iconst (nI 0) rfl rfl) ?_
      refine ev_ret (is_ireturn rfl rfl (by first | rfl | exact pu_b_nar | decide)) ?_
      first
        | exact ⟨rfl, congrArg Value.int (congrArg nI (by unfold ho_days; rw [if_pos (Or.inl h_8)])), rfl, sc_rf⟩
        | exact ⟨rfl, congrArg Value.int (congrArg nI (by unfold ho_days; rw [if_pos (Or.inr h_17)])), rfl, hsc⟩

theorem r_dayOf {d : Nat} {sh : im_Sh} {mi : im_MI} {mr : im_MR} (hC : pu_C sh mr) {H : ho_T} {G : ho_G} (hR : rr_ok H G mi) {m : Nat} (hm : m < 6) : EvM (d + 5) 165 [.ref 110, .int (nI m)] sh mi mr (fun r sh2 m2 r2 => sh2 = sh ∧ (r = .int (nI (ho_day H G m)) ∧ r2 = mr ∧ sc_ sS mi m2)) := by
  show Ev (d + 5) 165 0 [.ref 110, .int (nI m), im_bad, im_bad] [] sh mi mr _
  obtain ⟨h1, h2, h3, h4, h5, h6, h7, h8, h9⟩ := id hR
  obtain ⟨b1, b2, b3, b4, b5, b6, b7, b8, b9, b10⟩ := id h8
  obtain ⟨mi0, hmi0⟩ : ∃ x, x = mi := ⟨_, rfl⟩
  have loop : ∀ (j i : Nat) (mi2 : im_MI), i + j = 12 → sc_ sS mi mi2 → Ev (d + 5) 165 4 [.ref 110, .int (nI m), .int (nI (lo_sum (fun h => ho_days H G m h) i)), .int (nI i)] [] sh mi2 mr (fun r sh2 m2 r2 => sh2 = sh ∧ (r = .int (nI (ho_day H G m)) ∧ r2 = mr ∧ sc_ sS mi m2)) := by
    intro j
    induction j with
    | zero =>
      intro i mi2 hi hsc
      refine ev_s (is_iload_n rfl rfl) ?_
      refine ev_s (is_bipush (nI 12) rfl rfl) ?_
      refine ev_s (is_icmp_ge_t rfl (nI_le (by omega) (by omega))) ?_
      refine ev_s (is_iload_n rfl rfl) ?_
      refine ev_ret (is_ireturn rfl rfl (by first | rfl | exact pu_b_nar | decide)) ?_
      exact ⟨rfl, by rw [show i = 12 by omega]; rfl, rfl, hsc⟩
    | succ j ih =>
      intro i mi2 hi hsc
      refine ev_s (is_iload_n rfl rfl) ?_
      refine ev_s (is_bipush (nI 12) rfl rfl) ?_
      refine ev_s (is_icmp_ge_f rfl (nI_ge (by omega) (by omega))) ?_
      refine ev_s (is_iload_n rfl rfl) ?_
      refine ev_s (is_aload_n rfl rfl) ?_
      refine ev_s (is_iload_n rfl rfl) ?_
      refine ev_s (is_iload_n rfl rfl) ?_
      refine ev_q1 (is_callR 3 [_, _] [_] rfl rfl rfl rfl rfl (Nat.le_of_ble_eq_true rfl) rfl rfl rfl (pu_s hC 110 rfl rfl)) rfl rfl (r_daysOf hC (rr_sS hR hsc) (m := m) (h := i) hm (by omega)) (fun r_14 mi mr hq_14 => ?_)
      obtain ⟨rfl, hmr, hsc2⟩ := hq_14
      have hmr := hmr.symm
      subst hmr
      first
        | refine ev_s (is_iadd _ rfl (nI_add _ _)) ?_
        | refine ev_s (is_iadd _ rfl rfl) ?_
      refine ev_s (st_istore_n_2 rfl rfl) ?_
      refine ev_s (st_iinc_3 _ rfl rfl (nI_inc _)) ?_
      refine ev_s (is_goto rfl) ?_
      exact ih (i + 1) mi (by omega) (hsc.trans hsc2)
  refine ev_s (is_iconst (nI 0) rfl rfl) ?_
  refine ev_s (st_istore_n_2 rfl rfl) ?_
  refine ev_s (is_iconst (nI 0) rfl rfl) ?_
  refine ev_s (st_istore_n_3 rfl rfl) ?_
  exact loop 12 0 mi (by omega) sc_rf

theorem r_allOf {d : Nat} {sh : im_Sh} {mi : im_MI} {mr : im_MR} (hC : pu_C sh mr) {H : ho_T} {G : ho_G} (hR : rr_ok H G mi) : EvM (d + 6) 166 [.ref 110] sh mi mr (fun r sh2 m2 r2 => sh2 = sh ∧ (r = .int (nI (ho_all H G)) ∧ r2 = mr ∧ sc_ sS mi m2)) := by
  show Ev (d + 6) 166 0 [.ref 110, im_bad, im_bad] [] sh mi mr _
  obtain ⟨h1, h2, h3, h4, h5, h6, h7, h8, h9⟩ := id hR
  obtain ⟨b1, b2, b3, b4, b5, b6, b7, b8, b9, b10⟩ := id h8
  have loop : ∀ (j i : Nat) (mi2 : im_MI), i + j = H 0 0 → sc_ sS mi mi2 → Ev (d + 6) 166 4 [.ref 110, .int (nI (lo_sum (fun m => ho_day H G m) i)), .int (nI i)] [] sh mi2 mr (fun r sh2 m2 r2 => sh2 = sh ∧ (r = .int (nI (ho_all H G)) ∧ r2 = mr ∧ sc_ sS mi m2)) := by
    intro j
    induction j with
    | zero =>
      intro i mi2 hi hsc
      refine ev_s (is_iload_n rfl rfl) ?_
      refine ev_s (is_aload_n rfl rfl) ?_
      refine ev_s (is_getI' rfl (pu_s hC 110 rfl rfl) rfl rfl ((congrFun (hsc 110 rfl) 0).trans h1)) ?_
      refine ev_s (is_icmp_ge_t rfl (nI_le (by omega) (by omega))) ?_
      refine ev_s (is_iload_n rfl rfl) ?_
      refine ev_ret (is_ireturn rfl rfl (by first | rfl | exact pu_b_nar | decide)) ?_
      exact ⟨rfl, by rw [show i = H 0 0 by omega]; rfl, rfl, hsc⟩
    | succ j ih =>
      intro i mi2 hi hsc
      refine ev_s (is_iload_n rfl rfl) ?_
      refine ev_s (is_aload_n rfl rfl) ?_
      refine ev_s (is_getI' rfl (pu_s hC 110 rfl rfl) rfl rfl ((congrFun (hsc 110 rfl) 0).trans h1)) ?_
      refine ev_s (is_icmp_ge_f rfl (nI_ge (by omega) (by omega))) ?_
      refine ev_s (is_iload_n rfl rfl) ?_
      refine ev_s (is_aload_n rfl rfl) ?_
      refine ev_s (is_iload_n rfl rfl) ?_
      refine ev_q1 (is_callR 2 [_] [_] rfl rfl rfl rfl rfl (Nat.le_of_ble_eq_true rfl) rfl rfl rfl (pu_s hC 110 rfl rfl)) rfl rfl (r_dayOf hC (rr_sS hR hsc) (m := i) (by omega)) (fun r_15 mi mr hq_15 => ?_)
      obtain ⟨rfl, hmr, hsc2⟩ := hq_15
      have hmr := hmr.symm
      subst hmr
      first
        | refine ev_s (is_iadd _ rfl (nI_add _ _)) ?_
        | refine ev_s (is_iadd _ rfl rfl) ?_
      refine ev_s (st_istore_n_1 rfl rfl) ?_
      refine ev_s (st_iinc_2 _ rfl rfl (nI_inc _)) ?_
      refine ev_s (is_goto rfl) ?_
      exact ih (i + 1) mi (by omega) (hsc.trans hsc2)
  refine ev_s (is_iconst (nI 0) rfl rfl) ?_
  refine ev_s (st_istore_n_1 rfl rfl) ?_
  refine ev_s (is_iconst (nI 0) rfl rfl) ?_
  refine ev_s (st_istore_n_2 rfl rfl) ?_
  exact loop (H 0 0) 0 mi (by omega) sc_rf
