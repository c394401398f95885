/-! ===== PURE, the reference: image, back, the host ===== -/

theorem rz_image {H K : ho_T} {G : ho_G} {m0 mi m2 : im_MI} (h : rz_ H K G m0 mi) (hv : ho_iv H) (e : ∀ k, k ≠ 110 → k ≠ 117 → k ≠ 118 → m2 k = mi k) (e0 : ∀ j, j ≠ 11 → m2 110 j = mi 110 j) (g1 : m2 110 11 = nI 1) (g2 : m2 118 0 = nI (H 0 0)) (g3 : m2 118 1 = nI (H 0 1)) (g4 : m2 118 2 = nI (H 0 3)) (g5 : ∀ q, q < 84 → m2 117 q = mi 113 q) : rz_ H (st_image H K) G m0 m2 := by
  obtain ⟨⟨h1, h2, h3, h4, h5, h6, h7, h8, h9⟩, ⟨k1, k2, k3, k4, k5, k6, c1, c2, c3, c4, c5, c6⟩, hs⟩ := h
  refine ⟨⟨by rw [e0 0 (by decide)]; exact h1, by rw [e0 4 (by decide)]; exact h2, by rw [e0 9 (by decide)]; exact h3, by rw [e0 10 (by decide)]; exact h4, fun q hq => by rw [e 111 (by decide) (by decide) (by decide), e 112 (by decide) (by decide) (by decide)]; exact h5 q hq, fun q k hq hk => by rw [e 113 (by decide) (by decide) (by decide)]; exact h6 q k hq hk, fun t ht => by rw [e 116 (by decide) (by decide) (by decide), e 115 (by decide) (by decide) (by decide)]; exact h7 t ht, h8, h9⟩, ⟨by rw [e0 6 (by decide)]; exact k1, fun j hj => by rw [e 114 (by decide) (by decide) (by decide), st_im_o H K (by decide) (by decide)]; exact k2 j hj, by rw [g1]; rfl, fun _ => ⟨by rw [g2]; rfl, by rw [g3]; rfl, by rw [g4]; rfl, fun m k hm hk => by rw [g5 _ (by omega), st_im_m H K hm]; exact h6 m k hm hk⟩, fun s hs4 => by rw [e 119 (by decide) (by decide) (by decide), e 120 (by decide) (by decide) (by decide), e 121 (by decide) (by decide) (by decide), st_im_o H K (by decide) (by decide), st_im_o H K (by decide) (by decide)]; exact ⟨(k5 s hs4).1, (k5 s hs4).2.1, fun j hj => by rw [st_im_o H K (by omega) (by omega)]; exact (k5 s hs4).2.2 j hj⟩, fun j hj => by rw [e 123 (by decide) (by decide) (by decide)]; exact k6 j hj, fun s => by rw [st_im_o H K (by decide) (by decide)]; exact c1 s, fun s => by rw [st_im_o H K (by decide) (by decide)]; exact c2 s, fun s j hs4 => by rw [st_im_o H K (by omega) (by omega)]; exact c3 s j hs4, fun j => by rw [st_im_o H K (by decide) (by decide)]; exact c4 j, by show 1 < 2; decide, fun _ => ?_⟩, hs.trans (fun k hk => e k (fun q => by rw [q] at hk; cases hk) (fun q => by rw [q] at hk; cases hk) (fun q => by rw [q] at hk; cases hk))⟩
  obtain ⟨b1, b2, b3, b4, b5, b6, b7, b8, b9, b10⟩ := h8
  refine ⟨Nat.le_refl _, b2, b4, fun m h hm hh => by rw [st_im_m H K hm]; exact b8 m h hh, fun m hm => by rw [st_im_m H K hm]; exact b9 m, fun m hm => by rw [st_im_m H K hm]; exact b10 m, fun m hm => ?_, fun m o hm ho q => ?_⟩
  · have hm' : m < H 0 0 := hm
    rw [st_im_m H K (by omega)]
    exact hv.1 m hm'
  · have hm' : m < H 0 0 := hm
    have ho' : o < H 0 0 := ho
    rw [st_im_m H K (by omega), st_im_m H K (by omega)] at q
    exact hv.2 m o hm' ho' q

theorem r_image {d : Nat} {sh : im_Sh} {mi : im_MI} {mr : im_MR} (hC : pu_C sh mr) {H K : ho_T} {G : ho_G} (hz : rz_ H K G mi mi) (hv : ho_iv H) : EvM (d) 199 [.ref 110] sh mi mr (fun r sh2 m2 r2 => sh2 = sh ∧ (r = .int (nI (H 0 0)) ∧ r2 = mr ∧ rz_ (H) (st_image H K) G mi m2)) := by
  show Ev (d) 199 0 [.ref 110, im_bad] [] sh mi mr _
  have loop : ∀ (j i : Nat) (ma : im_MI), i + j = 84 → (∀ k, k ≠ 117 → ma k = (im_u mi 110 11 (nI 1)) k) → (∀ q, q < i → ma 117 q = mi 113 q) → Ev (d) 199 7 [.ref 110, .int (nI i)] [] sh ma mr (fun r sh2 m2 r2 => sh2 = sh ∧ (r = .int (nI (H 0 0)) ∧ r2 = mr ∧ rz_ (H) (st_image H K) G mi m2)) := by
    intro j
    induction j with
    | zero =>
      intro i ma hi e g
      refine ev_s (is_iload_n rfl rfl) ?_
      refine ev_s (is_bipush (nI 84) rfl rfl) ?_
      refine ev_s (is_icmp_ge_t rfl (nI_le (by omega) (by omega))) ?_
      refine ev_s (is_aload_n rfl rfl) ?_
      refine ev_s (is_getR rfl (pu_s hC 110 rfl rfl) rfl rfl (pu_r hC 110 13 rfl rfl)) ?_
      refine ev_s (is_iconst (nI 0) rfl rfl) ?_
      refine ev_s (is_aload_n rfl rfl) ?_
      refine ev_s (is_getI' rfl (pu_s hC 110 rfl rfl) rfl rfl ((congrFun (e 110 (by decide)) 0).trans ((im_u_j _ _ _ _ (by decide)).trans hz.1.1))) ?_
      refine ev_s (is_iastore (0) rfl (pu_s hC 118 rfl rfl) rfl rfl (by decide)) ?_
      refine ev_s (is_aload_n rfl rfl) ?_
      refine ev_s (is_getR rfl (pu_s hC 110 rfl rfl) rfl rfl (pu_r hC 110 13 rfl rfl)) ?_
      refine ev_s (is_iconst (nI 1) rfl rfl) ?_
      refine ev_s (is_aload_n rfl rfl) ?_
      refine ev_s (is_getI' rfl (pu_s hC 110 rfl rfl) rfl rfl ((im_u_k _ _ _ _ (by decide)).trans ((congrFun (e 110 (by decide)) 4).trans ((im_u_j _ _ _ _ (by decide)).trans hz.1.2.1)))) ?_
      refine ev_s (is_iastore (1) rfl (pu_s hC 118 rfl rfl) rfl rfl (by decide)) ?_
      refine ev_s (is_aload_n rfl rfl) ?_
      refine ev_s (is_getR rfl (pu_s hC 110 rfl rfl) rfl rfl (pu_r hC 110 13 rfl rfl)) ?_
      refine ev_s (is_iconst (nI 2) rfl rfl) ?_
      refine ev_s (is_aload_n rfl rfl) ?_
      refine ev_s (is_getI' rfl (pu_s hC 110 rfl rfl) rfl rfl ((im_u_k _ _ _ _ (by decide)).trans ((im_u_k _ _ _ _ (by decide)).trans ((congrFun (e 110 (by decide)) 10).trans ((im_u_j _ _ _ _ (by decide)).trans hz.1.2.2.2.1))))) ?_
      refine ev_s (is_iastore (2) rfl (pu_s hC 118 rfl rfl) rfl rfl (by decide)) ?_
      refine ev_s (is_aload_n rfl rfl) ?_
      refine ev_s (is_getI' rfl (pu_s hC 110 rfl rfl) rfl rfl ((im_u_k _ _ _ _ (by decide)).trans ((im_u_k _ _ _ _ (by decide)).trans ((im_u_k _ _ _ _ (by decide)).trans ((congrFun (e 110 (by decide)) 0).trans ((im_u_j _ _ _ _ (by decide)).trans hz.1.1)))))) ?_
      refine ev_ret (is_ireturn rfl rfl (by first | rfl | exact pu_b_nar | decide)) ?_
      have h6 : i = 84 := by omega
      subst h6
      refine ⟨rfl, rfl, rfl, rz_image hz hv (fun k h1 h2 h3 => ?_) (fun j hj => ?_) ?_ ?_ ?_ (im_u_s _ _ _ _) (fun q hq => ?_)⟩
      · rw [im_u_kk _ _ _ _ h3, im_u_kk _ _ _ _ h3, im_u_kk _ _ _ _ h3, e k h2, im_u_kk _ _ _ _ h1]
      · rw [im_u_k _ _ _ _ (by decide), im_u_k _ _ _ _ (by decide), im_u_k _ _ _ _ (by decide), e 110 (by decide), im_u_j _ _ _ _ hj]
      · rw [im_u_k _ _ _ _ (by decide), im_u_k _ _ _ _ (by decide), im_u_k _ _ _ _ (by decide), e 110 (by decide), im_u_s]
      · rw [im_u_j _ _ _ _ (by decide), im_u_j _ _ _ _ (by decide), im_u_s]
      · rw [im_u_j _ _ _ _ (by decide), im_u_s]
      · rw [im_u_k _ _ _ _ (by decide), im_u_k _ _ _ _ (by decide), im_u_k _ _ _ _ (by decide)]; exact g q hq
    | succ j ih =>
      intro i ma hi e g
      refine ev_s (is_iload_n rfl rfl) ?_
      refine ev_s (is_bipush (nI 84) rfl rfl) ?_
      refine ev_s (is_icmp_ge_f rfl (nI_ge (by omega) (by omega))) ?_
      refine ev_s (is_aload_n rfl rfl) ?_
      refine ev_s (is_getR rfl (pu_s hC 110 rfl rfl) rfl rfl (pu_r hC 110 12 rfl rfl)) ?_
      refine ev_s (is_iload_n rfl rfl) ?_
      refine ev_s (is_aload_n rfl rfl) ?_
      refine ev_s (is_getR rfl (pu_s hC 110 rfl rfl) rfl rfl (pu_r hC 110 3 rfl rfl)) ?_
      refine ev_s (is_iload_n rfl rfl) ?_
      refine ev_s (is_iaload (i) rfl (pu_s hC 113 rfl rfl) rfl rfl (by omega)) ?_
      refine ev_s (is_iastore (i) rfl (pu_s hC 117 rfl rfl) rfl rfl (by omega)) ?_
      refine ev_s (st_iinc_1 _ rfl rfl (nI_inc _)) ?_
      refine ev_s (is_goto rfl) ?_
      refine ih (i + 1) _ (by omega) (fun k hk => by rw [im_u_kk _ _ _ _ hk]; exact e k hk) (fun q hq => ?_)
      by_cases c : q = i
      · rw [c, im_u_s, e 113 (by decide), im_u_k _ _ _ _ (by decide)]
      · rw [im_u_j _ _ _ _ c]; exact g q (by omega)
  refine ev_s (is_aload_n rfl rfl) ?_
  refine ev_s (is_iconst (nI 1) rfl rfl) ?_
  refine ev_s (is_putB rfl (pu_s hC 110 rfl rfl) rfl rfl rfl (by decide)) ?_
  refine ev_s (is_iconst (nI 0) rfl rfl) ?_
  refine ev_s (st_istore_n_1 rfl rfl) ?_
  exact loop 84 0 _ (by omega) (fun _ _ => rfl) (fun q hq => by omega)

theorem rz_back {H K : ho_T} {G : ho_G} {m0 mi m2 : im_MI} (h : rz_ H K G m0 mi) (h1 : K 0 0 = 1) (e : ∀ k, k ≠ 110 → k ≠ 113 → m2 k = mi k) (e0 : ∀ j, j ≠ 0 → j ≠ 4 → j ≠ 10 → m2 110 j = mi 110 j) (g2 : m2 110 0 = nI (K 0 1)) (g3 : m2 110 4 = nI (K 0 2)) (g4 : m2 110 10 = nI (K 0 3)) (g5 : ∀ q, q < 84 → m2 113 q = mi 117 q) : rz_ (st_backH H K) K G m0 m2 := by
  have hbk := ho_bd_back (rz_bd h) (rz_hb h) h1
  obtain ⟨⟨b1, b2, b3, b4, b5, b6, b7, b8, b9⟩, ⟨k1, k2, k3, k4, k5, k6, k7⟩, hs⟩ := h
  refine ⟨⟨g2, g3, by rw [e0 9 (by decide) (by decide) (by decide)]; exact b3, g4, fun q hq => by rw [e 111 (by decide) (by decide), e 112 (by decide) (by decide), st_bk_o H K (by decide) (by decide), st_bk_o H K (by decide) (by decide)]; exact b5 q hq, fun q k hq hk => ?_, fun t ht => ?_, hbk, fun t ht => ?_⟩, ⟨by rw [e0 6 (by decide) (by decide) (by decide)]; exact k1, fun j hj => ?_, by rw [e0 11 (by decide) (by decide) (by decide)]; exact k3, by rw [e 117 (by decide) (by decide), e 118 (by decide) (by decide)]; exact k4, by rw [e 119 (by decide) (by decide), e 120 (by decide) (by decide), e 121 (by decide) (by decide)]; exact k5, by rw [e 123 (by decide) (by decide)]; exact k6, ?_⟩, hs.trans (fun k hk => e k (fun q => by rw [q] at hk; cases hk) (fun q => by rw [q] at hk; cases hk))⟩
  · rw [g5 _ (by omega), st_bk_m H K hq]
    exact (k4 h1).2.2.2 q k hq hk
  · have ht' : t < H 0 2 := ht
    rw [e 116 (by decide) (by decide), e 115 (by decide) (by decide)]
    exact b7 t ht'
  · exact b9 t ht
  · rw [e 114 (by decide) (by decide)]
    exact k2 j hj
  · obtain ⟨c1, c2, c3, c4, c5, c6⟩ := k7
    refine ⟨c1, c2, c3, c4, c5, fun q => ?_⟩
    obtain ⟨d1, d2, d3, d4⟩ := c6 q
    exact ⟨Nat.le_refl _, d2, d3, d4⟩

theorem r_back {d : Nat} {sh : im_Sh} {mi : im_MI} {mr : im_MR} (hC : pu_C sh mr) {H K : ho_T} {G : ho_G} (hz : rz_ H K G mi mi) : EvM (d) 200 [.ref 110] sh mi mr (fun r sh2 m2 r2 => sh2 = sh ∧ (r = .int (an_back K) ∧ r2 = mr ∧ rz_ (st_back H K) (K) G mi m2)) := by
  show Ev (d) 200 0 [.ref 110, im_bad] [] sh mi mr _
  refine ev_s (is_aload_n rfl rfl) ?_
  refine ev_s (is_getI' rfl (pu_s hC 110 rfl rfl) rfl rfl hz.2.1.2.2.1) ?_
  have hk2 := (rz_hb hz).2.2.2.2.1
  refine ev_ifN_ne rfl (by omega) (fun h_4 => ?_) (fun h_4 => ?_)
  · have h1 : K 0 0 = 1 := by omega
    rw [an_back, if_pos h1, st_back, if_pos h1]
    have loop : ∀ (j i : Nat) (ma : im_MI), i + j = 84 → (∀ k, k ≠ 113 → ma k = mi k) → (∀ q, q < i → ma 113 q = mi 117 q) → Ev (d) 200 12 [.ref 110, .int (nI i)] [] sh ma mr (fun r sh2 m2 r2 => sh2 = sh ∧ (r = .int (nI (K 0 1)) ∧ r2 = mr ∧ rz_ (st_backH H K) (K) G mi m2)) := by
      intro j
      induction j with
      | zero =>
        intro i ma hi e g
        refine ev_s (is_iload_n rfl rfl) ?_
        refine ev_s (is_bipush (nI 84) rfl rfl) ?_
        refine ev_s (is_icmp_ge_t rfl (nI_le (by omega) (by omega))) ?_
        refine ev_s (is_aload_n rfl rfl) ?_
        refine ev_s (is_aload_n rfl rfl) ?_
        refine ev_s (is_getR rfl (pu_s hC 110 rfl rfl) rfl rfl (pu_r hC 110 13 rfl rfl)) ?_
        refine ev_s (is_iconst (nI 0) rfl rfl) ?_
        refine ev_s (is_iaload' (0) rfl (pu_s hC 118 rfl rfl) rfl rfl (by decide) ((congrFun (e 118 (by decide)) 0).trans (hz.2.1.2.2.2.1 h1).1)) ?_
        refine ev_s (is_putI rfl (pu_s hC 110 rfl rfl) rfl rfl rfl) ?_
        refine ev_s (is_aload_n rfl rfl) ?_
        refine ev_s (is_aload_n rfl rfl) ?_
        refine ev_s (is_getR rfl (pu_s hC 110 rfl rfl) rfl rfl (pu_r hC 110 13 rfl rfl)) ?_
        refine ev_s (is_iconst (nI 1) rfl rfl) ?_
        refine ev_s (is_iaload' (1) rfl (pu_s hC 118 rfl rfl) rfl rfl (by decide) ((im_u_k _ _ _ _ (by decide)).trans ((congrFun (e 118 (by decide)) 1).trans (hz.2.1.2.2.2.1 h1).2.1))) ?_
        refine ev_s (is_putI rfl (pu_s hC 110 rfl rfl) rfl rfl rfl) ?_
        refine ev_s (is_aload_n rfl rfl) ?_
        refine ev_s (is_aload_n rfl rfl) ?_
        refine ev_s (is_getR rfl (pu_s hC 110 rfl rfl) rfl rfl (pu_r hC 110 13 rfl rfl)) ?_
        refine ev_s (is_iconst (nI 2) rfl rfl) ?_
        refine ev_s (is_iaload' (2) rfl (pu_s hC 118 rfl rfl) rfl rfl (by decide) ((im_u_k _ _ _ _ (by decide)).trans ((im_u_k _ _ _ _ (by decide)).trans ((congrFun (e 118 (by decide)) 2).trans (hz.2.1.2.2.2.1 h1).2.2.1)))) ?_
        refine ev_s (is_putI rfl (pu_s hC 110 rfl rfl) rfl rfl rfl) ?_
        refine ev_s (is_aload_n rfl rfl) ?_
        refine ev_s (is_getI' rfl (pu_s hC 110 rfl rfl) rfl rfl (show _ = nI (K 0 1) by rw [im_u_j _ _ _ _ (by decide), im_u_j _ _ _ _ (by decide), im_u_s])) ?_
        refine ev_ret (is_ireturn rfl rfl (by first | rfl | exact pu_b_nar | decide)) ?_
        have h6 : i = 84 := by omega
        subst h6
        refine ⟨rfl, rfl, rfl, rz_back hz h1 (fun k h1 h2 => ?_) (fun j q1 q2 q3 => ?_) ?_ ?_ (im_u_s _ _ _ _) (fun q hq => ?_)⟩
        · rw [im_u_kk _ _ _ _ h1, im_u_kk _ _ _ _ h1, im_u_kk _ _ _ _ h1, e k h2]
        · rw [im_u_j _ _ _ _ q3, im_u_j _ _ _ _ q2, im_u_j _ _ _ _ q1, e 110 (by decide)]
        · rw [im_u_j _ _ _ _ (by decide), im_u_j _ _ _ _ (by decide), im_u_s]
        · rw [im_u_j _ _ _ _ (by decide), im_u_s]
        · rw [im_u_k _ _ _ _ (by decide), im_u_k _ _ _ _ (by decide), im_u_k _ _ _ _ (by decide)]; exact g q hq
      | succ j ih =>
        intro i ma hi e g
        refine ev_s (is_iload_n rfl rfl) ?_
        refine ev_s (is_bipush (nI 84) rfl rfl) ?_
        refine ev_s (is_icmp_ge_f rfl (nI_ge (by omega) (by omega))) ?_
        refine ev_s (is_aload_n rfl rfl) ?_
        refine ev_s (is_getR rfl (pu_s hC 110 rfl rfl) rfl rfl (pu_r hC 110 3 rfl rfl)) ?_
        refine ev_s (is_iload_n rfl rfl) ?_
        refine ev_s (is_aload_n rfl rfl) ?_
        refine ev_s (is_getR rfl (pu_s hC 110 rfl rfl) rfl rfl (pu_r hC 110 12 rfl rfl)) ?_
        refine ev_s (is_iload_n rfl rfl) ?_
        refine ev_s (is_iaload (i) rfl (pu_s hC 117 rfl rfl) rfl rfl (by omega)) ?_
        refine ev_s (is_iastore (i) rfl (pu_s hC 113 rfl rfl) rfl rfl (by omega)) ?_
        refine ev_s (st_iinc_1 _ rfl rfl (nI_inc _)) ?_
        refine ev_s (is_goto rfl) ?_
        refine ih (i + 1) _ (by omega) (fun k hk => by rw [im_u_kk _ _ _ _ hk]; exact e k hk) (fun q hq => ?_)
        by_cases c : q = i
        · rw [c, im_u_s, e 117 (by decide)]
        · rw [im_u_j _ _ _ _ c]; exact g q (by omega)
    refine ev_s (is_iconst (nI 0) rfl rfl) ?_
    refine ev_s (st_istore_n_1 rfl rfl) ?_
    exact loop 84 0 mi (by omega) (fun _ _ => rfl) (fun q hq => by omega)
  · refine ev_s (is_bipush ((-3)) rfl rfl) ?_
    refine ev_ret (is_ireturn rfl rfl (by first | rfl | exact pu_b_nar | decide)) ?_
    rw [an_back, if_neg (show ¬ K 0 0 = 1 by omega), st_back, if_neg (show ¬ K 0 0 = 1 by omega)]
    exact ⟨rfl, rfl, rfl, hz⟩

theorem r_sheet {d : Nat} {sh : im_Sh} {mi : im_MI} {mr : im_MR} (hC : pu_C sh mr) {H K : ho_T} {G : ho_G} (hz : rz_ H K G mi mi) (s sort n : Int32) : EvM (d + 1) 201 [.ref 110, .int s, .int sort, .int n] sh mi mr (fun r sh2 m2 r2 => sh2 = sh ∧ (r = .int (an_sheet s sort n) ∧ r2 = mr ∧ rz_ (H) (st_sheet K s sort n) G mi m2)) := by
  show Ev (d + 1) 201 0 [.ref 110, .int s, .int sort, .int n, im_bad] [] sh mi mr _
  have hn6 := rz_n hz
  refine ev_s (is_iload_n rfl rfl) ?_
  refine ev_s (is_iconst (nI 0) rfl rfl) ?_
  refine ev_s (is_iconst (nI 3) rfl rfl) ?_
  refine ev_c1 (is_call0 3 [_, _, _] [] rfl rfl rfl rfl rfl (Nat.le_of_ble_eq_true rfl) rfl rfl rfl) rfl rfl (r_in' _ _ _) ?_
  refine ev_ifB_eq rfl (fun h_6 => ?_) (fun h_6 => ?_)
  · refine ev_s (is_bipush ((-2)) rfl rfl) ?_
    refine ev_ret (is_ireturn rfl rfl (by first | rfl | exact pu_b_nar | decide)) ?_
    rw [show an_sheet s sort n = -2 by simp [an_sheet, h_6], show st_sheet K s sort n = K by simp [st_sheet, h_6]]
    exact ⟨rfl, rfl, rfl, hz⟩
  · obtain ⟨s0, rfl, ls0, us0, es0⟩ := ho_rng_n h_6 (by decide) (by decide)
    refine ev_s (is_iload_n rfl rfl) ?_
    refine ev_s (is_iconst ((-1)) rfl rfl) ?_
    refine ev_s (is_iconst (nI 2) rfl rfl) ?_
    refine ev_c1 (is_call0 3 [_, _, _] [] rfl rfl rfl rfl rfl (Nat.le_of_ble_eq_true rfl) rfl rfl rfl) rfl rfl (r_in' _ _ _) ?_
    refine ev_ifB_eq rfl (fun h_15 => ?_) (fun h_15 => ?_)
    · refine ev_s (is_bipush ((-2)) rfl rfl) ?_
      refine ev_ret (is_ireturn rfl rfl (by first | rfl | exact pu_b_nar | decide)) ?_
      rw [show an_sheet (nI s0) sort n = -2 by simp [an_sheet, h_6, es0, h_15], show st_sheet K (nI s0) sort n = K by simp [st_sheet, h_6, es0, h_15]]
      exact ⟨rfl, rfl, rfl, hz⟩
    · refine ev_s (is_iload_n rfl rfl) ?_
      refine ev_s (is_iconst ((-1)) rfl rfl) ?_
      refine ev_icmp_eq rfl (fun h_20 => ?_) (fun h_20 => ?_)
      · have e20 : sort = -1 := h_20
        subst e20
        rw [show an_sheet (nI s0) (-1) n = nI 1 by simp [an_sheet, h_6, h_15], show st_sheet K (nI s0) (-1) n = sh_K K s0 0 0 by simp [st_sheet, h_6, h_15, es0]]
        have loop : ∀ (j i : Nat) (n : Int32) (ma : im_MI), i + j = 40 → rr_ok H G ma → (∀ k, k ≠ 121 → ma k = (im_u (im_u mi 119 s0 (-1)) 120 s0 (nI 0)) k) → cs_ok mi ma s0 i (fun _ => 0) → Ev (d + 1) 201 70 [.ref 110, .int (nI s0), .int (-1), .int n, .int (nI i)] [] sh ma mr (fun r sh2 m2 r2 => sh2 = sh ∧ (r = .int (nI 1) ∧ r2 = mr ∧ rz_ (H) (sh_K K s0 0 0) G mi m2)) := by
          intro j
          induction j with
          | zero =>
            intro i n ma hi hR e g
            refine ev_s (is_iload rfl rfl) ?_
            refine ev_s (is_bipush (nI 40) rfl rfl) ?_
            refine ev_s (is_icmp_ge_t rfl (nI_le (by omega) (by omega))) ?_
            refine ev_s (is_iconst (nI 1) rfl rfl) ?_
            refine ev_ret (is_ireturn rfl rfl (by first | rfl | exact pu_b_nar | decide)) ?_
            have h6 : i = 40 := by omega
            subst h6
            refine ⟨rfl, rfl, rfl, rz_sh hz (z := 0) (n := 0) (s := s0) (by omega) (by omega) (by omega) (f := fun _ => 0) (fun j => by decide) hR (fun k h1 h2 h3 => by rw [e k (by omega), im_u_kk _ _ _ _ (by omega), im_u_kk _ _ _ _ (by omega)]) (fun q hq => ?_) (fun q hq => ?_) (cs_at g (by omega)) (sh_K4 K s0 _ _) (sh_K5 K s0 _ _) (fun q j _ => sh_K6 K s0 _ _ q j) (fun i j h4 h5 h => sh_Ko K (by omega) h4 h5 h)⟩
            · rw [e 119 (by decide), im_u_k _ _ _ _ (by decide)]
              by_cases c : q = s0
              · rw [if_pos c, c, im_u_s]; rfl
              · rw [if_neg c, im_u_j _ _ _ _ c]
            · rw [e 120 (by decide)]
              by_cases c : q = s0
              · rw [if_pos c, c, im_u_s]
              · rw [if_neg c, im_u_j _ _ _ _ c, im_u_k _ _ _ _ (by decide)]
          | succ j ih =>
            intro i n ma hi hR e g
            refine ev_s (is_iload rfl rfl) ?_
            refine ev_s (is_bipush (nI 40) rfl rfl) ?_
            refine ev_s (is_icmp_ge_f rfl (nI_ge (by omega) (by omega))) ?_
            refine ev_s (is_aload_n rfl rfl) ?_
            refine ev_s (is_getR rfl (pu_s hC 110 rfl rfl) rfl rfl (pu_r hC 110 16 rfl rfl)) ?_
            refine ev_s (is_bipush (nI 40) rfl rfl) ?_
            refine ev_s (is_iload_n rfl rfl) ?_
            first
              | refine ev_s (is_imul _ rfl (pk_mul _ _)) ?_
              | refine ev_s (is_imul _ rfl rfl) ?_
            refine ev_s (is_iload rfl rfl) ?_
            first
              | refine ev_s (is_iadd _ rfl (nI_add _ _)) ?_
              | refine ev_s (is_iadd _ rfl rfl) ?_
            refine ev_s (is_iconst (nI 0) rfl rfl) ?_
            refine ev_s (is_iastore (40 * s0 + i) rfl (pu_s hC 121 rfl rfl) rfl rfl (by omega)) ?_
            refine ev_s (st_iinc_4 _ rfl rfl (nI_inc _)) ?_
            refine ev_s (is_goto rfl) ?_
            exact ih (i + 1) n _ (by omega) (rr_121 hR (by decide)) (fun k h1 => by rw [im_u_kk _ _ _ _ h1]; exact e k h1) (cs_put g rfl)
        refine ev_s (is_iload_n rfl rfl) ?_
        refine ev_s (is_iconst ((-1)) rfl rfl) ?_
        refine ev_s (is_icmp_eq_t rfl rfl) ?_
        refine ev_s (is_aload_n rfl rfl) ?_
        refine ev_s (is_getR rfl (pu_s hC 110 rfl rfl) rfl rfl (pu_r hC 110 14 rfl rfl)) ?_
        refine ev_s (is_iload_n rfl rfl) ?_
        refine ev_s (is_iload_n rfl rfl) ?_
        refine ev_s (is_iastore (s0) rfl (pu_s hC 119 rfl rfl) rfl rfl (by omega)) ?_
        refine ev_s (is_aload_n rfl rfl) ?_
        refine ev_s (is_getR rfl (pu_s hC 110 rfl rfl) rfl rfl (pu_r hC 110 15 rfl rfl)) ?_
        refine ev_s (is_iload_n rfl rfl) ?_
        refine ev_s (is_iload_n rfl rfl) ?_
        refine ev_s (is_iconst ((-1)) rfl rfl) ?_
        refine ev_s (is_icmp_ne_f rfl (fun q => q rfl)) ?_
        refine ev_s (is_iconst (nI 0) rfl rfl) ?_
        refine ev_s (is_goto rfl) ?_
        refine ev_s (is_iastore (s0) rfl (pu_s hC 120 rfl rfl) rfl rfl (by omega)) ?_
        refine ev_s (is_iconst (nI 0) rfl rfl) ?_
        refine ev_s (st_istore_4 rfl rfl) ?_
        exact loop 40 0 _ _ (by omega) (rr_121 (rr_121 hz.1 (by decide)) (by decide)) (fun _ _ => rfl) (fun q => by rw [if_neg (by omega), im_u_k _ _ _ _ (by decide), im_u_k _ _ _ _ (by decide)])
      · obtain ⟨z0, rfl, uz0, ez0⟩ := ho_rngm_n h_15 h_20
        have hm1 : ¬ nI z0 = -1 := pu_n1 (by omega)
        refine ev_s (is_iload_n rfl rfl) ?_
        refine ev_s (is_bipush (nI 40) rfl rfl) ?_
        refine ev_icmp_le rfl (fun h_26 => ?_) (fun h_26 => ?_)
        · refine ev_s (is_iload_n rfl rfl) ?_
          refine ev_s (is_iconst ((-1)) rfl rfl) ?_
          refine ev_s (is_icmp_eq_f rfl hm1) ?_
          refine ev_s (is_iload_n rfl rfl) ?_
          refine ev_if_ge rfl (fun h_38 => ?_) (fun h_38 => ?_)
          · obtain ⟨n0, hn31, rfl⟩ := nI_of (Int32.not_lt.mpr h_38)
            have en0 := jn_n hn31
            have hn40 : n0 ≤ 40 := (nI_leI (by omega) (by decide)).mp h_26
            have g40 : ¬ nI 40 < nI n0 := nI_nlt hn40 (by decide)
            have g0 : ¬ nI n0 < 0 := nI_pos hn31
            rw [show an_sheet (nI s0) (nI z0) (nI n0) = nI 1 by simp [an_sheet, h_6, h_15, hm1, g40, g0], show st_sheet K (nI s0) (nI z0) (nI n0) = sh_K K s0 (z0 + 1) n0 by simp [st_sheet, h_6, h_15, hm1, g40, g0, es0, ez0, en0]]
            have loop : ∀ (j i : Nat) (n : Int32) (ma : im_MI), i + j = 40 → rr_ok H G ma → (∀ k, k ≠ 121 → ma k = (im_u (im_u mi 119 s0 (nI z0)) 120 s0 (nI n0)) k) → cs_ok mi ma s0 i (fun _ => 0) → Ev (d + 1) 201 70 [.ref 110, .int (nI s0), .int (nI z0), .int n, .int (nI i)] [] sh ma mr (fun r sh2 m2 r2 => sh2 = sh ∧ (r = .int (nI 1) ∧ r2 = mr ∧ rz_ (H) (sh_K K s0 (z0 + 1) n0) G mi m2)) := by
              intro j
              induction j with
              | zero =>
                intro i n ma hi hR e g
                refine ev_s (is_iload rfl rfl) ?_
                refine ev_s (is_bipush (nI 40) rfl rfl) ?_
                refine ev_s (is_icmp_ge_t rfl (nI_le (by omega) (by omega))) ?_
                refine ev_s (is_iconst (nI 1) rfl rfl) ?_
                refine ev_ret (is_ireturn rfl rfl (by first | rfl | exact pu_b_nar | decide)) ?_
                have h6 : i = 40 := by omega
                subst h6
                refine ⟨rfl, rfl, rfl, rz_sh hz (z := (z0 + 1)) (n := n0) (s := s0) (by omega) (by omega) (by omega) (f := fun _ => 0) (fun j => by decide) hR (fun k h1 h2 h3 => by rw [e k (by omega), im_u_kk _ _ _ _ (by omega), im_u_kk _ _ _ _ (by omega)]) (fun q hq => ?_) (fun q hq => ?_) (cs_at g (by omega)) (sh_K4 K s0 _ _) (sh_K5 K s0 _ _) (fun q j _ => sh_K6 K s0 _ _ q j) (fun i j h4 h5 h => sh_Ko K (by omega) h4 h5 h)⟩
                · rw [e 119 (by decide), im_u_k _ _ _ _ (by decide)]
                  by_cases c : q = s0
                  · rw [if_pos c, c, im_u_s]; rw [nI_succ, Int32.add_sub_cancel]
                  · rw [if_neg c, im_u_j _ _ _ _ c]
                · rw [e 120 (by decide)]
                  by_cases c : q = s0
                  · rw [if_pos c, c, im_u_s]
                  · rw [if_neg c, im_u_j _ _ _ _ c, im_u_k _ _ _ _ (by decide)]
              | succ j ih =>
                intro i n ma hi hR e g
                refine ev_s (is_iload rfl rfl) ?_
                refine ev_s (is_bipush (nI 40) rfl rfl) ?_
                refine ev_s (is_icmp_ge_f rfl (nI_ge (by omega) (by omega))) ?_
                refine ev_s (is_aload_n rfl rfl) ?_
                refine ev_s (is_getR rfl (pu_s hC 110 rfl rfl) rfl rfl (pu_r hC 110 16 rfl rfl)) ?_
                refine ev_s (is_bipush (nI 40) rfl rfl) ?_
                refine ev_s (is_iload_n rfl rfl) ?_
                first
                  | refine ev_s (is_imul _ rfl (pk_mul _ _)) ?_
                  | refine ev_s (is_imul _ rfl rfl) ?_
                refine ev_s (is_iload rfl rfl) ?_
                first
                  | refine ev_s (is_iadd _ rfl (nI_add _ _)) ?_
                  | refine ev_s (is_iadd _ rfl rfl) ?_
                refine ev_s (is_iconst (nI 0) rfl rfl) ?_
                refine ev_s (is_iastore (40 * s0 + i) rfl (pu_s hC 121 rfl rfl) rfl rfl (by omega)) ?_
                refine ev_s (st_iinc_4 _ rfl rfl (nI_inc _)) ?_
                refine ev_s (is_goto rfl) ?_
                exact ih (i + 1) n _ (by omega) (rr_121 hR (by decide)) (fun k h1 => by rw [im_u_kk _ _ _ _ h1]; exact e k h1) (cs_put g rfl)
            refine ev_s (is_aload_n rfl rfl) ?_
            refine ev_s (is_getR rfl (pu_s hC 110 rfl rfl) rfl rfl (pu_r hC 110 14 rfl rfl)) ?_
            refine ev_s (is_iload_n rfl rfl) ?_
            refine ev_s (is_iload_n rfl rfl) ?_
            refine ev_s (is_iastore (s0) rfl (pu_s hC 119 rfl rfl) rfl rfl (by omega)) ?_
            refine ev_s (is_aload_n rfl rfl) ?_
            refine ev_s (is_getR rfl (pu_s hC 110 rfl rfl) rfl rfl (pu_r hC 110 15 rfl rfl)) ?_
            refine ev_s (is_iload_n rfl rfl) ?_
            refine ev_s (is_iload_n rfl rfl) ?_
            refine ev_s (is_iconst ((-1)) rfl rfl) ?_
            refine ev_s (is_icmp_ne_t rfl hm1) ?_
            refine ev_s (is_iload_n rfl rfl) ?_
            refine ev_s (is_iastore (s0) rfl (pu_s hC 120 rfl rfl) rfl rfl (by omega)) ?_
            refine ev_s (is_iconst (nI 0) rfl rfl) ?_
            refine ev_s (st_istore_4 rfl rfl) ?_
            exact loop 40 0 _ _ (by omega) (rr_121 (rr_121 hz.1 (by decide)) (by decide)) (fun _ _ => rfl) (fun q => by rw [if_neg (by omega), im_u_k _ _ _ _ (by decide), im_u_k _ _ _ _ (by decide)])
          · refine ev_s (is_bipush ((-14)) rfl rfl) ?_
            refine ev_ret (is_ireturn rfl rfl (by first | rfl | exact pu_b_nar | decide)) ?_
            have g40 : ¬ nI 40 < n := Int32.not_lt.mpr h_26
            have g0 : n < 0 := Int32.not_le.mp h_38
            rw [show an_sheet (nI s0) (nI z0) n = -14 by simp [an_sheet, h_6, h_15, hm1, g40, g0], show st_sheet K (nI s0) (nI z0) n = K by simp [st_sheet, h_6, h_15, hm1, g40, g0]]
            exact ⟨rfl, rfl, rfl, hz⟩
        · refine ev_s (is_bipush ((-2)) rfl rfl) ?_
          refine ev_ret (is_ireturn rfl rfl (by first | rfl | exact pu_b_nar | decide)) ?_
          have g40 : nI 40 < n := Int32.not_le.mp h_26
          rw [show an_sheet (nI s0) (nI z0) n = -2 by simp [an_sheet, h_6, h_15, hm1, g40], show st_sheet K (nI s0) (nI z0) n = K by simp [st_sheet, h_6, h_15, hm1, g40]]
          exact ⟨rfl, rfl, rfl, hz⟩

theorem rz_cel {H K : ho_T} {G : ho_G} {m0 mi : im_MI} (h : rz_ H K G m0 mi) {s j : Nat} (hs : s < 4) (hj : j < 40) (v : Int32) : rz_ H (ho_set K (20 + s) j v.toBitVec.toNat) G m0 (im_u mi 121 (40 * s + j) v) := by
  have hb := rz_hb h
  refine rz_sh h (s := s) (z := K 4 s) (n := K 5 s) hs (hb.1 s) (hb.2.1 s) (f := fun q => if q = j then v.toBitVec.toNat else K (20 + s) q) (fun q => ?_) (rr_121 h.1 (by decide)) (fun k h1 h2 h3 => im_u_kk _ _ _ _ (by omega)) (fun q hq => ?_) (fun q hq => ?_) (fun q i hq hi => ?_) (fun q => ?_) (fun q => ?_) (fun q i hq => ?_) (fun i q h4 h5 hi => ho_set_i _ _ _ _ (by omega) _)
  · show (if q = j then v.toBitVec.toNat else K (20 + s) q) < _
    split
    · exact v.toBitVec.isLt
    · exact hb.2.2.1 s q hs
  · rw [im_u_k _ _ _ _ (by decide)]
    by_cases c : q = s
    · rw [if_pos c, c]; exact rz_sort h hs
    · rw [if_neg c]
  · rw [im_u_k _ _ _ _ (by decide)]
    by_cases c : q = s
    · rw [if_pos c, c]; exact rz_size h hs
    · rw [if_neg c]
  · by_cases c : q = s
    · subst c
      rw [if_pos rfl]
      by_cases c2 : i = j
      · rw [c2, im_u_s, if_pos rfl, nI_tn]
      · rw [im_u_j _ _ _ _ (by omega), if_neg c2]; exact rz_cell h hs hi
    · rw [if_neg c, im_u_j _ _ _ _ (by omega)]
  · rw [ho_set_i _ _ _ _ (by omega)]
    by_cases h1 : q = s
    · rw [if_pos h1, h1]
    · rw [if_neg h1]
  · rw [ho_set_i _ _ _ _ (by omega)]
    by_cases h1 : q = s
    · rw [if_pos h1, h1]
    · rw [if_neg h1]
  · by_cases h1 : q = s
    · subst h1
      rw [if_pos rfl]
      unfold ho_set
      by_cases h2 : i = j
      · rw [if_pos ⟨rfl, h2⟩, if_pos h2]
      · rw [if_neg (by omega), if_neg h2]
    · rw [if_neg h1, ho_set_i _ _ _ _ (by omega)]

theorem r_cell {d : Nat} {sh : im_Sh} {mi : im_MI} {mr : im_MR} (hC : pu_C sh mr) {H K : ho_T} {G : ho_G} (hz : rz_ H K G mi mi) (s i v : Int32) : EvM (d + 1) 202 [.ref 110, .int s, .int i, .int v] sh mi mr (fun r sh2 m2 r2 => sh2 = sh ∧ (r = .int (an_cell K s i) ∧ r2 = mr ∧ rz_ (H) (st_cell K s i v) G mi m2)) := by
  show Ev (d + 1) 202 0 [.ref 110, .int s, .int i, .int v] [] sh mi mr _
  have hn6 := rz_n hz
  refine ev_s (is_iload_n rfl rfl) ?_
  refine ev_s (is_iconst (nI 0) rfl rfl) ?_
  refine ev_s (is_iconst (nI 3) rfl rfl) ?_
  refine ev_c1 (is_call0 3 [_, _, _] [] rfl rfl rfl rfl rfl (Nat.le_of_ble_eq_true rfl) rfl rfl rfl) rfl rfl (r_in' _ _ _) ?_
  refine ev_ifB_ne rfl (fun h_6 => ?_) (fun h_6 => ?_)
  · obtain ⟨s0, rfl, ls0, us0, es0⟩ := ho_rng_n h_6 (by decide) (by decide)
    have hbs := rz_hs hz s0
    have hps := pu_sort hbs.1
    refine ev_s (is_aload_n rfl rfl) ?_
    refine ev_s (is_getR rfl (pu_s hC 110 rfl rfl) rfl rfl (pu_r hC 110 14 rfl rfl)) ?_
    refine ev_s (is_iload_n rfl rfl) ?_
    refine ev_s (is_iaload' (s0) rfl (pu_s hC 119 rfl rfl) rfl rfl (by omega) (rz_sort hz (by omega))) ?_
    refine ev_s (is_iconst ((-1)) rfl rfl) ?_
    refine ev_icmp_ne rfl (fun h_19 => ?_) (fun h_19 => ?_)
    · have e19 : ¬ K 4 s0 = 0 := fun q => h_19 (hps.1.mpr q)
      refine ev_s (is_iload_n rfl rfl) ?_
      refine ev_s (is_iconst (nI 0) rfl rfl) ?_
      refine ev_s (is_aload_n rfl rfl) ?_
      refine ev_s (is_getR rfl (pu_s hC 110 rfl rfl) rfl rfl (pu_r hC 110 15 rfl rfl)) ?_
      refine ev_s (is_iload_n rfl rfl) ?_
      refine ev_s (is_iaload' (s0) rfl (pu_s hC 120 rfl rfl) rfl rfl (by omega) (rz_size hz (by omega))) ?_
      refine ev_s (is_iconst (nI 1) rfl rfl) ?_
      refine ev_s (is_isub _ rfl rfl) ?_
      refine ev_c1 (is_call0 3 [_, _, _] [] rfl rfl rfl rfl rfl (Nat.le_of_ble_eq_true rfl) rfl rfl rfl) rfl rfl (r_in' _ _ _) ?_
      refine ev_ifB_ne rfl (fun h_38 => ?_) (fun h_38 => ?_)
      · have h_38i : ho_inS K s0 i = true := h_38
        obtain ⟨i0, rfl, hi0, ei0⟩ := ho_inS_n hbs.2 h_38i
        refine ev_s (is_aload_n rfl rfl) ?_
        refine ev_s (is_getR rfl (pu_s hC 110 rfl rfl) rfl rfl (pu_r hC 110 16 rfl rfl)) ?_
        refine ev_s (is_bipush (nI 40) rfl rfl) ?_
        refine ev_s (is_iload_n rfl rfl) ?_
        first
          | refine ev_s (is_imul _ rfl (pk_mul _ _)) ?_
          | refine ev_s (is_imul _ rfl rfl) ?_
        refine ev_s (is_iload_n rfl rfl) ?_
        first
          | refine ev_s (is_iadd _ rfl (nI_add _ _)) ?_
          | refine ev_s (is_iadd _ rfl rfl) ?_
        refine ev_s (is_aload_n rfl rfl) ?_
        refine ev_s (is_getR rfl (pu_s hC 110 rfl rfl) rfl rfl (pu_r hC 110 14 rfl rfl)) ?_
        refine ev_s (is_iload_n rfl rfl) ?_
        refine ev_s (is_iaload' (s0) rfl (pu_s hC 119 rfl rfl) rfl rfl (by omega) (rz_sort hz (by omega))) ?_
        refine ev_if_ne rfl (fun h_60 => ?_) (fun h_60 => ?_)
        · refine ev_s (is_aload_n rfl rfl) ?_
          refine ev_s (is_getR rfl (pu_s hC 110 rfl rfl) rfl rfl (pu_r hC 110 14 rfl rfl)) ?_
          refine ev_s (is_iload_n rfl rfl) ?_
          refine ev_s (is_iaload' (s0) rfl (pu_s hC 119 rfl rfl) rfl rfl (by omega) (rz_sort hz (by omega))) ?_
          refine ev_s (is_iconst (nI 1) rfl rfl) ?_
          refine ev_icmp_ne rfl (fun h_75 => ?_) (fun h_75 => ?_)
          · refine ev_s (is_iload_n rfl rfl) ?_
            refine ev_s (is_iastore (40 * s0 + i0) rfl (pu_s hC 121 rfl rfl) rfl rfl (by omega)) ?_
            refine ev_s (is_iconst (nI 1) rfl rfl) ?_
            refine ev_ret (is_ireturn rfl rfl (by first | rfl | exact pu_b_nar | decide)) ?_
            rw [show an_cell K (nI s0) (nI i0) = nI 1 by simp [an_cell, h_6, es0, e19, ei0, h_38i], show st_cell K (nI s0) (nI i0) v = ho_set K (20 + s0) i0 (sh_v (K 4 s0) v).toBitVec.toNat by simp [st_cell, h_6, es0, e19, ei0, h_38i]]
            refine ⟨rfl, rfl, rfl, ?_⟩
            have hzc := rz_cel hz (s := s0) (j := i0) (by omega) (by omega) (sh_v (K 4 s0) v)
            have hsv := hzc
            unfold sh_v at hzc
            first
              | (rw [if_pos (hps.2.1.mp (Decidable.of_not_not h_60))] at hzc; unfold sh_v; rw [if_pos (hps.2.1.mp (Decidable.of_not_not h_60))]; exact hzc)
              | (rw [if_neg (fun q => h_60 (hps.2.1.mpr q)), if_pos (hps.2.2.mp (Decidable.of_not_not h_75))] at hzc; unfold sh_v; rw [if_neg (fun q => h_60 (hps.2.1.mpr q)), if_pos (hps.2.2.mp (Decidable.of_not_not h_75))]; exact hzc)
              | (rw [if_neg (fun q => h_60 (hps.2.1.mpr q)), if_neg (fun q => h_75 (hps.2.2.mpr q))] at hzc; unfold sh_v; rw [if_neg (fun q => h_60 (hps.2.1.mpr q)), if_neg (fun q => h_75 (hps.2.2.mpr q))]; exact hzc)
          · refine ev_s (is_iload_n rfl rfl) ?_
            refine ev_s (is_i2s _ rfl rfl) ?_
            refine ev_s (is_goto rfl) ?_
            refine ev_s (is_iastore (40 * s0 + i0) rfl (pu_s hC 121 rfl rfl) rfl rfl (by omega)) ?_
            refine ev_s (is_iconst (nI 1) rfl rfl) ?_
            refine ev_ret (is_ireturn rfl rfl (by first | rfl | exact pu_b_nar | decide)) ?_
            rw [show an_cell K (nI s0) (nI i0) = nI 1 by simp [an_cell, h_6, es0, e19, ei0, h_38i], show st_cell K (nI s0) (nI i0) v = ho_set K (20 + s0) i0 (sh_v (K 4 s0) v).toBitVec.toNat by simp [st_cell, h_6, es0, e19, ei0, h_38i]]
            refine ⟨rfl, rfl, rfl, ?_⟩
            have hzc := rz_cel hz (s := s0) (j := i0) (by omega) (by omega) (sh_v (K 4 s0) v)
            have hsv := hzc
            unfold sh_v at hzc
            first
              | (rw [if_pos (hps.2.1.mp (Decidable.of_not_not h_60))] at hzc; unfold sh_v; rw [if_pos (hps.2.1.mp (Decidable.of_not_not h_60))]; exact hzc)
              | (rw [if_neg (fun q => h_60 (hps.2.1.mpr q)), if_pos (hps.2.2.mp (Decidable.of_not_not h_75))] at hzc; unfold sh_v; rw [if_neg (fun q => h_60 (hps.2.1.mpr q)), if_pos (hps.2.2.mp (Decidable.of_not_not h_75))]; exact hzc)
              | (rw [if_neg (fun q => h_60 (hps.2.1.mpr q)), if_neg (fun q => h_75 (hps.2.2.mpr q))] at hzc; unfold sh_v; rw [if_neg (fun q => h_60 (hps.2.1.mpr q)), if_neg (fun q => h_75 (hps.2.2.mpr q))]; exact hzc)
        · refine ev_s (is_iload_n rfl rfl) ?_
          refine ev_s (is_i2b _ rfl rfl) ?_
          refine ev_s (is_goto rfl) ?_
          refine ev_s (is_iastore (40 * s0 + i0) rfl (pu_s hC 121 rfl rfl) rfl rfl (by omega)) ?_
          refine ev_s (is_iconst (nI 1) rfl rfl) ?_
          refine ev_ret (is_ireturn rfl rfl (by first | rfl | exact pu_b_nar | decide)) ?_
          rw [show an_cell K (nI s0) (nI i0) = nI 1 by simp [an_cell, h_6, es0, e19, ei0, h_38i], show st_cell K (nI s0) (nI i0) v = ho_set K (20 + s0) i0 (sh_v (K 4 s0) v).toBitVec.toNat by simp [st_cell, h_6, es0, e19, ei0, h_38i]]
          refine ⟨rfl, rfl, rfl, ?_⟩
          have hzc := rz_cel hz (s := s0) (j := i0) (by omega) (by omega) (sh_v (K 4 s0) v)
          have hsv := hzc
          unfold sh_v at hzc
          first
            | (rw [if_pos (hps.2.1.mp (Decidable.of_not_not h_60))] at hzc; unfold sh_v; rw [if_pos (hps.2.1.mp (Decidable.of_not_not h_60))]; exact hzc)
            | (rw [if_neg (fun q => h_60 (hps.2.1.mpr q)), if_pos (hps.2.2.mp (Decidable.of_not_not h_75))] at hzc; unfold sh_v; rw [if_neg (fun q => h_60 (hps.2.1.mpr q)), if_pos (hps.2.2.mp (Decidable.of_not_not h_75))]; exact hzc)
            | (rw [if_neg (fun q => h_60 (hps.2.1.mpr q)), if_neg (fun q => h_75 (hps.2.2.mpr q))] at hzc; unfold sh_v; rw [if_neg (fun q => h_60 (hps.2.1.mpr q)), if_neg (fun q => h_75 (hps.2.2.mpr q))]; exact hzc)
      · have h_38i : ¬ ho_inS K s0 i = true := h_38
        refine ev_s (is_bipush ((-12)) rfl rfl) ?_
        refine ev_ret (is_ireturn rfl rfl (by first | rfl | exact pu_b_nar | decide)) ?_
        rw [show an_cell K (nI s0) i = -12 by simp [an_cell, h_6, es0, e19, h_38i], show st_cell K (nI s0) i v = K by simp [st_cell, h_6, es0, e19, h_38i]]
        exact ⟨rfl, rfl, rfl, hz⟩
    · have e19 : K 4 s0 = 0 := hps.1.mp (Decidable.of_not_not h_19)
      refine ev_s (is_bipush ((-11)) rfl rfl) ?_
      refine ev_ret (is_ireturn rfl rfl (by first | rfl | exact pu_b_nar | decide)) ?_
      rw [show an_cell K (nI s0) i = -11 by simp [an_cell, h_6, es0, e19], show st_cell K (nI s0) i v = K by simp [st_cell, h_6, es0, e19]]
      exact ⟨rfl, rfl, rfl, hz⟩
  · refine ev_s (is_bipush ((-2)) rfl rfl) ?_
    refine ev_ret (is_ireturn rfl rfl (by first | rfl | exact pu_b_nar | decide)) ?_
    rw [show an_cell K s i = -2 by simp [an_cell, h_6], show st_cell K s i v = K by simp [st_cell, h_6]]
    exact ⟨rfl, rfl, rfl, hz⟩
