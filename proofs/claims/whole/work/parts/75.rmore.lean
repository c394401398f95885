/-! ===== PURE, the reference: feed, man, day, live ===== -/

/-- the cells beyond a few fields and rows are as before -/
theorem rz_feed {H K : ho_T} {G : ho_G} {m0 mi m2 : im_MI} (h : rz_ H K G m0 mi) {z a b c d e : Nat} (hz : H 0 4 ≤ z) (hz2 : z ≤ 160) (ha : a < 256) (hb : b < 256) (hc : c < 256) (hd : d < 256) (he : e < 256) (g1 : ∀ k, k ≠ 110 → k ≠ 114 → m2 k = mi k) (g2 : ∀ j, j ≠ 6 → m2 110 j = mi 110 j) (g3 : m2 110 6 = nI z) (g4 : ∀ j, j < z → m2 114 j = nI (fd_K H K a b c d e 6 j)) : rz_ (ho_set H 0 4 z) (fd_K H K a b c d e) G m0 m2 := by
  have e1 : ∀ i j, i ≠ 0 → ho_set H 0 4 z i j = H i j := fun i j hi => ho_set_i _ _ _ _ hi _
  have e2 : ∀ j, j ≠ 4 → ho_set H 0 4 z 0 j = H 0 j := fun j hj => ho_set_j _ _ _ _ hj _
  have eK : ∀ i j, i ≠ 6 → fd_K H K a b c d e i j = K i j := fun i j hi => if_neg (fun q => hi q.1)
  obtain ⟨⟨h1, h2, h3, h4, h5, h6, h7, h8, h9⟩, ⟨k1, k2, k3, k4, k5, k6, k7⟩, hs⟩ := h
  have hb2 : ho_bd (ho_set H 0 4 z) := ho_bd_04 h8 hz2
  refine ⟨⟨by rw [g2 0 (by decide), e2 0 (by decide)]; exact h1, by rw [g2 4 (by decide), e2 1 (by decide)]; exact h2, by rw [g2 9 (by decide), e2 2 (by decide)]; exact h3, by rw [g2 10 (by decide), e2 3 (by decide)]; exact h4, fun q hq => by rw [g1 111 (by decide) (by decide), g1 112 (by decide) (by decide), e1 1 q (by decide), e1 2 q (by decide)]; exact h5 q hq, fun q k hq hk => by rw [g1 113 (by decide) (by decide), e1 _ _ (by omega)]; exact h6 q k hq hk, fun t ht => ?_, hb2, fun t ht => ?_⟩, ⟨by rw [g3, ho_set_s], fun j hj => ?_, by rw [g2 11 (by decide), eK _ _ (by decide)]; exact k3, fun q => ?_, fun s hs4 => ?_, fun j hj => by rw [g1 123 (by decide) (by decide)]; exact k6 j hj, ?_⟩, hs.trans (fun k hk => g1 k (fun q => by rw [q] at hk; cases hk) (fun q => by rw [q] at hk; cases hk))⟩
  · rw [e2 2 (by decide)] at ht
    rw [g1 116 (by decide) (by decide), g1 115 (by decide) (by decide)]
    exact h7 t ht
  · rw [e2 2 (by decide)] at ht
    exact h9 t ht
  · rw [ho_set_s] at hj
    exact g4 j hj
  · rw [eK _ _ (by decide)] at q
    rw [g1 118 (by decide) (by decide), g1 117 (by decide) (by decide), eK _ _ (by decide), eK _ _ (by decide), eK _ _ (by decide)]
    obtain ⟨q1, q2, q3, q4⟩ := k4 q
    exact ⟨q1, q2, q3, fun m k hm hk => by rw [eK _ _ (by omega)]; exact q4 m k hm hk⟩
  · rw [g1 119 (by decide) (by decide), g1 120 (by decide) (by decide), g1 121 (by decide) (by decide), eK _ _ (by decide), eK _ _ (by decide)]
    obtain ⟨q1, q2, q3⟩ := k5 s hs4
    exact ⟨q1, q2, fun j hj => by rw [eK _ _ (by omega)]; exact q3 j hj⟩
  · obtain ⟨c1, c2, c3, c4, c5, c6⟩ := k7
    refine ⟨fun s => by rw [eK _ _ (by decide)]; exact c1 s, fun s => by rw [eK _ _ (by decide)]; exact c2 s, fun s j hs4 => by rw [eK _ _ (by omega)]; exact c3 s j hs4, fun j => ?_, by rw [eK _ _ (by decide)]; exact c5, fun q => ?_⟩
    · unfold fd_K
      split
      · unfold fd_b
        repeat' split
        all_goals assumption
      · exact c4 j
    · rw [eK _ _ (by decide)] at q
      obtain ⟨d1, d2, d3, d4, d5, d6, d7, d8⟩ := c6 q
      simp only [eK 0 _ (by decide), e2 0 (by decide), e2 2 (by decide)]
      exact ⟨d1, d2, d3, fun m h hm hh => by rw [eK _ _ (by omega)]; exact d4 m h hm hh, fun m hm => by rw [eK _ _ (by omega)]; exact d5 m hm, fun m hm => by rw [eK _ _ (by omega)]; exact d6 m hm, fun m hm => by rw [eK _ _ (by have := (h8).1; omega)]; exact d7 m hm, fun m o hm ho hq => d8 m o hm ho (by rw [eK _ _ (by have := (h8).1; omega), eK _ _ (by have := (h8).1; omega)] at hq; exact hq)⟩

theorem r_feed {d : Nat} {sh : im_Sh} {mi : im_MI} {mr : im_MR} (hC : pu_C sh mr) {H K : ho_T} {G : ho_G} (hz : rz_ H K G mi mi) (n a b c f e : Int32) : EvM (d + 2) 138 [.ref 110, .int n, .int a, .int b, .int c, .int f, .int e] sh mi mr (fun r sh2 m2 r2 => sh2 = sh ∧ (r = .int (an_feed H n a b c f e) ∧ r2 = mr ∧ rz_ (st_feedH H n a b c f e) (st_feedK H K n a b c f e) G mi m2)) := by
  show Ev (d + 2) 138 0 [.ref 110, .int n, .int a, .int b, .int c, .int f, .int e, im_bad] [] sh mi mr _
  have hn6 := rz_n hz
  refine ev_s (is_iload_n rfl rfl) ?_
  refine ev_s (is_iconst (nI 1) rfl rfl) ?_
  refine ev_s (is_iconst (nI 5) rfl rfl) ?_
  refine ev_c1 (is_call0 3 [_, _, _] [] rfl rfl rfl rfl rfl (Nat.le_of_ble_eq_true rfl) rfl rfl rfl) rfl rfl (r_in' _ _ _) ?_
  refine ev_ifB_eq rfl (fun h_6 => ?_) (fun h_6 => ?_)
  · refine ev_s (is_bipush ((-2)) rfl rfl) ?_
    refine ev_ret (is_ireturn rfl rfl (by first | rfl | exact pu_b_nar | decide)) ?_
    refine ⟨rfl, ?_, rfl, ?_⟩
    · simp [an_feed, fd_ok, h_6]
    · rw [show st_feedH H n a b c f e = H by simp [st_feedH, fd_ok, h_6], show st_feedK H K n a b c f e = K by simp [st_feedK, fd_ok, h_6]]
      exact hz
  · obtain ⟨n0, rfl, ln0, un0, en0⟩ := ho_rng_n h_6 (by decide) (by decide)
    refine ev_s (is_iload_n rfl rfl) ?_
    refine ev_c1 (is_call0 1 [_] [] rfl rfl rfl rfl rfl (Nat.le_of_ble_eq_true rfl) rfl rfl rfl) rfl rfl (r_isByte' _) ?_
    refine ev_ifB_eq rfl (fun h_13 => ?_) (fun h_13 => ?_)
    · refine ev_s (is_bipush ((-2)) rfl rfl) ?_
      refine ev_ret (is_ireturn rfl rfl (by first | rfl | exact pu_b_nar | decide)) ?_
      refine ⟨rfl, ?_, rfl, ?_⟩
      · simp [an_feed, fd_ok, h_6, en0, h_13]
      · rw [show st_feedH H (nI n0) a b c f e = H by simp [st_feedH, fd_ok, h_6, en0, h_13], show st_feedK H K (nI n0) a b c f e = K by simp [st_feedK, fd_ok, h_6, en0, h_13]]
        exact hz
    · obtain ⟨a0, rfl, la0, ua0, ea0⟩ := ho_rng_n h_13 (by decide) (by decide)
      refine ev_s (is_iload_n rfl rfl) ?_
      refine ev_c1 (is_call0 1 [_] [] rfl rfl rfl rfl rfl (Nat.le_of_ble_eq_true rfl) rfl rfl rfl) rfl rfl (r_isByte' _) ?_
      refine ev_ifB_eq rfl (fun h_20 => ?_) (fun h_20 => ?_)
      · refine ev_s (is_bipush ((-2)) rfl rfl) ?_
        refine ev_ret (is_ireturn rfl rfl (by first | rfl | exact pu_b_nar | decide)) ?_
        refine ⟨rfl, ?_, rfl, ?_⟩
        · simp [an_feed, fd_ok, h_6, en0, h_13, ea0, h_20]
        · rw [show st_feedH H (nI n0) (nI a0) b c f e = H by simp [st_feedH, fd_ok, h_6, en0, h_13, ea0, h_20], show st_feedK H K (nI n0) (nI a0) b c f e = K by simp [st_feedK, fd_ok, h_6, en0, h_13, ea0, h_20]]
          exact hz
      · obtain ⟨b0, rfl, lb0, ub0, eb0⟩ := ho_rng_n h_20 (by decide) (by decide)
        refine ev_s (is_iload rfl rfl) ?_
        refine ev_c1 (is_call0 1 [_] [] rfl rfl rfl rfl rfl (Nat.le_of_ble_eq_true rfl) rfl rfl rfl) rfl rfl (r_isByte' _) ?_
        refine ev_ifB_eq rfl (fun h_28 => ?_) (fun h_28 => ?_)
        · refine ev_s (is_bipush ((-2)) rfl rfl) ?_
          refine ev_ret (is_ireturn rfl rfl (by first | rfl | exact pu_b_nar | decide)) ?_
          refine ⟨rfl, ?_, rfl, ?_⟩
          · simp [an_feed, fd_ok, h_6, en0, h_13, ea0, h_20, eb0, h_28]
          · rw [show st_feedH H (nI n0) (nI a0) (nI b0) c f e = H by simp [st_feedH, fd_ok, h_6, en0, h_13, ea0, h_20, eb0, h_28], show st_feedK H K (nI n0) (nI a0) (nI b0) c f e = K by simp [st_feedK, fd_ok, h_6, en0, h_13, ea0, h_20, eb0, h_28]]
            exact hz
        · obtain ⟨c0, rfl, lc0, uc0, ec0⟩ := ho_rng_n h_28 (by decide) (by decide)
          refine ev_s (is_iload rfl rfl) ?_
          refine ev_c1 (is_call0 1 [_] [] rfl rfl rfl rfl rfl (Nat.le_of_ble_eq_true rfl) rfl rfl rfl) rfl rfl (r_isByte' _) ?_
          refine ev_ifB_eq rfl (fun h_36 => ?_) (fun h_36 => ?_)
          · refine ev_s (is_bipush ((-2)) rfl rfl) ?_
            refine ev_ret (is_ireturn rfl rfl (by first | rfl | exact pu_b_nar | decide)) ?_
            refine ⟨rfl, ?_, rfl, ?_⟩
            · simp [an_feed, fd_ok, h_6, en0, h_13, ea0, h_20, eb0, h_28, ec0, h_36]
            · rw [show st_feedH H (nI n0) (nI a0) (nI b0) (nI c0) f e = H by simp [st_feedH, fd_ok, h_6, en0, h_13, ea0, h_20, eb0, h_28, ec0, h_36], show st_feedK H K (nI n0) (nI a0) (nI b0) (nI c0) f e = K by simp [st_feedK, fd_ok, h_6, en0, h_13, ea0, h_20, eb0, h_28, ec0, h_36]]
              exact hz
          · obtain ⟨f0, rfl, lf0, uf0, ef0⟩ := ho_rng_n h_36 (by decide) (by decide)
            refine ev_s (is_iload rfl rfl) ?_
            refine ev_c1 (is_call0 1 [_] [] rfl rfl rfl rfl rfl (Nat.le_of_ble_eq_true rfl) rfl rfl rfl) rfl rfl (r_isByte' _) ?_
            refine ev_ifB_ne rfl (fun h_44 => ?_) (fun h_44 => ?_)
            · obtain ⟨e0, rfl, le0, ue0, ee0⟩ := ho_rng_n h_44 (by decide) (by decide)
              have ht := (rz_bd hz).2.2.2.2.1
              refine ev_s (is_aload_n rfl rfl) ?_
              refine ev_s (is_getI' rfl (pu_s hC 110 rfl rfl) rfl rfl hz.2.1.1) ?_
              refine ev_s (is_iload_n rfl rfl) ?_
              first
                | refine ev_s (is_iadd _ rfl (nI_add _ _)) ?_
                | refine ev_s (is_iadd _ rfl rfl) ?_
              refine ev_s (is_sipush (nI 160) rfl rfl) ?_
              refine ev_icmpN_le rfl (by omega) (by omega) (fun h_59 => ?_) (fun h_59 => ?_)
              · have e59 : ¬ 160 < H 0 4 + n0 := by omega
                refine ev_s (is_iconst (nI 0) rfl rfl) ?_
                refine ev_s (st_istore_7 rfl rfl) ?_
                rw [show an_feed H (nI n0) (nI a0) (nI b0) (nI c0) (nI f0) (nI e0) = nI (H 0 4 + n0) by simp [an_feed, fd_ok, h_6, en0, h_13, ea0, h_20, eb0, h_28, ec0, h_36, ef0, h_44, ee0, e59], show st_feedH H (nI n0) (nI a0) (nI b0) (nI c0) (nI f0) (nI e0) = ho_set H 0 4 (H 0 4 + n0) by simp [st_feedH, fd_ok, h_6, en0, h_13, ea0, h_20, eb0, h_28, ec0, h_36, ef0, h_44, ee0, e59], show st_feedK H K (nI n0) (nI a0) (nI b0) (nI c0) (nI f0) (nI e0) = fd_K H K a0 b0 c0 f0 e0 by simp [st_feedK, fd_ok, h_6, en0, h_13, ea0, h_20, eb0, h_28, ec0, h_36, ef0, h_44, ee0, e59]]
                have loop : ∀ (j i : Nat) (ma : im_MI), i + j = n0 → (∀ k, k ≠ 110 → k ≠ 114 → ma k = mi k) → (∀ j, j ≠ 6 → ma 110 j = mi 110 j) → ma 110 6 = nI (H 0 4 + i) → (∀ j, j < H 0 4 + i → ma 114 j = nI (fd_K H K a0 b0 c0 f0 e0 6 j)) → Ev (d + 2) 138 68 [.ref 110, .int (nI n0), .int (nI a0), .int (nI b0), .int (nI c0), .int (nI f0), .int (nI e0), .int (nI i)] [] sh ma mr (fun r sh2 m2 r2 => sh2 = sh ∧ (r = .int (nI (H 0 4 + n0)) ∧ r2 = mr ∧ rz_ (ho_set H 0 4 (H 0 4 + n0)) ((fd_K H K a0 b0 c0 f0 e0)) G mi m2)) := by
                  intro j
                  induction j with
                  | zero =>
                    intro i ma hi g1 g2 g3 g4
                    refine ev_s (is_iload rfl rfl) ?_
                    refine ev_s (is_iload_n rfl rfl) ?_
                    refine ev_s (is_icmp_ge_t rfl (nI_le (by omega) (by omega))) ?_
                    refine ev_s (is_aload_n rfl rfl) ?_
                    refine ev_s (is_getI' rfl (pu_s hC 110 rfl rfl) rfl rfl g3) ?_
                    refine ev_ret (is_ireturn rfl rfl (by first | rfl | exact pu_b_nar | decide)) ?_
                    have h6 : i = n0 := by omega
                    subst h6
                    exact ⟨rfl, rfl, rfl, rz_feed hz (by omega) (by omega) (by omega) (by omega) (by omega) (by omega) (by omega) g1 g2 g3 g4⟩
                  | succ j ih =>
                    intro i ma hi g1 g2 g3 g4
                    refine ev_s (is_iload rfl rfl) ?_
                    refine ev_s (is_iload_n rfl rfl) ?_
                    refine ev_s (is_icmp_ge_f rfl (nI_ge (by omega) (by omega))) ?_
                    refine ev_s (is_aload_n rfl rfl) ?_
                    refine ev_s (is_getR rfl (pu_s hC 110 rfl rfl) rfl rfl (pu_r hC 110 5 rfl rfl)) ?_
                    refine ev_s (is_aload_n rfl rfl) ?_
                    refine ev_s (is_getI' rfl (pu_s hC 110 rfl rfl) rfl rfl g3) ?_
                    rcases (show i = 0 ∨ i = 1 ∨ i = 2 ∨ i = 3 ∨ i = 4 by omega) with rfl | rfl | rfl | rfl | rfl
                    · refine ev_s (is_iload rfl rfl) ?_
                      refine ev_s (is_if_ne_f rfl (fun q => q rfl)) ?_
                      refine ev_s (is_iload_n rfl rfl) ?_
                      refine ev_s (is_goto rfl) ?_
                      refine ev_s (is_iastore (H 0 4 + 0) rfl (pu_s hC 114 rfl rfl) rfl rfl (by omega)) ?_
                      refine ev_s (is_aload_n rfl rfl) ?_
                      refine ev_s (is_dup rfl rfl) ?_
                      refine ev_s (is_getI' rfl (pu_s hC 110 rfl rfl) rfl rfl ((im_u_k _ _ _ _ (by decide)).trans g3)) ?_
                      refine ev_s (is_iconst (nI 1) rfl rfl) ?_
                      refine ev_s (is_iadd _ rfl (nI_add _ _)) ?_
                      refine ev_s (is_putI rfl (pu_s hC 110 rfl rfl) rfl rfl rfl) ?_
                      refine ev_s (st_iinc_7 _ rfl rfl (nI_inc _)) ?_
                      refine ev_s (is_goto rfl) ?_
                      have hfd : fd_K H K a0 b0 c0 f0 e0 6 (H 0 4 + 0) = a0 := (fd_at (H := H) (K := K) (a := a0) (b := b0) (c := c0) (d := f0) (e := e0) 0 (by omega))
                      refine ih (0 + 1) _ (by omega) (fun q q1 q2 => by rw [im_u_kk _ _ _ _ q1, im_u_kk _ _ _ _ q2]; exact g1 q q1 q2) (fun q hq => by rw [im_u_j _ _ _ _ hq, im_u_k _ _ _ _ (by decide)]; exact g2 q hq) (im_u_s _ _ _ _) (fun q hq => ?_)
                      rw [im_u_k _ _ _ _ (by decide)]
                      by_cases c : q = H 0 4 + 0
                      · rw [c, im_u_s, hfd]
                      · rw [im_u_j _ _ _ _ c]
                        exact g4 q (by omega)
                    · refine ev_s (is_iload rfl rfl) ?_
                      refine ev_s (is_if_ne_t rfl (by decide)) ?_
                      refine ev_s (is_iload rfl rfl) ?_
                      refine ev_s (is_iconst (nI 1) rfl rfl) ?_
                      refine ev_s (is_icmp_ne_f rfl (fun q => q rfl)) ?_
                      refine ev_s (is_iload_n rfl rfl) ?_
                      refine ev_s (is_goto rfl) ?_
                      refine ev_s (is_iastore (H 0 4 + 1) rfl (pu_s hC 114 rfl rfl) rfl rfl (by omega)) ?_
                      refine ev_s (is_aload_n rfl rfl) ?_
                      refine ev_s (is_dup rfl rfl) ?_
                      refine ev_s (is_getI' rfl (pu_s hC 110 rfl rfl) rfl rfl ((im_u_k _ _ _ _ (by decide)).trans g3)) ?_
                      refine ev_s (is_iconst (nI 1) rfl rfl) ?_
                      refine ev_s (is_iadd _ rfl (nI_add _ _)) ?_
                      refine ev_s (is_putI rfl (pu_s hC 110 rfl rfl) rfl rfl rfl) ?_
                      refine ev_s (st_iinc_7 _ rfl rfl (nI_inc _)) ?_
                      refine ev_s (is_goto rfl) ?_
                      have hfd : fd_K H K a0 b0 c0 f0 e0 6 (H 0 4 + 1) = b0 := (fd_at (H := H) (K := K) (a := a0) (b := b0) (c := c0) (d := f0) (e := e0) 1 (by omega))
                      refine ih (1 + 1) _ (by omega) (fun q q1 q2 => by rw [im_u_kk _ _ _ _ q1, im_u_kk _ _ _ _ q2]; exact g1 q q1 q2) (fun q hq => by rw [im_u_j _ _ _ _ hq, im_u_k _ _ _ _ (by decide)]; exact g2 q hq) (im_u_s _ _ _ _) (fun q hq => ?_)
                      rw [im_u_k _ _ _ _ (by decide)]
                      by_cases c : q = H 0 4 + 1
                      · rw [c, im_u_s, hfd]
                      · rw [im_u_j _ _ _ _ c]
                        exact g4 q (by omega)
                    · refine ev_s (is_iload rfl rfl) ?_
                      refine ev_s (is_if_ne_t rfl (by decide)) ?_
                      refine ev_s (is_iload rfl rfl) ?_
                      refine ev_s (is_iconst (nI 1) rfl rfl) ?_
                      refine ev_s (is_icmp_ne_t rfl (by decide)) ?_
                      refine ev_s (is_iload rfl rfl) ?_
                      refine ev_s (is_iconst (nI 2) rfl rfl) ?_
                      refine ev_s (is_icmp_ne_f rfl (fun q => q rfl)) ?_
                      refine ev_s (is_iload rfl rfl) ?_
                      refine ev_s (is_goto rfl) ?_
                      refine ev_s (is_iastore (H 0 4 + 2) rfl (pu_s hC 114 rfl rfl) rfl rfl (by omega)) ?_
                      refine ev_s (is_aload_n rfl rfl) ?_
                      refine ev_s (is_dup rfl rfl) ?_
                      refine ev_s (is_getI' rfl (pu_s hC 110 rfl rfl) rfl rfl ((im_u_k _ _ _ _ (by decide)).trans g3)) ?_
                      refine ev_s (is_iconst (nI 1) rfl rfl) ?_
                      refine ev_s (is_iadd _ rfl (nI_add _ _)) ?_
                      refine ev_s (is_putI rfl (pu_s hC 110 rfl rfl) rfl rfl rfl) ?_
                      refine ev_s (st_iinc_7 _ rfl rfl (nI_inc _)) ?_
                      refine ev_s (is_goto rfl) ?_
                      have hfd : fd_K H K a0 b0 c0 f0 e0 6 (H 0 4 + 2) = c0 := (fd_at (H := H) (K := K) (a := a0) (b := b0) (c := c0) (d := f0) (e := e0) 2 (by omega))
                      refine ih (2 + 1) _ (by omega) (fun q q1 q2 => by rw [im_u_kk _ _ _ _ q1, im_u_kk _ _ _ _ q2]; exact g1 q q1 q2) (fun q hq => by rw [im_u_j _ _ _ _ hq, im_u_k _ _ _ _ (by decide)]; exact g2 q hq) (im_u_s _ _ _ _) (fun q hq => ?_)
                      rw [im_u_k _ _ _ _ (by decide)]
                      by_cases c : q = H 0 4 + 2
                      · rw [c, im_u_s, hfd]
                      · rw [im_u_j _ _ _ _ c]
                        exact g4 q (by omega)
                    · refine ev_s (is_iload rfl rfl) ?_
                      refine ev_s (is_if_ne_t rfl (by decide)) ?_
                      refine ev_s (is_iload rfl rfl) ?_
                      refine ev_s (is_iconst (nI 1) rfl rfl) ?_
                      refine ev_s (is_icmp_ne_t rfl (by decide)) ?_
                      refine ev_s (is_iload rfl rfl) ?_
                      refine ev_s (is_iconst (nI 2) rfl rfl) ?_
                      refine ev_s (is_icmp_ne_t rfl (by decide)) ?_
                      refine ev_s (is_iload rfl rfl) ?_
                      refine ev_s (is_iconst (nI 3) rfl rfl) ?_
                      refine ev_s (is_icmp_ne_f rfl (fun q => q rfl)) ?_
                      refine ev_s (is_iload rfl rfl) ?_
                      refine ev_s (is_goto rfl) ?_
                      refine ev_s (is_iastore (H 0 4 + 3) rfl (pu_s hC 114 rfl rfl) rfl rfl (by omega)) ?_
                      refine ev_s (is_aload_n rfl rfl) ?_
                      refine ev_s (is_dup rfl rfl) ?_
                      refine ev_s (is_getI' rfl (pu_s hC 110 rfl rfl) rfl rfl ((im_u_k _ _ _ _ (by decide)).trans g3)) ?_
                      refine ev_s (is_iconst (nI 1) rfl rfl) ?_
                      refine ev_s (is_iadd _ rfl (nI_add _ _)) ?_
                      refine ev_s (is_putI rfl (pu_s hC 110 rfl rfl) rfl rfl rfl) ?_
                      refine ev_s (st_iinc_7 _ rfl rfl (nI_inc _)) ?_
                      refine ev_s (is_goto rfl) ?_
                      have hfd : fd_K H K a0 b0 c0 f0 e0 6 (H 0 4 + 3) = f0 := (fd_at (H := H) (K := K) (a := a0) (b := b0) (c := c0) (d := f0) (e := e0) 3 (by omega))
                      refine ih (3 + 1) _ (by omega) (fun q q1 q2 => by rw [im_u_kk _ _ _ _ q1, im_u_kk _ _ _ _ q2]; exact g1 q q1 q2) (fun q hq => by rw [im_u_j _ _ _ _ hq, im_u_k _ _ _ _ (by decide)]; exact g2 q hq) (im_u_s _ _ _ _) (fun q hq => ?_)
                      rw [im_u_k _ _ _ _ (by decide)]
                      by_cases c : q = H 0 4 + 3
                      · rw [c, im_u_s, hfd]
                      · rw [im_u_j _ _ _ _ c]
                        exact g4 q (by omega)
                    · refine ev_s (is_iload rfl rfl) ?_
                      refine ev_s (is_if_ne_t rfl (by decide)) ?_
                      refine ev_s (is_iload rfl rfl) ?_
                      refine ev_s (is_iconst (nI 1) rfl rfl) ?_
                      refine ev_s (is_icmp_ne_t rfl (by decide)) ?_
                      refine ev_s (is_iload rfl rfl) ?_
                      refine ev_s (is_iconst (nI 2) rfl rfl) ?_
                      refine ev_s (is_icmp_ne_t rfl (by decide)) ?_
                      refine ev_s (is_iload rfl rfl) ?_
                      refine ev_s (is_iconst (nI 3) rfl rfl) ?_
                      refine ev_s (is_icmp_ne_t rfl (by decide)) ?_
                      refine ev_s (is_iload rfl rfl) ?_
                      refine ev_s (is_iastore (H 0 4 + 4) rfl (pu_s hC 114 rfl rfl) rfl rfl (by omega)) ?_
                      refine ev_s (is_aload_n rfl rfl) ?_
                      refine ev_s (is_dup rfl rfl) ?_
                      refine ev_s (is_getI' rfl (pu_s hC 110 rfl rfl) rfl rfl ((im_u_k _ _ _ _ (by decide)).trans g3)) ?_
                      refine ev_s (is_iconst (nI 1) rfl rfl) ?_
                      refine ev_s (is_iadd _ rfl (nI_add _ _)) ?_
                      refine ev_s (is_putI rfl (pu_s hC 110 rfl rfl) rfl rfl rfl) ?_
                      refine ev_s (st_iinc_7 _ rfl rfl (nI_inc _)) ?_
                      refine ev_s (is_goto rfl) ?_
                      have hfd : fd_K H K a0 b0 c0 f0 e0 6 (H 0 4 + 4) = e0 := (fd_at (H := H) (K := K) (a := a0) (b := b0) (c := c0) (d := f0) (e := e0) 4 (by omega))
                      refine ih (4 + 1) _ (by omega) (fun q q1 q2 => by rw [im_u_kk _ _ _ _ q1, im_u_kk _ _ _ _ q2]; exact g1 q q1 q2) (fun q hq => by rw [im_u_j _ _ _ _ hq, im_u_k _ _ _ _ (by decide)]; exact g2 q hq) (im_u_s _ _ _ _) (fun q hq => ?_)
                      rw [im_u_k _ _ _ _ (by decide)]
                      by_cases c : q = H 0 4 + 4
                      · rw [c, im_u_s, hfd]
                      · rw [im_u_j _ _ _ _ c]
                        exact g4 q (by omega)
                exact loop n0 0 mi (by omega) (fun _ _ _ => rfl) (fun _ _ => rfl) hz.2.1.1 (fun j hj => by rw [show fd_K H K a0 b0 c0 f0 e0 6 j = K 6 j from if_neg (by omega)]; exact hz.2.1.2.1 j (by omega))
              · have e59 : 160 < H 0 4 + n0 := by omega
                refine ev_s (is_bipush ((-4)) rfl rfl) ?_
                refine ev_ret (is_ireturn rfl rfl (by first | rfl | exact pu_b_nar | decide)) ?_
                refine ⟨rfl, ?_, rfl, ?_⟩
                · simp [an_feed, fd_ok, h_6, en0, h_13, ea0, h_20, eb0, h_28, ec0, h_36, ef0, h_44, ee0, e59]
                · rw [show st_feedH H (nI n0) (nI a0) (nI b0) (nI c0) (nI f0) (nI e0) = H by simp [st_feedH, fd_ok, h_6, en0, h_13, ea0, h_20, eb0, h_28, ec0, h_36, ef0, h_44, ee0, e59], show st_feedK H K (nI n0) (nI a0) (nI b0) (nI c0) (nI f0) (nI e0) = K by simp [st_feedK, fd_ok, h_6, en0, h_13, ea0, h_20, eb0, h_28, ec0, h_36, ef0, h_44, ee0, e59]]
                  exact hz
            · refine ev_s (is_bipush ((-2)) rfl rfl) ?_
              refine ev_ret (is_ireturn rfl rfl (by first | rfl | exact pu_b_nar | decide)) ?_
              refine ⟨rfl, ?_, rfl, ?_⟩
              · simp [an_feed, fd_ok, h_6, en0, h_13, ea0, h_20, eb0, h_28, ec0, h_36, ef0, h_44]
              · rw [show st_feedH H (nI n0) (nI a0) (nI b0) (nI c0) (nI f0) e = H by simp [st_feedH, fd_ok, h_6, en0, h_13, ea0, h_20, eb0, h_28, ec0, h_36, ef0, h_44], show st_feedK H K (nI n0) (nI a0) (nI b0) (nI c0) (nI f0) e = K by simp [st_feedK, fd_ok, h_6, en0, h_13, ea0, h_20, eb0, h_28, ec0, h_36, ef0, h_44]]
                exact hz

theorem rz_come {H K : ho_T} {G : ho_G} {m0 mi m2 : im_MI} (h : rz_ H K G m0 mi) {v : Nat} (hn : H 0 0 < 6) (hv : v ≤ 59) (g0 : ∀ k, ¬ (110 ≤ k ∧ k ≤ 113) → m2 k = mi k) (g1 : ∀ j, j ≠ 0 → m2 110 j = mi 110 j) (g2 : m2 110 0 = nI (H 0 0 + 1)) (g3 : ∀ j, m2 111 j = if j = H 0 0 then nI (v / 10) else mi 111 j) (g4 : ∀ j, m2 112 j = if j = H 0 0 then nI (v % 10) else mi 112 j) (g5 : ∀ j, ¬ (14 * H 0 0 ≤ j ∧ j < 14 * H 0 0 + 14) → m2 113 j = mi 113 j) (g6 : ∀ k, k < 14 → m2 113 (14 * H 0 0 + k) = nI (if k = 13 then H 0 0 else 0)) : rz_ (st_come H v) K G m0 m2 := by
  obtain ⟨⟨h1, h2, h3, h4, h5, h6, h7, h8, h9⟩, ⟨k1, k2, k3, k4, k5, k6, k7⟩, hs⟩ := h
  have e0 := fun {j : Nat} (hj : j ≠ 0) => st_come_0 H v hj
  refine ⟨⟨by rw [g2, st_come_00], by rw [g1 4 (by decide), e0 (by decide)]; exact h2, by rw [g1 9 (by decide), e0 (by decide)]; exact h3, by rw [g1 10 (by decide), e0 (by decide)]; exact h4, fun q hq => ?_, fun q k hq hk => ?_, fun t ht => ?_, ho_bd_come h8 hn hv, fun t ht => ?_⟩, rh_H (rh_row ⟨k1, k2, k3, k4, k5, k6, k7⟩ (fun k hk => g0 k (by omega)) (g1 6 (by decide)) (g1 11 (by decide))) (e0 (by decide)) (ho_hb_eq k7 (by rw [st_come_00]; omega) (Nat.le_of_eq (e0 (by decide)).symm)), hs.trans (fun k hk => g0 k (fun q => by have := of_decide_eq_false hk; omega))⟩
  · rw [g3, g4, st_come_1, st_come_2]
    by_cases c : q = H 0 0
    · rw [if_pos c, if_pos c, if_pos c, if_pos c]; exact ⟨rfl, rfl⟩
    · rw [if_neg c, if_neg c, if_neg c, if_neg c]; exact h5 q hq
  · rw [st_come_r]
    by_cases c : q = H 0 0
    · rw [if_pos c, c]; exact g6 k hk
    · rw [if_neg c, g5 _ (by omega)]; exact h6 q k hq hk
  · rw [e0 (by decide)] at ht
    rw [g0 116 (by decide), g0 115 (by decide)]
    exact h7 t ht
  · rw [e0 (by decide)] at ht
    exact h9 t ht

theorem r_man {d : Nat} {sh : im_Sh} {mi : im_MI} {mr : im_MR} (hC : pu_C sh mr) {H K : ho_T} {G : ho_G} (hz : rz_ H K G mi mi) (v : Int32) : EvM (d + 1) 158 [.ref 110, .int v] sh mi mr (fun r sh2 m2 r2 => sh2 = sh ∧ (r = .int (an_man H v) ∧ r2 = mr ∧ rz_ (st_man H v) (K) G mi m2)) := by
  show Ev (d + 1) 158 0 [.ref 110, .int v, im_bad] [] sh mi mr _
  have hn6 := rz_n hz
  refine ev_s (is_iload_n rfl rfl) ?_
  refine ev_s (is_iconst (nI 0) rfl rfl) ?_
  refine ev_s (is_bipush (nI 59) rfl rfl) ?_
  refine ev_c1 (is_call0 3 [_, _, _] [] rfl rfl rfl rfl rfl (Nat.le_of_ble_eq_true rfl) rfl rfl rfl) rfl rfl (r_in' _ _ _) ?_
  refine ev_ifB_ne rfl (fun h_7 => ?_) (fun h_7 => ?_)
  · obtain ⟨v0, rfl, lv0, uv0, ev0⟩ := ho_rng_n h_7 (by decide) (by decide)
    refine ev_s (is_aload_n rfl rfl) ?_
    refine ev_s (is_getI' rfl (pu_s hC 110 rfl rfl) rfl rfl hz.1.1) ?_
    refine ev_s (is_bipush (nI 6) rfl rfl) ?_
    refine ev_icmpN_ne rfl (by omega) (by omega) (fun h_19 => ?_) (fun h_19 => ?_)
    · have hn : H 0 0 < 6 := by omega
      rw [show an_man H (nI v0) = nI (H 0 0) by unfold an_man; rw [if_pos h_7, if_neg (by omega)], show st_man H (nI v0) = st_come H v0 by unfold st_man; rw [if_pos h_7, if_neg (by omega), ev0]]
      have loop : ∀ (j i : Nat) (ma : im_MI), i + j = 14 → (∀ k, k ≠ 113 → ma k = (im_u (im_u mi 111 (H 0 0) (nI (v0 / 10))) 112 (H 0 0) (nI (v0 % 10))) k) → (∀ j, ¬ (14 * H 0 0 ≤ j ∧ j < 14 * H 0 0 + i) → ma 113 j = mi 113 j) → (∀ k, k < i → ma 113 (14 * H 0 0 + k) = nI (if k = 13 then H 0 0 else 0)) → Ev (d + 1) 158 53 [.ref 110, .int (nI v0), .int (nI i)] [] sh ma mr (fun r sh2 m2 r2 => sh2 = sh ∧ (r = .int (nI (H 0 0)) ∧ r2 = mr ∧ rz_ (st_come H v0) (K) G mi m2)) := by
        intro j
        induction j with
        | zero =>
          intro i ma hi g0 g5 g6
          refine ev_s (is_iload_n rfl rfl) ?_
          refine ev_s (is_bipush (nI 14) rfl rfl) ?_
          refine ev_s (is_icmp_ge_t rfl (nI_le (by omega) (by omega))) ?_
          refine ev_s (is_aload_n rfl rfl) ?_
          refine ev_s (is_dup rfl rfl) ?_
          refine ev_s (is_getI' rfl (pu_s hC 110 rfl rfl) rfl rfl (show ma 110 0 = nI (H 0 0) by rw [g0 110 (by decide)]; exact hz.1.1)) ?_
          refine ev_s (is_iconst (nI 1) rfl rfl) ?_
          first
            | refine ev_s (is_iadd _ rfl (nI_add _ _)) ?_
            | refine ev_s (is_iadd _ rfl rfl) ?_
          refine ev_s (is_putI rfl (pu_s hC 110 rfl rfl) rfl rfl rfl) ?_
          refine ev_s (is_aload_n rfl rfl) ?_
          refine ev_s (is_getI' rfl (pu_s hC 110 rfl rfl) rfl rfl (im_u_s _ _ _ _)) ?_
          refine ev_s (is_iconst (nI 1) rfl rfl) ?_
          refine ev_s (is_isub (nI (H 0 0)) rfl (pk_sub (a := H 0 0 + 1) (b := 1) (by omega))) ?_
          refine ev_ret (is_ireturn rfl rfl (by first | rfl | exact pu_b_nar | decide)) ?_
          have h6 : i = 14 := by omega
          subst h6
          refine ⟨rfl, rfl, rfl, rz_come hz hn uv0 (fun k hk => ?_) (fun j hj => ?_) (im_u_s _ _ _ _) (fun j => ?_) (fun j => ?_) (fun j hj => ?_) (fun k hk => ?_)⟩
          · rw [im_u_kk _ _ _ _ (by omega), g0 k (by omega), im_u_kk _ _ _ _ (by omega), im_u_kk _ _ _ _ (by omega)]
          · rw [im_u_j _ _ _ _ hj, g0 110 (by decide), im_u_k _ _ _ _ (by decide), im_u_k _ _ _ _ (by decide)]
          · rw [im_u_k _ _ _ _ (by decide), g0 111 (by decide), im_u_k _ _ _ _ (by decide)]
            by_cases c : j = H 0 0
            · rw [if_pos c, c, im_u_s]
            · rw [if_neg c, im_u_j _ _ _ _ c]
          · rw [im_u_k _ _ _ _ (by decide), g0 112 (by decide)]
            by_cases c : j = H 0 0
            · rw [if_pos c, c, im_u_s]
            · rw [if_neg c, im_u_j _ _ _ _ c, im_u_k _ _ _ _ (by decide)]
          · rw [im_u_k _ _ _ _ (by decide), g5 j hj]
          · rw [im_u_k _ _ _ _ (by decide)]; exact g6 k hk
        | succ j ih =>
          intro i ma hi g0 g5 g6
          refine ev_s (is_iload_n rfl rfl) ?_
          refine ev_s (is_bipush (nI 14) rfl rfl) ?_
          refine ev_s (is_icmp_ge_f rfl (nI_ge (by omega) (by omega))) ?_
          refine ev_s (is_aload_n rfl rfl) ?_
          refine ev_s (is_getR rfl (pu_s hC 110 rfl rfl) rfl rfl (pu_r hC 110 3 rfl rfl)) ?_
          refine ev_s (is_bipush (nI 14) rfl rfl) ?_
          refine ev_s (is_aload_n rfl rfl) ?_
          refine ev_s (is_getI' rfl (pu_s hC 110 rfl rfl) rfl rfl (show ma 110 0 = nI (H 0 0) by rw [g0 110 (by decide)]; exact hz.1.1)) ?_
          first
            | refine ev_s (is_imul _ rfl (pk_mul _ _)) ?_
            | refine ev_s (is_imul _ rfl rfl) ?_
          refine ev_s (is_iload_n rfl rfl) ?_
          first
            | refine ev_s (is_iadd _ rfl (nI_add _ _)) ?_
            | refine ev_s (is_iadd _ rfl rfl) ?_
          refine ev_s (is_iload_n rfl rfl) ?_
          refine ev_s (is_bipush (nI 13) rfl rfl) ?_
          refine ev_icmpN_ne rfl (by omega) (by omega) (fun h_75 => ?_) (fun h_75 => ?_)
          · refine ev_s (is_iconst (nI 0) rfl rfl) ?_
            refine ev_s (is_iastore (14 * H 0 0 + i) rfl (pu_s hC 113 rfl rfl) rfl rfl (by omega)) ?_
            refine ev_s (st_iinc_2 _ rfl rfl (nI_inc _)) ?_
            refine ev_s (is_goto rfl) ?_
            refine ih (i + 1) _ (by omega) (fun k hk => by rw [im_u_kk _ _ _ _ hk]; exact g0 k hk) (fun j hj => by rw [im_u_j _ _ _ _ (by omega)]; exact g5 j (by omega)) (fun k hk => ?_)
            by_cases c : k = i
            · rw [c, im_u_s]
              first
                | rw [if_pos h_75]
                | rw [if_neg h_75]
            · rw [im_u_j _ _ _ _ (by omega)]
              exact g6 k (by omega)
          · refine ev_s (is_aload_n rfl rfl) ?_
            refine ev_s (is_getI' rfl (pu_s hC 110 rfl rfl) rfl rfl (show ma 110 0 = nI (H 0 0) by rw [g0 110 (by decide)]; exact hz.1.1)) ?_
            refine ev_s (is_goto rfl) ?_
            refine ev_s (is_iastore (14 * H 0 0 + i) rfl (pu_s hC 113 rfl rfl) rfl rfl (by omega)) ?_
            refine ev_s (st_iinc_2 _ rfl rfl (nI_inc _)) ?_
            refine ev_s (is_goto rfl) ?_
            refine ih (i + 1) _ (by omega) (fun k hk => by rw [im_u_kk _ _ _ _ hk]; exact g0 k hk) (fun j hj => by rw [im_u_j _ _ _ _ (by omega)]; exact g5 j (by omega)) (fun k hk => ?_)
            by_cases c : k = i
            · rw [c, im_u_s]
              first
                | rw [if_pos h_75]
                | rw [if_neg h_75]
            · rw [im_u_j _ _ _ _ (by omega)]
              exact g6 k (by omega)
      refine ev_s (is_aload_n rfl rfl) ?_
      refine ev_s (is_getR rfl (pu_s hC 110 rfl rfl) rfl rfl (pu_r hC 110 1 rfl rfl)) ?_
      refine ev_s (is_aload_n rfl rfl) ?_
      refine ev_s (is_getI' rfl (pu_s hC 110 rfl rfl) rfl rfl hz.1.1) ?_
      refine ev_s (is_iload_n rfl rfl) ?_
      refine ev_s (is_bipush (nI 10) rfl rfl) ?_
      refine ev_s (is_idiv _ rfl (by decide) (pk_div (by omega) (by decide) (by decide))) ?_
      refine ev_s (is_iastore (H 0 0) rfl (pu_s hC 111 rfl rfl) rfl rfl (by omega)) ?_
      refine ev_s (is_aload_n rfl rfl) ?_
      refine ev_s (is_getR rfl (pu_s hC 110 rfl rfl) rfl rfl (pu_r hC 110 2 rfl rfl)) ?_
      refine ev_s (is_aload_n rfl rfl) ?_
      refine ev_s (is_getI' rfl (pu_s hC 110 rfl rfl) rfl rfl ((im_u_k _ _ _ _ (by decide)).trans hz.1.1)) ?_
      refine ev_s (is_iload_n rfl rfl) ?_
      refine ev_s (is_bipush (nI 10) rfl rfl) ?_
      refine ev_s (is_irem _ rfl (by decide) (pk_rem (by omega) (by decide) (by decide))) ?_
      refine ev_s (is_iastore (H 0 0) rfl (pu_s hC 112 rfl rfl) rfl rfl (by omega)) ?_
      refine ev_s (is_iconst (nI 0) rfl rfl) ?_
      refine ev_s (st_istore_n_2 rfl rfl) ?_
      exact loop 14 0 _ (by omega) (fun _ _ => rfl) (fun j _ => by rw [im_u_k _ _ _ _ (by decide), im_u_k _ _ _ _ (by decide)]) (fun k hk => by omega)
    · refine ev_s (is_bipush ((-4)) rfl rfl) ?_
      refine ev_ret (is_ireturn rfl rfl (by first | rfl | exact pu_b_nar | decide)) ?_
      rw [show an_man H (nI v0) = -4 by unfold an_man; rw [if_pos h_7, if_pos (by omega)], show st_man H (nI v0) = H by unfold st_man; rw [if_pos h_7, if_pos (by omega)]]
      exact ⟨rfl, rfl, rfl, hz⟩
  · refine ev_s (is_bipush ((-2)) rfl rfl) ?_
    refine ev_ret (is_ireturn rfl rfl (by first | rfl | exact pu_b_nar | decide)) ?_
    rw [show an_man H v = -2 from if_neg h_7, show st_man H v = H from if_neg h_7]
    exact ⟨rfl, rfl, rfl, hz⟩

theorem r_dayc {d : Nat} {sh : im_Sh} {mi : im_MI} {mr : im_MR} (hC : pu_C sh mr) {H K : ho_T} {G : ho_G} (hz : rz_ H K G mi mi) (m w : Int32) : EvM (d + 6) 168 [.ref 110, .int m, .int w] sh mi mr (fun r sh2 m2 r2 => sh2 = sh ∧ (r = .int (an_day H G m w) ∧ r2 = mr ∧ rz_ (H) (K) G mi m2)) := by
  show Ev (d + 6) 168 0 [.ref 110, .int m, .int w, im_bad, im_bad, im_bad, im_bad, im_bad] [] sh mi mr _
  have hn6 := rz_n hz
  refine ev_s (is_aload_n rfl rfl) ?_
  refine ev_s (is_iload_n rfl rfl) ?_
  refine ev_c1 (is_callR 2 [_] [] rfl rfl rfl rfl rfl (Nat.le_of_ble_eq_true rfl) rfl rfl rfl (pu_s hC 110 rfl rfl)) rfl rfl (r_isMan' hC hz.1 _) ?_
  refine ev_ifB_ne rfl (fun h_5 => ?_) (fun h_5 => ?_)
  · obtain ⟨m0, rfl, hm0, em0⟩ := ho_isM_n hn6 h_5
    refine ev_s (is_iload_n rfl rfl) ?_
    refine ev_s (is_iconst (nI 0) rfl rfl) ?_
    refine ev_s (is_iconst (nI 3) rfl rfl) ?_
    refine ev_c1 (is_call0 3 [_, _, _] [] rfl rfl rfl rfl rfl (Nat.le_of_ble_eq_true rfl) rfl rfl rfl) rfl rfl (r_in' _ _ _) ?_
    refine ev_ifB_ne rfl (fun h_17 => ?_) (fun h_17 => ?_)
    · obtain ⟨w0, ew, lw0, uw0, ew0⟩ := ho_rng_n h_17 (by decide) (by decide)
      have ea : an_day H G (nI m0) w = (if w = nI 0 then nI (ho_day H G m0) else if w = nI 1 then nI (lo_one (fun h => decide (0 < ho_comp H G m0 h)) 12) else if w = nI 2 then pu_o (lo_find (fun h => decide (0 < ho_comp H G m0 h)) 12 0) else nI (lo_max (fun h => ho_comp H G m0 h) 12)) := by
        unfold an_day
        rw [if_pos h_5, em0]
        by_cases c3 : w = nI 3
        · rw [c3]; rfl
        · by_cases c0 : w = nI 0
          · rw [if_pos c0, if_pos c0]
          · by_cases c1 : w = nI 1
            · rw [if_neg c0, if_neg c0, if_pos c1, if_pos c1]
            · by_cases c2 : w = nI 2
              · rw [if_neg c0, if_neg c0, if_neg c1, if_neg c1, if_pos c2, if_pos c2]
              · exfalso
                rcases (show w0 = 0 ∨ w0 = 1 ∨ w0 = 2 ∨ w0 = 3 by omega) with q | q | q | q <;> rw [q] at ew <;> contradiction
      rw [ea]
      have loop : ∀ (j i : Nat) (w7 : Value) (ma : im_MI), i + j = 12 → rz_ H K G mi ma → Ev (d + 6) 168 34 [.ref 110, .int (nI m0), .int w, .int (nI (lo_one (fun h => decide (0 < ho_comp H G m0 h)) i)), .int (pu_o (lo_find (fun h => decide (0 < ho_comp H G m0 h)) i 0)), .int (nI (lo_max (fun h => ho_comp H G m0 h) i)), .int (nI i), w7] [] sh ma mr (fun r sh2 m2 r2 => sh2 = sh ∧ (r = .int (if w = nI 0 then nI (ho_day H G m0) else if w = nI 1 then nI (lo_one (fun h => decide (0 < ho_comp H G m0 h)) 12) else if w = nI 2 then pu_o (lo_find (fun h => decide (0 < ho_comp H G m0 h)) 12 0) else nI (lo_max (fun h => ho_comp H G m0 h) 12)) ∧ r2 = mr ∧ rz_ (H) (K) G mi m2)) := by
        intro j
        induction j with
        | zero =>
          intro i w7 ma hi hz
          refine ev_s (is_iload rfl rfl) ?_
          refine ev_s (is_bipush (nI 12) rfl rfl) ?_
          refine ev_s (is_icmp_ge_t rfl (nI_le (by omega) (by omega))) ?_
          refine ev_s (is_iload_n rfl rfl) ?_
          refine ev_if_ne rfl (fun h_106 => ?_) (fun h_106 => ?_)
          · refine ev_s (is_iload_n rfl rfl) ?_
            refine ev_s (is_iconst (nI 1) rfl rfl) ?_
            refine ev_icmp_ne rfl (fun h_119 => ?_) (fun h_119 => ?_)
            · refine ev_s (is_iload_n rfl rfl) ?_
              refine ev_s (is_iconst (nI 2) rfl rfl) ?_
              refine ev_icmp_ne rfl (fun h_128 => ?_) (fun h_128 => ?_)
              · refine ev_s (is_iload rfl rfl) ?_
                refine ev_ret (is_ireturn rfl rfl (by first | rfl | exact pu_b_nar | decide)) ?_
                have h12 : i = 12 := by omega
                subst h12
                refine ⟨rfl, ?_, rfl, hz⟩
                first
                  | rw [if_pos (show w = nI 0 from h_106)]
                  | rw [if_neg (show ¬ w = nI 0 from h_106), if_pos h_119]
                  | rw [if_neg (show ¬ w = nI 0 from h_106), if_neg h_119, if_pos h_128]
                  | rw [if_neg (show ¬ w = nI 0 from h_106), if_neg h_119, if_neg h_128]
              · have h_128 := Decidable.of_not_not h_128
                refine ev_s (is_iload rfl rfl) ?_
                refine ev_s (is_goto rfl) ?_
                refine ev_ret (is_ireturn rfl rfl (by first | rfl | exact pu_b_nar | decide)) ?_
                have h12 : i = 12 := by omega
                subst h12
                refine ⟨rfl, ?_, rfl, hz⟩
                first
                  | rw [if_pos (show w = nI 0 from h_106)]
                  | rw [if_neg (show ¬ w = nI 0 from h_106), if_pos h_119]
                  | rw [if_neg (show ¬ w = nI 0 from h_106), if_neg h_119, if_pos h_128]
                  | rw [if_neg (show ¬ w = nI 0 from h_106), if_neg h_119, if_neg h_128]
            · have h_119 := Decidable.of_not_not h_119
              refine ev_s (is_iload_n rfl rfl) ?_
              refine ev_s (is_goto rfl) ?_
              refine ev_ret (is_ireturn rfl rfl (by first | rfl | exact pu_b_nar | decide)) ?_
              have h12 : i = 12 := by omega
              subst h12
              refine ⟨rfl, ?_, rfl, hz⟩
              first
                | rw [if_pos (show w = nI 0 from h_106)]
                | rw [if_neg (show ¬ w = nI 0 from h_106), if_pos h_119]
                | rw [if_neg (show ¬ w = nI 0 from h_106), if_neg h_119, if_pos h_128]
                | rw [if_neg (show ¬ w = nI 0 from h_106), if_neg h_119, if_neg h_128]
          · have h_106 := Decidable.of_not_not h_106
            refine ev_s (is_aload_n rfl rfl) ?_
            refine ev_s (is_iload_n rfl rfl) ?_
            refine ev_q1 (is_callR 2 [_] [] rfl rfl rfl rfl rfl (Nat.le_of_ble_eq_true rfl) rfl rfl rfl (pu_s hC 110 rfl rfl)) rfl rfl (r_dayOf hC hz.1 (m := m0) (by omega)) (fun r_111 mi mr hq_111 => ?_)
            obtain ⟨rfl, hmr, hsc⟩ := hq_111
            have hmr := hmr.symm
            subst hmr
            have hz := rz_sS hz hsc
            refine ev_s (is_goto rfl) ?_
            refine ev_ret (is_ireturn rfl rfl (by first | rfl | exact pu_b_nar | decide)) ?_
            have h12 : i = 12 := by omega
            subst h12
            refine ⟨rfl, ?_, rfl, hz⟩
            first
              | rw [if_pos (show w = nI 0 from h_106)]
              | rw [if_neg (show ¬ w = nI 0 from h_106), if_pos h_119]
              | rw [if_neg (show ¬ w = nI 0 from h_106), if_neg h_119, if_pos h_128]
              | rw [if_neg (show ¬ w = nI 0 from h_106), if_neg h_119, if_neg h_128]
        | succ j ih =>
          intro i w7 ma hi hz
          refine ev_s (is_iload rfl rfl) ?_
          refine ev_s (is_bipush (nI 12) rfl rfl) ?_
          refine ev_s (is_icmp_ge_f rfl (nI_ge (by omega) (by omega))) ?_
          refine ev_s (is_aload_n rfl rfl) ?_
          refine ev_s (is_iload_n rfl rfl) ?_
          refine ev_s (is_iload rfl rfl) ?_
          refine ev_q1 (is_callR 3 [_, _] [] rfl rfl rfl rfl rfl (Nat.le_of_ble_eq_true rfl) rfl rfl rfl (pu_s hC 110 rfl rfl)) rfl rfl (r_companyOf hC hz.1 (m := m0) (h := i) (by omega) (by omega)) (fun r_45 mi mr hq_45 => ?_)
          obtain ⟨rfl, hmr, hsc⟩ := hq_45
          have hmr := hmr.symm
          subst hmr
          have hz := rz_sS hz hsc
          have hcl := ho_comp_le H G (rz_bd hz) m0 i
          refine ev_s (st_istore_7 rfl rfl) ?_
          refine ev_s (is_iload_n rfl rfl) ?_
          refine ev_s (is_iload rfl rfl) ?_
          refine ev_ifN_le rfl (by omega) (fun h_53 => ?_) (fun h_53 => ?_)
          · refine ev_s (is_iconst (nI 0) rfl rfl) ?_
            first
              | refine ev_s (is_iadd _ rfl (nI_add _ _)) ?_
              | refine ev_s (is_iadd _ rfl rfl) ?_
            refine ev_s (st_istore_n_3 rfl rfl) ?_
            refine ev_s (is_iload rfl rfl) ?_
            refine ev_ifN_le rfl (by omega) (fun h_65 => ?_) (fun h_65 => ?_)
            · have hfi : lo_find (fun h => decide (0 < ho_comp H G m0 h)) (i + 1) 0 = lo_find (fun h => decide (0 < ho_comp H G m0 h)) i 0 := by
                rw [lo_find_s, Nat.zero_add]
                have hp : decide (0 < ho_comp H G m0 i) = false := decide_eq_false (by omega)
                rw [hp]
                cases lo_find (fun h => decide (0 < ho_comp H G m0 h)) i 0 <;> rfl
              refine ev_s (is_iload rfl rfl) ?_
              refine ev_s (st_istore_4 rfl rfl) ?_
              refine ev_s (is_iload rfl rfl) ?_
              have hml : lo_max (fun h => ho_comp H G m0 h) i ≤ 109 := lo_max_le i (fun q _ => ho_comp_le H G (rz_bd hz) m0 q)
              refine ev_s (is_iload rfl rfl) ?_
              refine ev_icmpN_le rfl (by omega) (by omega) (fun h_87 => ?_) (fun h_87 => ?_)
              · refine ev_s (is_iload rfl rfl) ?_
                refine ev_s (st_istore_5 rfl rfl) ?_
                refine ev_s (st_iinc_6 _ rfl rfl (nI_inc _)) ?_
                refine ev_s (is_goto rfl) ?_
                first
                  | (exfalso; omega)
                  | (have := ih (i + 1) (.int (nI (ho_comp H G m0 i))) _ (by omega) hz
                     rw [lo_one_s, lo_max, hfi] at this
                     first
                       | rw [if_pos (show decide (0 < ho_comp H G m0 i) = true from decide_eq_true h_53)] at this
                       | rw [if_neg (show ¬ decide (0 < ho_comp H G m0 i) = true from fun q => absurd (of_decide_eq_true q) (by omega))] at this
                     first
                       | rw [if_pos (show lo_max (fun h => ho_comp H G m0 h) i < ho_comp H G m0 i by omega)] at this
                       | rw [if_neg (show ¬ lo_max (fun h => ho_comp H G m0 h) i < ho_comp H G m0 i by omega)] at this
                     exact this)
              · refine ev_s (is_iload rfl rfl) ?_
                refine ev_s (is_goto rfl) ?_
                refine ev_s (st_istore_5 rfl rfl) ?_
                refine ev_s (st_iinc_6 _ rfl rfl (nI_inc _)) ?_
                refine ev_s (is_goto rfl) ?_
                first
                  | (exfalso; omega)
                  | (have := ih (i + 1) (.int (nI (ho_comp H G m0 i))) _ (by omega) hz
                     rw [lo_one_s, lo_max, hfi] at this
                     first
                       | rw [if_pos (show decide (0 < ho_comp H G m0 i) = true from decide_eq_true h_53)] at this
                       | rw [if_neg (show ¬ decide (0 < ho_comp H G m0 i) = true from fun q => absurd (of_decide_eq_true q) (by omega))] at this
                     first
                       | rw [if_pos (show lo_max (fun h => ho_comp H G m0 h) i < ho_comp H G m0 i by omega)] at this
                       | rw [if_neg (show ¬ lo_max (fun h => ho_comp H G m0 h) i < ho_comp H G m0 i by omega)] at this
                     exact this)
            · refine ev_s (is_iload rfl rfl) ?_
              refine ev_s (is_iconst ((-1)) rfl rfl) ?_
              have hfl : ∀ k, lo_find (fun h => decide (0 < ho_comp H G m0 h)) i 0 = some k → k < 2 ^ 31 := fun k hk => by have := (lo_find_lt hk).1; omega
              refine ev_icmp_ne rfl (fun h_71 => ?_) (fun h_71 => ?_)
              · have hfi : lo_find (fun h => decide (0 < ho_comp H G m0 h)) (i + 1) 0 = lo_find (fun h => decide (0 < ho_comp H G m0 h)) i 0 := by
                  rw [lo_find_s, Nat.zero_add]
                  cases e : lo_find (fun h => decide (0 < ho_comp H G m0 h)) i 0 with
                  | some k => rfl
                  | none => exact absurd (show pu_o (lo_find (fun h => decide (0 < ho_comp H G m0 h)) i 0) = -1 by rw [e]; rfl) h_71
                refine ev_s (is_iload rfl rfl) ?_
                refine ev_s (st_istore_4 rfl rfl) ?_
                refine ev_s (is_iload rfl rfl) ?_
                have hml : lo_max (fun h => ho_comp H G m0 h) i ≤ 109 := lo_max_le i (fun q _ => ho_comp_le H G (rz_bd hz) m0 q)
                refine ev_s (is_iload rfl rfl) ?_
                refine ev_icmpN_le rfl (by omega) (by omega) (fun h_87 => ?_) (fun h_87 => ?_)
                · refine ev_s (is_iload rfl rfl) ?_
                  refine ev_s (st_istore_5 rfl rfl) ?_
                  refine ev_s (st_iinc_6 _ rfl rfl (nI_inc _)) ?_
                  refine ev_s (is_goto rfl) ?_
                  first
                    | (exfalso; omega)
                    | (have := ih (i + 1) (.int (nI (ho_comp H G m0 i))) _ (by omega) hz
                       rw [lo_one_s, lo_max, hfi] at this
                       first
                         | rw [if_pos (show decide (0 < ho_comp H G m0 i) = true from decide_eq_true h_53)] at this
                         | rw [if_neg (show ¬ decide (0 < ho_comp H G m0 i) = true from fun q => absurd (of_decide_eq_true q) (by omega))] at this
                       first
                         | rw [if_pos (show lo_max (fun h => ho_comp H G m0 h) i < ho_comp H G m0 i by omega)] at this
                         | rw [if_neg (show ¬ lo_max (fun h => ho_comp H G m0 h) i < ho_comp H G m0 i by omega)] at this
                       exact this)
                · refine ev_s (is_iload rfl rfl) ?_
                  refine ev_s (is_goto rfl) ?_
                  refine ev_s (st_istore_5 rfl rfl) ?_
                  refine ev_s (st_iinc_6 _ rfl rfl (nI_inc _)) ?_
                  refine ev_s (is_goto rfl) ?_
                  first
                    | (exfalso; omega)
                    | (have := ih (i + 1) (.int (nI (ho_comp H G m0 i))) _ (by omega) hz
                       rw [lo_one_s, lo_max, hfi] at this
                       first
                         | rw [if_pos (show decide (0 < ho_comp H G m0 i) = true from decide_eq_true h_53)] at this
                         | rw [if_neg (show ¬ decide (0 < ho_comp H G m0 i) = true from fun q => absurd (of_decide_eq_true q) (by omega))] at this
                       first
                         | rw [if_pos (show lo_max (fun h => ho_comp H G m0 h) i < ho_comp H G m0 i by omega)] at this
                         | rw [if_neg (show ¬ lo_max (fun h => ho_comp H G m0 h) i < ho_comp H G m0 i by omega)] at this
                       exact this)
              · have hfi : lo_find (fun h => decide (0 < ho_comp H G m0 h)) (i + 1) 0 = some i := by
                  rw [lo_find_s, Nat.zero_add]
                  have hp : decide (0 < ho_comp H G m0 i) = true := decide_eq_true (by omega)
                  have e : lo_find (fun h => decide (0 < ho_comp H G m0 h)) i 0 = none := (pu_o_none _ hfl).mp (Decidable.of_not_not h_71)
                  rw [hp, e]; rfl
                refine ev_s (is_iload rfl rfl) ?_
                refine ev_s (is_goto rfl) ?_
                refine ev_s (st_istore_4 rfl rfl) ?_
                refine ev_s (is_iload rfl rfl) ?_
                have hml : lo_max (fun h => ho_comp H G m0 h) i ≤ 109 := lo_max_le i (fun q _ => ho_comp_le H G (rz_bd hz) m0 q)
                refine ev_s (is_iload rfl rfl) ?_
                refine ev_icmpN_le rfl (by omega) (by omega) (fun h_87 => ?_) (fun h_87 => ?_)
                · refine ev_s (is_iload rfl rfl) ?_
                  refine ev_s (st_istore_5 rfl rfl) ?_
                  refine ev_s (st_iinc_6 _ rfl rfl (nI_inc _)) ?_
                  refine ev_s (is_goto rfl) ?_
                  first
                    | (exfalso; omega)
                    | (have := ih (i + 1) (.int (nI (ho_comp H G m0 i))) _ (by omega) hz
                       rw [lo_one_s, lo_max, hfi] at this
                       first
                         | rw [if_pos (show decide (0 < ho_comp H G m0 i) = true from decide_eq_true h_53)] at this
                         | rw [if_neg (show ¬ decide (0 < ho_comp H G m0 i) = true from fun q => absurd (of_decide_eq_true q) (by omega))] at this
                       first
                         | rw [if_pos (show lo_max (fun h => ho_comp H G m0 h) i < ho_comp H G m0 i by omega)] at this
                         | rw [if_neg (show ¬ lo_max (fun h => ho_comp H G m0 h) i < ho_comp H G m0 i by omega)] at this
                       exact this)
                · refine ev_s (is_iload rfl rfl) ?_
                  refine ev_s (is_goto rfl) ?_
                  refine ev_s (st_istore_5 rfl rfl) ?_
                  refine ev_s (st_iinc_6 _ rfl rfl (nI_inc _)) ?_
                  refine ev_s (is_goto rfl) ?_
                  first
                    | (exfalso; omega)
                    | (have := ih (i + 1) (.int (nI (ho_comp H G m0 i))) _ (by omega) hz
                       rw [lo_one_s, lo_max, hfi] at this
                       first
                         | rw [if_pos (show decide (0 < ho_comp H G m0 i) = true from decide_eq_true h_53)] at this
                         | rw [if_neg (show ¬ decide (0 < ho_comp H G m0 i) = true from fun q => absurd (of_decide_eq_true q) (by omega))] at this
                       first
                         | rw [if_pos (show lo_max (fun h => ho_comp H G m0 h) i < ho_comp H G m0 i by omega)] at this
                         | rw [if_neg (show ¬ lo_max (fun h => ho_comp H G m0 h) i < ho_comp H G m0 i by omega)] at this
                       exact this)
          · refine ev_s (is_iconst (nI 1) rfl rfl) ?_
            refine ev_s (is_goto rfl) ?_
            first
              | refine ev_s (is_iadd _ rfl (nI_add _ _)) ?_
              | refine ev_s (is_iadd _ rfl rfl) ?_
            refine ev_s (st_istore_n_3 rfl rfl) ?_
            refine ev_s (is_iload rfl rfl) ?_
            refine ev_ifN_le rfl (by omega) (fun h_65 => ?_) (fun h_65 => ?_)
            · have hfi : lo_find (fun h => decide (0 < ho_comp H G m0 h)) (i + 1) 0 = lo_find (fun h => decide (0 < ho_comp H G m0 h)) i 0 := by
                rw [lo_find_s, Nat.zero_add]
                have hp : decide (0 < ho_comp H G m0 i) = false := decide_eq_false (by omega)
                rw [hp]
                cases lo_find (fun h => decide (0 < ho_comp H G m0 h)) i 0 <;> rfl
              refine ev_s (is_iload rfl rfl) ?_
              refine ev_s (st_istore_4 rfl rfl) ?_
              refine ev_s (is_iload rfl rfl) ?_
              have hml : lo_max (fun h => ho_comp H G m0 h) i ≤ 109 := lo_max_le i (fun q _ => ho_comp_le H G (rz_bd hz) m0 q)
              refine ev_s (is_iload rfl rfl) ?_
              refine ev_icmpN_le rfl (by omega) (by omega) (fun h_87 => ?_) (fun h_87 => ?_)
              · refine ev_s (is_iload rfl rfl) ?_
                refine ev_s (st_istore_5 rfl rfl) ?_
                refine ev_s (st_iinc_6 _ rfl rfl (nI_inc _)) ?_
                refine ev_s (is_goto rfl) ?_
                first
                  | (exfalso; omega)
                  | (have := ih (i + 1) (.int (nI (ho_comp H G m0 i))) _ (by omega) hz
                     rw [lo_one_s, lo_max, hfi] at this
                     first
                       | rw [if_pos (show decide (0 < ho_comp H G m0 i) = true from decide_eq_true h_53)] at this
                       | rw [if_neg (show ¬ decide (0 < ho_comp H G m0 i) = true from fun q => absurd (of_decide_eq_true q) (by omega))] at this
                     first
                       | rw [if_pos (show lo_max (fun h => ho_comp H G m0 h) i < ho_comp H G m0 i by omega)] at this
                       | rw [if_neg (show ¬ lo_max (fun h => ho_comp H G m0 h) i < ho_comp H G m0 i by omega)] at this
                     exact this)
              · refine ev_s (is_iload rfl rfl) ?_
                refine ev_s (is_goto rfl) ?_
                refine ev_s (st_istore_5 rfl rfl) ?_
                refine ev_s (st_iinc_6 _ rfl rfl (nI_inc _)) ?_
                refine ev_s (is_goto rfl) ?_
                first
                  | (exfalso; omega)
                  | (have := ih (i + 1) (.int (nI (ho_comp H G m0 i))) _ (by omega) hz
                     rw [lo_one_s, lo_max, hfi] at this
                     first
                       | rw [if_pos (show decide (0 < ho_comp H G m0 i) = true from decide_eq_true h_53)] at this
                       | rw [if_neg (show ¬ decide (0 < ho_comp H G m0 i) = true from fun q => absurd (of_decide_eq_true q) (by omega))] at this
                     first
                       | rw [if_pos (show lo_max (fun h => ho_comp H G m0 h) i < ho_comp H G m0 i by omega)] at this
                       | rw [if_neg (show ¬ lo_max (fun h => ho_comp H G m0 h) i < ho_comp H G m0 i by omega)] at this
                     exact this)
            · refine ev_s (is_iload rfl rfl) ?_
              refine ev_s (is_iconst ((-1)) rfl rfl) ?_
              have hfl : ∀ k, lo_find (fun h => decide (0 < ho_comp H G m0 h)) i 0 = some k → k < 2 ^ 31 := fun k hk => by have := (lo_find_lt hk).1; omega
              refine ev_icmp_ne rfl (fun h_71 => ?_) (fun h_71 => ?_)
              · have hfi : lo_find (fun h => decide (0 < ho_comp H G m0 h)) (i + 1) 0 = lo_find (fun h => decide (0 < ho_comp H G m0 h)) i 0 := by
                  rw [lo_find_s, Nat.zero_add]
                  cases e : lo_find (fun h => decide (0 < ho_comp H G m0 h)) i 0 with
                  | some k => rfl
                  | none => exact absurd (show pu_o (lo_find (fun h => decide (0 < ho_comp H G m0 h)) i 0) = -1 by rw [e]; rfl) h_71
                refine ev_s (is_iload rfl rfl) ?_
                refine ev_s (st_istore_4 rfl rfl) ?_
                refine ev_s (is_iload rfl rfl) ?_
                have hml : lo_max (fun h => ho_comp H G m0 h) i ≤ 109 := lo_max_le i (fun q _ => ho_comp_le H G (rz_bd hz) m0 q)
                refine ev_s (is_iload rfl rfl) ?_
                refine ev_icmpN_le rfl (by omega) (by omega) (fun h_87 => ?_) (fun h_87 => ?_)
                · refine ev_s (is_iload rfl rfl) ?_
                  refine ev_s (st_istore_5 rfl rfl) ?_
                  refine ev_s (st_iinc_6 _ rfl rfl (nI_inc _)) ?_
                  refine ev_s (is_goto rfl) ?_
                  first
                    | (exfalso; omega)
                    | (have := ih (i + 1) (.int (nI (ho_comp H G m0 i))) _ (by omega) hz
                       rw [lo_one_s, lo_max, hfi] at this
                       first
                         | rw [if_pos (show decide (0 < ho_comp H G m0 i) = true from decide_eq_true h_53)] at this
                         | rw [if_neg (show ¬ decide (0 < ho_comp H G m0 i) = true from fun q => absurd (of_decide_eq_true q) (by omega))] at this
                       first
                         | rw [if_pos (show lo_max (fun h => ho_comp H G m0 h) i < ho_comp H G m0 i by omega)] at this
                         | rw [if_neg (show ¬ lo_max (fun h => ho_comp H G m0 h) i < ho_comp H G m0 i by omega)] at this
                       exact this)
                · refine ev_s (is_iload rfl rfl) ?_
                  refine ev_s (is_goto rfl) ?_
                  refine ev_s (st_istore_5 rfl rfl) ?_
                  refine ev_s (st_iinc_6 _ rfl rfl (nI_inc _)) ?_
                  refine ev_s (is_goto rfl) ?_
                  first
                    | (exfalso; omega)
                    | (have := ih (i + 1) (.int (nI (ho_comp H G m0 i))) _ (by omega) hz
                       rw [lo_one_s, lo_max, hfi] at this
                       first
                         | rw [if_pos (show decide (0 < ho_comp H G m0 i) = true from decide_eq_true h_53)] at this
                         | rw [if_neg (show ¬ decide (0 < ho_comp H G m0 i) = true from fun q => absurd (of_decide_eq_true q) (by omega))] at this
                       first
                         | rw [if_pos (show lo_max (fun h => ho_comp H G m0 h) i < ho_comp H G m0 i by omega)] at this
                         | rw [if_neg (show ¬ lo_max (fun h => ho_comp H G m0 h) i < ho_comp H G m0 i by omega)] at this
                       exact this)
              · have hfi : lo_find (fun h => decide (0 < ho_comp H G m0 h)) (i + 1) 0 = some i := by
                  rw [lo_find_s, Nat.zero_add]
                  have hp : decide (0 < ho_comp H G m0 i) = true := decide_eq_true (by omega)
                  have e : lo_find (fun h => decide (0 < ho_comp H G m0 h)) i 0 = none := (pu_o_none _ hfl).mp (Decidable.of_not_not h_71)
                  rw [hp, e]; rfl
                refine ev_s (is_iload rfl rfl) ?_
                refine ev_s (is_goto rfl) ?_
                refine ev_s (st_istore_4 rfl rfl) ?_
                refine ev_s (is_iload rfl rfl) ?_
                have hml : lo_max (fun h => ho_comp H G m0 h) i ≤ 109 := lo_max_le i (fun q _ => ho_comp_le H G (rz_bd hz) m0 q)
                refine ev_s (is_iload rfl rfl) ?_
                refine ev_icmpN_le rfl (by omega) (by omega) (fun h_87 => ?_) (fun h_87 => ?_)
                · refine ev_s (is_iload rfl rfl) ?_
                  refine ev_s (st_istore_5 rfl rfl) ?_
                  refine ev_s (st_iinc_6 _ rfl rfl (nI_inc _)) ?_
                  refine ev_s (is_goto rfl) ?_
                  first
                    | (exfalso; omega)
                    | (have := ih (i + 1) (.int (nI (ho_comp H G m0 i))) _ (by omega) hz
                       rw [lo_one_s, lo_max, hfi] at this
                       first
                         | rw [if_pos (show decide (0 < ho_comp H G m0 i) = true from decide_eq_true h_53)] at this
                         | rw [if_neg (show ¬ decide (0 < ho_comp H G m0 i) = true from fun q => absurd (of_decide_eq_true q) (by omega))] at this
                       first
                         | rw [if_pos (show lo_max (fun h => ho_comp H G m0 h) i < ho_comp H G m0 i by omega)] at this
                         | rw [if_neg (show ¬ lo_max (fun h => ho_comp H G m0 h) i < ho_comp H G m0 i by omega)] at this
                       exact this)
                · refine ev_s (is_iload rfl rfl) ?_
                  refine ev_s (is_goto rfl) ?_
                  refine ev_s (st_istore_5 rfl rfl) ?_
                  refine ev_s (st_iinc_6 _ rfl rfl (nI_inc _)) ?_
                  refine ev_s (is_goto rfl) ?_
                  first
                    | (exfalso; omega)
                    | (have := ih (i + 1) (.int (nI (ho_comp H G m0 i))) _ (by omega) hz
                       rw [lo_one_s, lo_max, hfi] at this
                       first
                         | rw [if_pos (show decide (0 < ho_comp H G m0 i) = true from decide_eq_true h_53)] at this
                         | rw [if_neg (show ¬ decide (0 < ho_comp H G m0 i) = true from fun q => absurd (of_decide_eq_true q) (by omega))] at this
                       first
                         | rw [if_pos (show lo_max (fun h => ho_comp H G m0 h) i < ho_comp H G m0 i by omega)] at this
                         | rw [if_neg (show ¬ lo_max (fun h => ho_comp H G m0 h) i < ho_comp H G m0 i by omega)] at this
                       exact this)
      refine ev_s (is_iconst (nI 0) rfl rfl) ?_
      refine ev_s (st_istore_n_3 rfl rfl) ?_
      refine ev_s (is_iconst ((-1)) rfl rfl) ?_
      refine ev_s (st_istore_4 rfl rfl) ?_
      refine ev_s (is_iconst (nI 0) rfl rfl) ?_
      refine ev_s (st_istore_5 rfl rfl) ?_
      refine ev_s (is_iconst (nI 0) rfl rfl) ?_
      refine ev_s (st_istore_6 rfl rfl) ?_
      exact loop 12 0 _ mi (by omega) hz
    · refine ev_s (is_bipush ((-7)) rfl rfl) ?_
      refine ev_ret (is_ireturn rfl rfl (by first | rfl | exact pu_b_nar | decide)) ?_
      obtain ⟨z0, z1, z2, z3⟩ := ho_w4 h_17
      rw [show an_day H G (nI m0) w = -7 by unfold an_day; rw [if_pos h_5, if_neg z0, if_neg z1, if_neg z2, if_neg z3]]
      exact ⟨rfl, rfl, rfl, hz⟩
  · refine ev_s (is_bipush ((-5)) rfl rfl) ?_
    refine ev_ret (is_ireturn rfl rfl (by first | rfl | exact pu_b_nar | decide)) ?_
    rw [show an_day H G m w = -5 from if_neg h_5]
    exact ⟨rfl, rfl, rfl, hz⟩

def lv_ (H : ho_T) (G : ho_G) (i : Nat) : ho_T := fun a b => if 10 ≤ a ∧ a < 10 + i ∧ b = 12 then Nat.min 9999 (H a 12 + ho_day H G (a - 10)) else H a b
theorem lv_s (H : ho_T) (G : ho_G) (i : Nat) : lv_ H G (i + 1) = ho_set (lv_ H G i) (10 + i) 12 (ho_T2 H G i) := by
  funext a b
  show (if 10 ≤ a ∧ a < 10 + (i + 1) ∧ b = 12 then Nat.min 9999 (H a 12 + ho_day H G (a - 10)) else H a b) = (if a = 10 + i ∧ b = 12 then Nat.min 9999 (H (10 + i) 12 + ho_day H G i) else (if 10 ≤ a ∧ a < 10 + i ∧ b = 12 then Nat.min 9999 (H a 12 + ho_day H G (a - 10)) else H a b))
  by_cases c : a = 10 + i ∧ b = 12
  · rw [if_pos c, if_pos (by omega), c.1, show 10 + i - 10 = i by omega]
  · rw [if_neg c]
    by_cases c2 : 10 ≤ a ∧ a < 10 + i ∧ b = 12
    · rw [if_pos c2, if_pos (by omega)]
    · rw [if_neg c2, if_neg (by omega)]
theorem lv_0 (H : ho_T) (G : ho_G) : lv_ H G 0 = H := by
  funext a b
  exact if_neg (by omega)
theorem lv_hi (H : ho_T) (G : ho_G) (i : Nat) : lv_ H G i (10 + i) 12 = H (10 + i) 12 := if_neg (by omega)
theorem te_cl_min {x hi : Nat} (hx : x < 2 ^ 31) (hh : hi < 2 ^ 31) : pu_cl (nI x) (nI 0) (nI hi) = nI (Nat.min hi x) := by
  rw [pu_cl_te]
  unfold te_clamp
  rw [if_neg (nI_pos hx), nI_clamp hx]
  by_cases c : hi < x
  · rw [if_pos ((nI_ltI hh hx).mpr c), show Nat.min hi x = hi from Nat.min_eq_left (by omega)]
  · rw [if_neg (nI_nlt (by omega) hh), show Nat.min hi x = x from Nat.min_eq_right (by omega)]

theorem r_live {d : Nat} {sh : im_Sh} {mi : im_MI} {mr : im_MR} (hC : pu_C sh mr) {H K : ho_T} {G : ho_G} (hz : rz_ H K G mi mi) : EvM (d + 6) 170 [.ref 110] sh mi mr (fun r sh2 m2 r2 => sh2 = sh ∧ (r = .int (nI (ho_all H G)) ∧ r2 = mr ∧ rz_ (st_live H G) (K) G mi m2)) := by
  show Ev (d + 6) 170 0 [.ref 110, im_bad, im_bad] [] sh mi mr _
  have hn6 := rz_n hz
  have hbd0 := rz_bd hz
  have loop2 : ∀ (j i : Nat) (ma : im_MI), i + j = H 0 0 → rz_ (lv_ H G i) K G mi ma → (∀ q, q < H 0 0 → ma 127 q = nI (ho_day H G q)) → Ev (d + 6) 170 40 [.ref 110, .int (nI (ho_all H G)), .int (nI i)] [] sh ma mr (fun r sh2 m2 r2 => sh2 = sh ∧ (r = .int (nI (ho_all H G)) ∧ r2 = mr ∧ rz_ (st_live H G) (K) G mi m2)) := by
    intro j
    induction j with
    | zero =>
      intro i ma hi hz g1
      refine ev_s (is_iload_n rfl rfl) ?_
      refine ev_s (is_aload_n rfl rfl) ?_
      refine ev_s (is_getI' rfl (pu_s hC 110 rfl rfl) rfl rfl (show ma 110 0 = nI (H 0 0) from hz.1.1)) ?_
      refine ev_s (is_icmp_ge_t rfl (nI_le (by omega) (by omega))) ?_
      refine ev_s (is_iload_n rfl rfl) ?_
      refine ev_ret (is_ireturn rfl rfl (by first | rfl | exact pu_b_nar | decide)) ?_
      rw [show i = H 0 0 by omega] at hz
      exact ⟨rfl, rfl, rfl, hz⟩
    | succ j ih =>
      intro i ma hi hz g1
      refine ev_s (is_iload_n rfl rfl) ?_
      refine ev_s (is_aload_n rfl rfl) ?_
      refine ev_s (is_getI' rfl (pu_s hC 110 rfl rfl) rfl rfl (show ma 110 0 = nI (H 0 0) from hz.1.1)) ?_
      refine ev_s (is_icmp_ge_f rfl (nI_ge (by omega) (by omega))) ?_
      refine ev_s (is_aload_n rfl rfl) ?_
      refine ev_s (is_getR rfl (pu_s hC 110 rfl rfl) rfl rfl (pu_r hC 110 3 rfl rfl)) ?_
      refine ev_s (is_bipush (nI 14) rfl rfl) ?_
      refine ev_s (is_iload_n rfl rfl) ?_
      first
        | refine ev_s (is_imul _ rfl (pk_mul _ _)) ?_
        | refine ev_s (is_imul _ rfl rfl) ?_
      refine ev_s (is_bipush (nI 12) rfl rfl) ?_
      first
        | refine ev_s (is_iadd _ rfl (nI_add _ _)) ?_
        | refine ev_s (is_iadd _ rfl rfl) ?_
      refine ev_s (is_aload_n rfl rfl) ?_
      refine ev_s (is_getR rfl (pu_s hC 110 rfl rfl) rfl rfl (pu_r hC 110 3 rfl rfl)) ?_
      refine ev_s (is_bipush (nI 14) rfl rfl) ?_
      refine ev_s (is_iload_n rfl rfl) ?_
      first
        | refine ev_s (is_imul _ rfl (pk_mul _ _)) ?_
        | refine ev_s (is_imul _ rfl rfl) ?_
      refine ev_s (is_bipush (nI 12) rfl rfl) ?_
      first
        | refine ev_s (is_iadd _ rfl (nI_add _ _)) ?_
        | refine ev_s (is_iadd _ rfl rfl) ?_
      refine ev_s (is_iaload' (14 * i + 12) rfl (pu_s hC 113 rfl rfl) rfl rfl (by omega) ((rz_at hz (by omega) (by decide)).trans (by rw [lv_hi]))) ?_
      refine ev_s (is_aload_n rfl rfl) ?_
      refine ev_s (is_getR rfl (pu_s hC 110 rfl rfl) rfl rfl (pu_r hC 110 29 rfl rfl)) ?_
      refine ev_s (is_iload_n rfl rfl) ?_
      refine ev_s (is_iaload' (i) rfl (pu_s hC 127 rfl rfl) rfl rfl (by omega) (g1 i (by omega))) ?_
      have hdl := ho_day_le H G i
      have htl := hbd0.2.2.2.2.2.2.2.2.1 i
      refine ev_s (is_iadd _ rfl (nI_add _ _)) ?_
      refine ev_s (is_iconst (nI 0) rfl rfl) ?_
      refine ev_s (is_sipush (nI 9999) rfl rfl) ?_
      refine ev_c1 (is_call0 3 [_, _, _] [_, _] rfl rfl rfl rfl rfl (Nat.le_of_ble_eq_true rfl) rfl rfl rfl) rfl rfl (r_within _ _ _) ?_
      rw [te_cl_min (by omega) (by decide)]
      refine ev_s (is_iastore (14 * i + 12) rfl (pu_s hC 113 rfl rfl) rfl rfl (by omega)) ?_
      refine ev_s (st_iinc_2 _ rfl rfl (nI_inc _)) ?_
      refine ev_s (is_goto rfl) ?_
      have hz2 := rz_row hz (m := i) (w := 12) (v := ho_T2 H G i) (by omega) (by decide) (ho_bd_put (rz_bd hz) (Or.inr (Or.inl ⟨rfl, ho_T2_le H G i⟩)))
      rw [← lv_s] at hz2
      exact ih (i + 1) _ (by omega) hz2 (fun q hq => by rw [im_u_k _ _ _ _ (by decide)]; exact g1 q hq)
  have loop1 : ∀ (j i : Nat) (ma : im_MI), i + j = H 0 0 → rz_ H K G mi ma → (∀ q, q < i → ma 127 q = nI (ho_day H G q)) → (∀ (ma : im_MI), rz_ H K G mi ma → (∀ q, q < H 0 0 → ma 127 q = nI (ho_day H G q)) → Ev (d + 6) 170 38 [.ref 110, .int (nI (ho_all H G)), .int (nI (H 0 0))] [] sh ma mr (fun r sh2 m2 r2 => sh2 = sh ∧ (r = .int (nI (ho_all H G)) ∧ r2 = mr ∧ rz_ (st_live H G) (K) G mi m2))) → Ev (d + 6) 170 4 [.ref 110, .int (nI (lo_sum (fun m => ho_day H G m) i)), .int (nI i)] [] sh ma mr (fun r sh2 m2 r2 => sh2 = sh ∧ (r = .int (nI (ho_all H G)) ∧ r2 = mr ∧ rz_ (st_live H G) (K) G mi m2)) := by
    intro j
    induction j with
    | zero =>
      intro i ma hi hz g1 hk
      refine ev_s (is_iload_n rfl rfl) ?_
      refine ev_s (is_aload_n rfl rfl) ?_
      refine ev_s (is_getI' rfl (pu_s hC 110 rfl rfl) rfl rfl hz.1.1) ?_
      refine ev_s (is_icmp_ge_t rfl (nI_le (by omega) (by omega))) ?_
      have h6 : i = H 0 0 := by omega
      rw [h6]
      rw [h6] at g1
      exact hk _ hz g1
    | succ j ih =>
      intro i ma hi hz g1 hk
      refine ev_s (is_iload_n rfl rfl) ?_
      refine ev_s (is_aload_n rfl rfl) ?_
      refine ev_s (is_getI' rfl (pu_s hC 110 rfl rfl) rfl rfl hz.1.1) ?_
      refine ev_s (is_icmp_ge_f rfl (nI_ge (by omega) (by omega))) ?_
      refine ev_s (is_aload_n rfl rfl) ?_
      refine ev_s (is_getR rfl (pu_s hC 110 rfl rfl) rfl rfl (pu_r hC 110 29 rfl rfl)) ?_
      refine ev_s (is_iload_n rfl rfl) ?_
      refine ev_s (is_aload_n rfl rfl) ?_
      refine ev_s (is_iload_n rfl rfl) ?_
      refine ev_q1 (is_callR 2 [_] [_, _] rfl rfl rfl rfl rfl (Nat.le_of_ble_eq_true rfl) rfl rfl rfl (pu_s hC 110 rfl rfl)) rfl rfl (r_dayOf hC hz.1 (m := i) (by omega)) (fun r_19 mi mr hq_19 => ?_)
      obtain ⟨rfl, hmr, hsc⟩ := hq_19
      have hmr := hmr.symm
      subst hmr
      have g1 : ∀ q, q < i → mi 127 q = nI (ho_day H G q) := fun q hq => by rw [hsc 127 rfl]; exact g1 q hq
      have hz := rz_sS hz hsc
      refine ev_s (is_iastore (i) rfl (pu_s hC 127 rfl rfl) rfl rfl (by omega)) ?_
      refine ev_s (is_iload_n rfl rfl) ?_
      refine ev_s (is_aload_n rfl rfl) ?_
      refine ev_s (is_getR rfl (pu_s hC 110 rfl rfl) rfl rfl (pu_r hC 110 29 rfl rfl)) ?_
      refine ev_s (is_iload_n rfl rfl) ?_
      refine ev_s (is_iaload' (i) rfl (pu_s hC 127 rfl rfl) rfl rfl (by omega) (im_u_s _ _ _ _)) ?_
      first
        | refine ev_s (is_iadd _ rfl (nI_add _ _)) ?_
        | refine ev_s (is_iadd _ rfl rfl) ?_
      refine ev_s (st_istore_n_1 rfl rfl) ?_
      refine ev_s (st_iinc_2 _ rfl rfl (nI_inc _)) ?_
      refine ev_s (is_goto rfl) ?_
      refine ih (i + 1) _ (by omega) (rz_s hz (Or.inl (by decide))) (fun q hq => ?_) hk
      by_cases c : q = i
      · rw [c, im_u_s]
      · rw [im_u_j _ _ _ _ c]; exact g1 q (by omega)
  refine ev_s (is_iconst (nI 0) rfl rfl) ?_
  refine ev_s (st_istore_n_1 rfl rfl) ?_
  refine ev_s (is_iconst (nI 0) rfl rfl) ?_
  refine ev_s (st_istore_n_2 rfl rfl) ?_
  refine loop1 (H 0 0) 0 mi (by omega) hz (fun q hq => by omega) (fun ma hz g1 => ?_)
  refine ev_s (is_iconst (nI 0) rfl rfl) ?_
  refine ev_s (st_istore_n_2 rfl rfl) ?_
  exact loop2 (H 0 0) 0 ma (by omega) (by rw [lv_0]; exact hz) g1
