/-! ===== PURE, the class: feed, force, sheets ===== -/

theorem pu_i2c {v : Nat} (h : v < 65536) : ((nI v).toUInt32 % 65536).toInt32 = nI v := by rw [pk_char, pk_tn (by omega), Nat.mod_eq_of_lt h]
theorem pu_nc {v : Nat} (h : v < 65536) : vp_nar .char (nI v) = nI v := by
  have := pk_vc (nI v)
  rw [pu_i2c h] at this
  exact this
theorem is_castoreN {y pc nx a b c : Nat} {L st : List Value} {sh : im_Sh} {mi : im_MI} {mr : im_MR} {r n v : Nat} {i : Int32} (j : Nat) (hi : im_ins y pc = some (nx, .castore, a, b, c)) (hs : sh[r]? = some (101, n)) (hn : Nat.ble n 100000 = true) (hj : i = nI j) (h : j < n) (hv : v < 65536) : im_step y pc L (.int (nI v) :: .int i :: .ref r :: st) sh mi mr = im_nx nx L st sh (im_u mi r j (nI v)) mr := by
  have := is_castore (x := nI v) (L := L) (st := st) (mi := mi) (mr := mr) j hi hs hn hj h
  rw [pu_nc hv] at this
  exact this

def xTap (k : Nat) : Bool := decide (k = 33 ∨ k = 34)

theorem x_tadd {d : Nat} {sh : im_Sh} {mi : im_MI} {mr : im_MR} (hC : pu_C sh mr) {s v : Nat} (hsz : mi 33 1 = nI s) (hs : s < 160) (hv : v < 256) : EvM (d) 30 [.ref 33, .int (nI v)] sh mi mr (fun r sh2 m2 r2 => sh2 = sh ∧ (r2 = mr ∧ sc_ xTap mi m2 ∧ m2 33 1 = nI (s + 1) ∧ (∀ j, j < s → m2 34 j = mi 34 j) ∧ m2 34 s = nI v)) := by
  show Ev (d) 30 0 [.ref 33, .int (nI v)] [] sh mi mr _
  refine ev_s (is_aload_n rfl rfl) ?_
  refine ev_s (is_getI' rfl (pu_s hC 33 rfl rfl) rfl rfl hsz) ?_
  refine ev_s (is_sipush (nI 160) rfl rfl) ?_
  refine ev_s (is_icmp_ge_f rfl (nI_ge (by omega) (by omega))) ?_
  refine ev_s (is_aload_n rfl rfl) ?_
  refine ev_s (is_getR rfl (pu_s hC 33 rfl rfl) rfl rfl (pu_r hC 33 0 rfl rfl)) ?_
  refine ev_s (is_aload_n rfl rfl) ?_
  refine ev_s (is_dup rfl rfl) ?_
  refine ev_s (is_getI' rfl (pu_s hC 33 rfl rfl) rfl rfl hsz) ?_
  refine ev_s (is_dup_x1 rfl rfl rfl) ?_
  refine ev_s (is_iconst (nI 1) rfl rfl) ?_
  first
    | refine ev_s (is_iadd _ rfl (nI_add _ _)) ?_
    | refine ev_s (is_iadd _ rfl rfl) ?_
  refine ev_s (is_putI rfl (pu_s hC 33 rfl rfl) rfl rfl rfl) ?_
  refine ev_s (is_iload_n rfl rfl) ?_
  refine ev_s (is_i2c (nI v) rfl (pu_i2c (by omega))) ?_
  refine ev_s (is_castoreN s rfl (pu_s hC 34 rfl rfl) rfl rfl (by omega) (by omega)) ?_
  refine ev_ret (is_return rfl) ?_
  refine ⟨rfl, rfl, ?_, ?_, ?_, ?_⟩
  · intro k hk
    have := of_decide_eq_false hk
    rw [im_u_row' (by omega), im_u_row' (by omega)]
  · rw [im_u_k _ _ _ _ (by decide), im_u_s]
  · intro j hj
    rw [im_u_j _ _ _ _ (by omega), im_u_k _ _ _ _ (by decide)]
  · rw [im_u_s]

theorem xTap_host (k : Nat) (h : xTap k = true) : xHost k = true := by
  have := of_decide_eq_true h
  exact xHost_t (by omega)
theorem fd_at {H K : ho_T} {a b c d e : Nat} {j : Nat} (k : Nat) (h : j = H 0 4 + k) : fd_K H K a b c d e 6 j = fd_b a b c d e k := by
  unfold fd_K
  rw [if_pos ⟨rfl, by omega⟩, show j - H 0 4 = k by omega]
theorem xh_feed {H K : ho_T} {mi mi2 : im_MI} (h : xh_ok H K mi) (hn : H 0 0 ≤ 6) {z a b c d e : Nat} (hz : H 0 4 ≤ z) (ha : a < 256) (hb : b < 256) (hc : c < 256) (hd : d < 256) (he : e < 256) (hs : sc_ xTap mi mi2) (h1 : mi2 33 1 = nI z) (h2 : ∀ j, j < z → mi2 34 j = nI (fd_K H K a b c d e 6 j)) : xh_ok (ho_set H 0 4 z) (fd_K H K a b c d e) mi2 := by
  have e6 : ∀ i j, i ≠ 6 → fd_K H K a b c d e i j = K i j := fun i j hi => if_neg (by omega)
  have e2 : ∀ j, j ≠ 4 → ho_set H 0 4 z 0 j = H 0 j := fun j hj => ho_set_j _ _ _ _ hj _
  have e1 : ∀ i j, i ≠ 0 → ho_set H 0 4 z i j = H i j := fun i j hi => ho_set_i _ _ _ _ hi _
  have hi6 := xh_i6 h hn
  obtain ⟨g1, g2, g3, g4, g5, b1, b2, b3, b4, b5, b6⟩ := h
  have eo : ∀ k, k ≠ 33 → k ≠ 34 → mi2 k = mi k := fun k q1 q2 => hs k (decide_eq_false (by omega))
  have er : ∀ m, ho_irow (ho_set H 0 4 z) (fd_K H K a b c d e) m = ho_irow H K m := fun m => by
    funext j
    unfold ho_irow
    rw [e1 1 _ (by decide), e1 2 _ (by decide)]
    by_cases h14 : j = 14
    · rw [if_pos h14, if_pos h14]
    · rw [if_neg h14, if_neg h14]
      by_cases h15 : j = 15
      · rw [if_pos h15, if_pos h15]
      · rw [if_neg h15, if_neg h15, e6 _ _ (by omega)]
  refine ⟨fun s hs4 => ?_, by rw [h1, ho_set_s], fun j hj => by rw [ho_set_s] at hj; exact h2 j hj, by rw [eo 40 (by decide) (by decide), e6 0 _ (by decide)]; exact g4, fun hi => ?_, fun s => by rw [e6 4 _ (by decide)]; exact b1 s, fun s => by rw [e6 5 _ (by decide)]; exact b2 s, fun s j hs4 => by rw [e6 _ _ (by omega)]; exact b3 s j hs4, fun j => ?_, by rw [e6 0 _ (by decide)]; exact b5, fun hi => ?_⟩
  · rw [eo _ (by omega) (by omega), eo _ (by omega) (by omega), e6 4 _ (by decide), e6 5 _ (by decide)]
    refine ⟨(g1 s hs4).1, (g1 s hs4).2.1, fun j hj => by rw [e6 _ _ (by omega)]; exact (g1 s hs4).2.2 j hj⟩
  · rw [e6 0 _ (by decide)] at hi
    have := hi6 hi
    obtain ⟨q1, q2, q3, q4⟩ := g5 hi
    rw [eo 40 (by decide) (by decide), e6 0 _ (by decide), e6 0 _ (by decide), e6 0 _ (by decide)]
    refine ⟨q1, q2, q3, fun m hm => ?_⟩
    rw [er]
    exact xm_row (q4 m hm) (eo _ (by omega) (by omega)) (eo _ (by omega) (by omega))
  · unfold fd_K
    split
    · unfold fd_b
      repeat' split
      all_goals assumption
    · exact b4 j
  · rw [e6 0 _ (by decide)] at hi
    have hi6 := hi6 hi
    simp only [e6 0 _ (show (0 : Nat) ≠ 6 by decide), e2 0 (by decide), e2 2 (by decide)]
    obtain ⟨c1, c2, c3, c4, c5, c6, c7, c8⟩ := b6 hi
    refine ⟨c1, c2, c3, fun m h hm hh => by rw [e6 _ _ (by omega)]; exact c4 m h hm hh, fun m hm => by rw [e6 _ _ (by omega)]; exact c5 m hm, fun m hm => by rw [e6 _ _ (by omega)]; exact c6 m hm, fun m hm => by rw [e6 _ _ (by omega)]; exact c7 m hm, fun m o hm ho hq => ?_⟩
    rw [e6 _ _ (by omega), e6 _ _ (by omega)] at hq
    exact c8 m o hm ho hq

theorem x_feed {d : Nat} {sh : im_Sh} {mi : im_MI} {mr : im_MR} (hC : pu_C sh mr) {H K : ho_T} {G : ho_G} (hx : xa_ok H G mi mr) (hz : xh_ok H K mi) (n a b c f e : Int32) : EvM (d + 3) 67 [.ref 29, .int n, .int a, .int b, .int c, .int f, .int e] sh mi mr (fun r sh2 m2 r2 => sh2 = sh ∧ (r = .int (an_feed H n a b c f e) ∧ r2 = mr ∧ xa_ok (st_feedH H n a b c f e) G m2 mr ∧ xh_ok (st_feedH H n a b c f e) (st_feedK H K n a b c f e) m2 ∧ sc_ xAll mi m2)) := by
  show Ev (d + 3) 67 0 [.ref 29, .int n, .int a, .int b, .int c, .int f, .int e] [] sh mi mr _
  have hn6 := xa_n hx
  have hs : sc_ xQ mi mi := sc_rf
  refine ev_s (is_iload_n rfl rfl) ?_
  refine ev_s (is_iconst (nI 1) rfl rfl) ?_
  refine ev_s (is_iconst (nI 5) rfl rfl) ?_
  refine ev_c1 (is_call0 3 [_, _, _] [] rfl rfl rfl rfl rfl (Nat.le_of_ble_eq_true rfl) rfl rfl rfl) rfl rfl (x_within' _ _ _) ?_
  refine ev_ifB_eq rfl (fun h_6 => ?_) (fun h_6 => ?_)
  · refine ev_s (is_bipush ((-2)) rfl rfl) ?_
    refine ev_ret (is_ireturn rfl rfl (by first | rfl | exact pu_b_nar | decide)) ?_
    have hok : fd_ok n a b c f e = false := by simp [fd_ok, h_6]
    refine ⟨rfl, ?_, rfl, ?_, ?_, sc_rf⟩
    · simp [an_feed, hok]
    · simp only [st_feedH, hok]; exact hx
    · simp only [st_feedH, st_feedK, hok]; exact hz
  · obtain ⟨n0, rfl, ln0, un0, en0⟩ := ho_rng_n h_6 (by decide) (by decide)
    refine ev_s (is_iload_n rfl rfl) ?_
    refine ev_c1 (is_call0 1 [_] [] rfl rfl rfl rfl rfl (Nat.le_of_ble_eq_true rfl) rfl rfl rfl) rfl rfl (x_isByte _) ?_
    refine ev_ifB_eq rfl (fun h_13 => ?_) (fun h_13 => ?_)
    · refine ev_s (is_bipush ((-2)) rfl rfl) ?_
      refine ev_ret (is_ireturn rfl rfl (by first | rfl | exact pu_b_nar | decide)) ?_
      have hok : fd_ok (nI n0) a b c f e = false := by simp [fd_ok, h_6, h_13]
      refine ⟨rfl, ?_, rfl, ?_, ?_, sc_rf⟩
      · simp [an_feed, hok]
      · simp only [st_feedH, hok]; exact hx
      · simp only [st_feedH, st_feedK, hok]; exact hz
    · obtain ⟨a0, rfl, la0, ua0, ea0⟩ := ho_rng_n h_13 (by decide) (by decide)
      refine ev_s (is_iload_n rfl rfl) ?_
      refine ev_c1 (is_call0 1 [_] [] rfl rfl rfl rfl rfl (Nat.le_of_ble_eq_true rfl) rfl rfl rfl) rfl rfl (x_isByte _) ?_
      refine ev_ifB_eq rfl (fun h_20 => ?_) (fun h_20 => ?_)
      · refine ev_s (is_bipush ((-2)) rfl rfl) ?_
        refine ev_ret (is_ireturn rfl rfl (by first | rfl | exact pu_b_nar | decide)) ?_
        have hok : fd_ok (nI n0) (nI a0) b c f e = false := by simp [fd_ok, h_6, h_13, h_20]
        refine ⟨rfl, ?_, rfl, ?_, ?_, sc_rf⟩
        · simp [an_feed, hok]
        · simp only [st_feedH, hok]; exact hx
        · simp only [st_feedH, st_feedK, hok]; exact hz
      · obtain ⟨b0, rfl, lb0, ub0, eb0⟩ := ho_rng_n h_20 (by decide) (by decide)
        refine ev_s (is_iload rfl rfl) ?_
        refine ev_c1 (is_call0 1 [_] [] rfl rfl rfl rfl rfl (Nat.le_of_ble_eq_true rfl) rfl rfl rfl) rfl rfl (x_isByte _) ?_
        refine ev_ifB_eq rfl (fun h_28 => ?_) (fun h_28 => ?_)
        · refine ev_s (is_bipush ((-2)) rfl rfl) ?_
          refine ev_ret (is_ireturn rfl rfl (by first | rfl | exact pu_b_nar | decide)) ?_
          have hok : fd_ok (nI n0) (nI a0) (nI b0) c f e = false := by simp [fd_ok, h_6, h_13, h_20, h_28]
          refine ⟨rfl, ?_, rfl, ?_, ?_, sc_rf⟩
          · simp [an_feed, hok]
          · simp only [st_feedH, hok]; exact hx
          · simp only [st_feedH, st_feedK, hok]; exact hz
        · obtain ⟨c0, rfl, lc0, uc0, ec0⟩ := ho_rng_n h_28 (by decide) (by decide)
          refine ev_s (is_iload rfl rfl) ?_
          refine ev_c1 (is_call0 1 [_] [] rfl rfl rfl rfl rfl (Nat.le_of_ble_eq_true rfl) rfl rfl rfl) rfl rfl (x_isByte _) ?_
          refine ev_ifB_eq rfl (fun h_36 => ?_) (fun h_36 => ?_)
          · refine ev_s (is_bipush ((-2)) rfl rfl) ?_
            refine ev_ret (is_ireturn rfl rfl (by first | rfl | exact pu_b_nar | decide)) ?_
            have hok : fd_ok (nI n0) (nI a0) (nI b0) (nI c0) f e = false := by simp [fd_ok, h_6, h_13, h_20, h_28, h_36]
            refine ⟨rfl, ?_, rfl, ?_, ?_, sc_rf⟩
            · simp [an_feed, hok]
            · simp only [st_feedH, hok]; exact hx
            · simp only [st_feedH, st_feedK, hok]; exact hz
          · obtain ⟨f0, rfl, lf0, uf0, ef0⟩ := ho_rng_n h_36 (by decide) (by decide)
            refine ev_s (is_iload rfl rfl) ?_
            refine ev_c1 (is_call0 1 [_] [] rfl rfl rfl rfl rfl (Nat.le_of_ble_eq_true rfl) rfl rfl rfl) rfl rfl (x_isByte _) ?_
            refine ev_ifB_ne rfl (fun h_44 => ?_) (fun h_44 => ?_)
            · obtain ⟨e0, rfl, le0, ue0, ee0⟩ := ho_rng_n h_44 (by decide) (by decide)
              refine ev_s (is_aload_n rfl rfl) ?_
              refine ev_s (is_getR rfl (pu_s hC 29 rfl rfl) rfl rfl (pu_r hC 29 8 rfl rfl)) ?_
              refine ev_s (is_getI' rfl (pu_s hC 33 rfl rfl) rfl rfl hz.2.1) ?_
              refine ev_s (is_iload_n rfl rfl) ?_
              first
                | refine ev_s (is_iadd _ rfl (nI_add _ _)) ?_
                | refine ev_s (is_iadd _ rfl rfl) ?_
              refine ev_s (is_sipush (nI 160) rfl rfl) ?_
              have hb4 := (xa_bd hx).2.2.2.2.1
              refine ev_icmpN_le rfl (by omega) (by omega) (fun h_62 => ?_) (fun h_62 => ?_)
              · have hok : fd_ok (nI n0) (nI a0) (nI b0) (nI c0) (nI f0) (nI e0) = true := by simp [fd_ok, h_6, h_13, h_20, h_28, h_36, h_44]
                have hle : ¬ 160 < H 0 4 + n0 := by omega
                have hs0 : mi 33 1 = nI (H 0 4 + 0) := hz.2.1
                have hb0 : ∀ j, j < H 0 4 + 0 → mi 34 j = nI (fd_K H K a0 b0 c0 f0 e0 6 j) := fun j hj => by
                  rw [show fd_K H K a0 b0 c0 f0 e0 6 j = K 6 j from if_neg (by omega)]; exact hz.2.2.1 j hj
                have ht : sc_ xTap mi mi := sc_rf
                rcases (show n0 = 1 ∨ n0 = 2 ∨ n0 = 3 ∨ n0 = 4 ∨ n0 = 5 by omega) with rfl | rfl | rfl | rfl | rfl
                · refine ev_s (is_aload_n rfl rfl) ?_
                  refine ev_s (is_getR rfl (pu_s hC 29 rfl rfl) rfl rfl (pu_r hC 29 8 rfl rfl)) ?_
                  refine ev_s (is_iload_n rfl rfl) ?_
                  refine ev_q0 (is_callR 2 [_] [] rfl rfl rfl rfl rfl (Nat.le_of_ble_eq_true rfl) rfl rfl rfl (pu_s hC 33 rfl rfl)) rfl rfl (x_tadd hC (s := H 0 4 + 0) (v := a0) hs0 (by omega) (by omega)) (fun r_73 mi mr hq_73 => ?_)
                  obtain ⟨hmr, hsc, hs1, e2, e3⟩ := hq_73
                  have hmr := hmr.symm
                  subst hmr
                  have hb1 : ∀ j, j < H 0 4 + 1 → mi 34 j = nI (fd_K H K a0 b0 c0 f0 e0 6 j) := fun j hj => by
                    by_cases hjk : j = H 0 4 + 0
                    · rw [fd_at 0 hjk, hjk, e3]; rfl
                    · rw [e2 j (by omega)]; exact hb0 j (by omega)
                  have ht := ht.trans hsc
                  refine ev_s (is_iload_n rfl rfl) ?_
                  refine ev_s (is_iconst (nI 1) rfl rfl) ?_
                  refine ev_s (is_icmp_le_t rfl (by decide)) ?_
                  refine ev_s (is_iload_n rfl rfl) ?_
                  refine ev_s (is_iconst (nI 2) rfl rfl) ?_
                  refine ev_s (is_icmp_le_t rfl (by decide)) ?_
                  refine ev_s (is_iload_n rfl rfl) ?_
                  refine ev_s (is_iconst (nI 3) rfl rfl) ?_
                  refine ev_s (is_icmp_le_t rfl (by decide)) ?_
                  refine ev_s (is_iload_n rfl rfl) ?_
                  refine ev_s (is_iconst (nI 4) rfl rfl) ?_
                  refine ev_s (is_icmp_le_t rfl (by decide)) ?_
                  refine ev_s (is_aload_n rfl rfl) ?_
                  refine ev_s (is_getR rfl (pu_s hC 29 rfl rfl) rfl rfl (pu_r hC 29 8 rfl rfl)) ?_
                  refine ev_s (is_getI' rfl (pu_s hC 33 rfl rfl) rfl rfl hs1) ?_
                  refine ev_ret (is_ireturn rfl rfl (by first | rfl | exact pu_b_nar | decide)) ?_
                  refine ⟨rfl, ?_, rfl, ?_, ?_, (ht.mono xTap_host).mono xHost_all⟩
                  · simp [an_feed, hok, hle, en0]
                  · rw [show st_feedH H (nI 1) (nI a0) (nI b0) (nI c0) (nI f0) (nI e0) = ho_set H 0 4 (H 0 4 + 1) by simp [st_feedH, hok, hle, en0]]; exact xa_host hx (ht.mono xTap_host) (by omega)
                  · rw [show st_feedH H (nI 1) (nI a0) (nI b0) (nI c0) (nI f0) (nI e0) = ho_set H 0 4 (H 0 4 + 1) by simp [st_feedH, hok, hle, en0], show st_feedK H K (nI 1) (nI a0) (nI b0) (nI c0) (nI f0) (nI e0) = fd_K H K a0 b0 c0 f0 e0 by simp [st_feedK, hok, hle, en0, ea0, eb0, ec0, ef0, ee0]]; exact xh_feed hz hn6 (by omega) (by omega) (by omega) (by omega) (by omega) (by omega) ht hs1 hb1
                · refine ev_s (is_aload_n rfl rfl) ?_
                  refine ev_s (is_getR rfl (pu_s hC 29 rfl rfl) rfl rfl (pu_r hC 29 8 rfl rfl)) ?_
                  refine ev_s (is_iload_n rfl rfl) ?_
                  refine ev_q0 (is_callR 2 [_] [] rfl rfl rfl rfl rfl (Nat.le_of_ble_eq_true rfl) rfl rfl rfl (pu_s hC 33 rfl rfl)) rfl rfl (x_tadd hC (s := H 0 4 + 0) (v := a0) hs0 (by omega) (by omega)) (fun r_73 mi mr hq_73 => ?_)
                  obtain ⟨hmr, hsc, hs1, e2, e3⟩ := hq_73
                  have hmr := hmr.symm
                  subst hmr
                  have hb1 : ∀ j, j < H 0 4 + 1 → mi 34 j = nI (fd_K H K a0 b0 c0 f0 e0 6 j) := fun j hj => by
                    by_cases hjk : j = H 0 4 + 0
                    · rw [fd_at 0 hjk, hjk, e3]; rfl
                    · rw [e2 j (by omega)]; exact hb0 j (by omega)
                  have ht := ht.trans hsc
                  refine ev_s (is_iload_n rfl rfl) ?_
                  refine ev_s (is_iconst (nI 1) rfl rfl) ?_
                  refine ev_s (is_icmp_le_f rfl (by decide)) ?_
                  refine ev_s (is_aload_n rfl rfl) ?_
                  refine ev_s (is_getR rfl (pu_s hC 29 rfl rfl) rfl rfl (pu_r hC 29 8 rfl rfl)) ?_
                  refine ev_s (is_iload_n rfl rfl) ?_
                  refine ev_q0 (is_callR 2 [_] [] rfl rfl rfl rfl rfl (Nat.le_of_ble_eq_true rfl) rfl rfl rfl (pu_s hC 33 rfl rfl)) rfl rfl (x_tadd hC (s := H 0 4 + 1) (v := b0) hs1 (by omega) (by omega)) (fun r_86 mi mr hq_86 => ?_)
                  obtain ⟨hmr, hsc, hs2, e2, e3⟩ := hq_86
                  have hmr := hmr.symm
                  subst hmr
                  have hb2 : ∀ j, j < H 0 4 + 2 → mi 34 j = nI (fd_K H K a0 b0 c0 f0 e0 6 j) := fun j hj => by
                    by_cases hjk : j = H 0 4 + 1
                    · rw [fd_at 1 hjk, hjk, e3]; rfl
                    · rw [e2 j (by omega)]; exact hb1 j (by omega)
                  have ht := ht.trans hsc
                  refine ev_s (is_iload_n rfl rfl) ?_
                  refine ev_s (is_iconst (nI 2) rfl rfl) ?_
                  refine ev_s (is_icmp_le_t rfl (by decide)) ?_
                  refine ev_s (is_iload_n rfl rfl) ?_
                  refine ev_s (is_iconst (nI 3) rfl rfl) ?_
                  refine ev_s (is_icmp_le_t rfl (by decide)) ?_
                  refine ev_s (is_iload_n rfl rfl) ?_
                  refine ev_s (is_iconst (nI 4) rfl rfl) ?_
                  refine ev_s (is_icmp_le_t rfl (by decide)) ?_
                  refine ev_s (is_aload_n rfl rfl) ?_
                  refine ev_s (is_getR rfl (pu_s hC 29 rfl rfl) rfl rfl (pu_r hC 29 8 rfl rfl)) ?_
                  refine ev_s (is_getI' rfl (pu_s hC 33 rfl rfl) rfl rfl hs2) ?_
                  refine ev_ret (is_ireturn rfl rfl (by first | rfl | exact pu_b_nar | decide)) ?_
                  refine ⟨rfl, ?_, rfl, ?_, ?_, (ht.mono xTap_host).mono xHost_all⟩
                  · simp [an_feed, hok, hle, en0]
                  · rw [show st_feedH H (nI 2) (nI a0) (nI b0) (nI c0) (nI f0) (nI e0) = ho_set H 0 4 (H 0 4 + 2) by simp [st_feedH, hok, hle, en0]]; exact xa_host hx (ht.mono xTap_host) (by omega)
                  · rw [show st_feedH H (nI 2) (nI a0) (nI b0) (nI c0) (nI f0) (nI e0) = ho_set H 0 4 (H 0 4 + 2) by simp [st_feedH, hok, hle, en0], show st_feedK H K (nI 2) (nI a0) (nI b0) (nI c0) (nI f0) (nI e0) = fd_K H K a0 b0 c0 f0 e0 by simp [st_feedK, hok, hle, en0, ea0, eb0, ec0, ef0, ee0]]; exact xh_feed hz hn6 (by omega) (by omega) (by omega) (by omega) (by omega) (by omega) ht hs2 hb2
                · refine ev_s (is_aload_n rfl rfl) ?_
                  refine ev_s (is_getR rfl (pu_s hC 29 rfl rfl) rfl rfl (pu_r hC 29 8 rfl rfl)) ?_
                  refine ev_s (is_iload_n rfl rfl) ?_
                  refine ev_q0 (is_callR 2 [_] [] rfl rfl rfl rfl rfl (Nat.le_of_ble_eq_true rfl) rfl rfl rfl (pu_s hC 33 rfl rfl)) rfl rfl (x_tadd hC (s := H 0 4 + 0) (v := a0) hs0 (by omega) (by omega)) (fun r_73 mi mr hq_73 => ?_)
                  obtain ⟨hmr, hsc, hs1, e2, e3⟩ := hq_73
                  have hmr := hmr.symm
                  subst hmr
                  have hb1 : ∀ j, j < H 0 4 + 1 → mi 34 j = nI (fd_K H K a0 b0 c0 f0 e0 6 j) := fun j hj => by
                    by_cases hjk : j = H 0 4 + 0
                    · rw [fd_at 0 hjk, hjk, e3]; rfl
                    · rw [e2 j (by omega)]; exact hb0 j (by omega)
                  have ht := ht.trans hsc
                  refine ev_s (is_iload_n rfl rfl) ?_
                  refine ev_s (is_iconst (nI 1) rfl rfl) ?_
                  refine ev_s (is_icmp_le_f rfl (by decide)) ?_
                  refine ev_s (is_aload_n rfl rfl) ?_
                  refine ev_s (is_getR rfl (pu_s hC 29 rfl rfl) rfl rfl (pu_r hC 29 8 rfl rfl)) ?_
                  refine ev_s (is_iload_n rfl rfl) ?_
                  refine ev_q0 (is_callR 2 [_] [] rfl rfl rfl rfl rfl (Nat.le_of_ble_eq_true rfl) rfl rfl rfl (pu_s hC 33 rfl rfl)) rfl rfl (x_tadd hC (s := H 0 4 + 1) (v := b0) hs1 (by omega) (by omega)) (fun r_86 mi mr hq_86 => ?_)
                  obtain ⟨hmr, hsc, hs2, e2, e3⟩ := hq_86
                  have hmr := hmr.symm
                  subst hmr
                  have hb2 : ∀ j, j < H 0 4 + 2 → mi 34 j = nI (fd_K H K a0 b0 c0 f0 e0 6 j) := fun j hj => by
                    by_cases hjk : j = H 0 4 + 1
                    · rw [fd_at 1 hjk, hjk, e3]; rfl
                    · rw [e2 j (by omega)]; exact hb1 j (by omega)
                  have ht := ht.trans hsc
                  refine ev_s (is_iload_n rfl rfl) ?_
                  refine ev_s (is_iconst (nI 2) rfl rfl) ?_
                  refine ev_s (is_icmp_le_f rfl (by decide)) ?_
                  refine ev_s (is_aload_n rfl rfl) ?_
                  refine ev_s (is_getR rfl (pu_s hC 29 rfl rfl) rfl rfl (pu_r hC 29 8 rfl rfl)) ?_
                  refine ev_s (is_iload rfl rfl) ?_
                  refine ev_q0 (is_callR 2 [_] [] rfl rfl rfl rfl rfl (Nat.le_of_ble_eq_true rfl) rfl rfl rfl (pu_s hC 33 rfl rfl)) rfl rfl (x_tadd hC (s := H 0 4 + 2) (v := c0) hs2 (by omega) (by omega)) (fun r_100 mi mr hq_100 => ?_)
                  obtain ⟨hmr, hsc, hs3, e2, e3⟩ := hq_100
                  have hmr := hmr.symm
                  subst hmr
                  have hb3 : ∀ j, j < H 0 4 + 3 → mi 34 j = nI (fd_K H K a0 b0 c0 f0 e0 6 j) := fun j hj => by
                    by_cases hjk : j = H 0 4 + 2
                    · rw [fd_at 2 hjk, hjk, e3]; rfl
                    · rw [e2 j (by omega)]; exact hb2 j (by omega)
                  have ht := ht.trans hsc
                  refine ev_s (is_iload_n rfl rfl) ?_
                  refine ev_s (is_iconst (nI 3) rfl rfl) ?_
                  refine ev_s (is_icmp_le_t rfl (by decide)) ?_
                  refine ev_s (is_iload_n rfl rfl) ?_
                  refine ev_s (is_iconst (nI 4) rfl rfl) ?_
                  refine ev_s (is_icmp_le_t rfl (by decide)) ?_
                  refine ev_s (is_aload_n rfl rfl) ?_
                  refine ev_s (is_getR rfl (pu_s hC 29 rfl rfl) rfl rfl (pu_r hC 29 8 rfl rfl)) ?_
                  refine ev_s (is_getI' rfl (pu_s hC 33 rfl rfl) rfl rfl hs3) ?_
                  refine ev_ret (is_ireturn rfl rfl (by first | rfl | exact pu_b_nar | decide)) ?_
                  refine ⟨rfl, ?_, rfl, ?_, ?_, (ht.mono xTap_host).mono xHost_all⟩
                  · simp [an_feed, hok, hle, en0]
                  · rw [show st_feedH H (nI 3) (nI a0) (nI b0) (nI c0) (nI f0) (nI e0) = ho_set H 0 4 (H 0 4 + 3) by simp [st_feedH, hok, hle, en0]]; exact xa_host hx (ht.mono xTap_host) (by omega)
                  · rw [show st_feedH H (nI 3) (nI a0) (nI b0) (nI c0) (nI f0) (nI e0) = ho_set H 0 4 (H 0 4 + 3) by simp [st_feedH, hok, hle, en0], show st_feedK H K (nI 3) (nI a0) (nI b0) (nI c0) (nI f0) (nI e0) = fd_K H K a0 b0 c0 f0 e0 by simp [st_feedK, hok, hle, en0, ea0, eb0, ec0, ef0, ee0]]; exact xh_feed hz hn6 (by omega) (by omega) (by omega) (by omega) (by omega) (by omega) ht hs3 hb3
                · refine ev_s (is_aload_n rfl rfl) ?_
                  refine ev_s (is_getR rfl (pu_s hC 29 rfl rfl) rfl rfl (pu_r hC 29 8 rfl rfl)) ?_
                  refine ev_s (is_iload_n rfl rfl) ?_
                  refine ev_q0 (is_callR 2 [_] [] rfl rfl rfl rfl rfl (Nat.le_of_ble_eq_true rfl) rfl rfl rfl (pu_s hC 33 rfl rfl)) rfl rfl (x_tadd hC (s := H 0 4 + 0) (v := a0) hs0 (by omega) (by omega)) (fun r_73 mi mr hq_73 => ?_)
                  obtain ⟨hmr, hsc, hs1, e2, e3⟩ := hq_73
                  have hmr := hmr.symm
                  subst hmr
                  have hb1 : ∀ j, j < H 0 4 + 1 → mi 34 j = nI (fd_K H K a0 b0 c0 f0 e0 6 j) := fun j hj => by
                    by_cases hjk : j = H 0 4 + 0
                    · rw [fd_at 0 hjk, hjk, e3]; rfl
                    · rw [e2 j (by omega)]; exact hb0 j (by omega)
                  have ht := ht.trans hsc
                  refine ev_s (is_iload_n rfl rfl) ?_
                  refine ev_s (is_iconst (nI 1) rfl rfl) ?_
                  refine ev_s (is_icmp_le_f rfl (by decide)) ?_
                  refine ev_s (is_aload_n rfl rfl) ?_
                  refine ev_s (is_getR rfl (pu_s hC 29 rfl rfl) rfl rfl (pu_r hC 29 8 rfl rfl)) ?_
                  refine ev_s (is_iload_n rfl rfl) ?_
                  refine ev_q0 (is_callR 2 [_] [] rfl rfl rfl rfl rfl (Nat.le_of_ble_eq_true rfl) rfl rfl rfl (pu_s hC 33 rfl rfl)) rfl rfl (x_tadd hC (s := H 0 4 + 1) (v := b0) hs1 (by omega) (by omega)) (fun r_86 mi mr hq_86 => ?_)
                  obtain ⟨hmr, hsc, hs2, e2, e3⟩ := hq_86
                  have hmr := hmr.symm
                  subst hmr
                  have hb2 : ∀ j, j < H 0 4 + 2 → mi 34 j = nI (fd_K H K a0 b0 c0 f0 e0 6 j) := fun j hj => by
                    by_cases hjk : j = H 0 4 + 1
                    · rw [fd_at 1 hjk, hjk, e3]; rfl
                    · rw [e2 j (by omega)]; exact hb1 j (by omega)
                  have ht := ht.trans hsc
                  refine ev_s (is_iload_n rfl rfl) ?_
                  refine ev_s (is_iconst (nI 2) rfl rfl) ?_
                  refine ev_s (is_icmp_le_f rfl (by decide)) ?_
                  refine ev_s (is_aload_n rfl rfl) ?_
                  refine ev_s (is_getR rfl (pu_s hC 29 rfl rfl) rfl rfl (pu_r hC 29 8 rfl rfl)) ?_
                  refine ev_s (is_iload rfl rfl) ?_
                  refine ev_q0 (is_callR 2 [_] [] rfl rfl rfl rfl rfl (Nat.le_of_ble_eq_true rfl) rfl rfl rfl (pu_s hC 33 rfl rfl)) rfl rfl (x_tadd hC (s := H 0 4 + 2) (v := c0) hs2 (by omega) (by omega)) (fun r_100 mi mr hq_100 => ?_)
                  obtain ⟨hmr, hsc, hs3, e2, e3⟩ := hq_100
                  have hmr := hmr.symm
                  subst hmr
                  have hb3 : ∀ j, j < H 0 4 + 3 → mi 34 j = nI (fd_K H K a0 b0 c0 f0 e0 6 j) := fun j hj => by
                    by_cases hjk : j = H 0 4 + 2
                    · rw [fd_at 2 hjk, hjk, e3]; rfl
                    · rw [e2 j (by omega)]; exact hb2 j (by omega)
                  have ht := ht.trans hsc
                  refine ev_s (is_iload_n rfl rfl) ?_
                  refine ev_s (is_iconst (nI 3) rfl rfl) ?_
                  refine ev_s (is_icmp_le_f rfl (by decide)) ?_
                  refine ev_s (is_aload_n rfl rfl) ?_
                  refine ev_s (is_getR rfl (pu_s hC 29 rfl rfl) rfl rfl (pu_r hC 29 8 rfl rfl)) ?_
                  refine ev_s (is_iload rfl rfl) ?_
                  refine ev_q0 (is_callR 2 [_] [] rfl rfl rfl rfl rfl (Nat.le_of_ble_eq_true rfl) rfl rfl rfl (pu_s hC 33 rfl rfl)) rfl rfl (x_tadd hC (s := H 0 4 + 3) (v := f0) hs3 (by omega) (by omega)) (fun r_114 mi mr hq_114 => ?_)
                  obtain ⟨hmr, hsc, hs4, e2, e3⟩ := hq_114
                  have hmr := hmr.symm
                  subst hmr
                  have hb4 : ∀ j, j < H 0 4 + 4 → mi 34 j = nI (fd_K H K a0 b0 c0 f0 e0 6 j) := fun j hj => by
                    by_cases hjk : j = H 0 4 + 3
                    · rw [fd_at 3 hjk, hjk, e3]; rfl
                    · rw [e2 j (by omega)]; exact hb3 j (by omega)
                  have ht := ht.trans hsc
                  refine ev_s (is_iload_n rfl rfl) ?_
                  refine ev_s (is_iconst (nI 4) rfl rfl) ?_
                  refine ev_s (is_icmp_le_t rfl (by decide)) ?_
                  refine ev_s (is_aload_n rfl rfl) ?_
                  refine ev_s (is_getR rfl (pu_s hC 29 rfl rfl) rfl rfl (pu_r hC 29 8 rfl rfl)) ?_
                  refine ev_s (is_getI' rfl (pu_s hC 33 rfl rfl) rfl rfl hs4) ?_
                  refine ev_ret (is_ireturn rfl rfl (by first | rfl | exact pu_b_nar | decide)) ?_
                  refine ⟨rfl, ?_, rfl, ?_, ?_, (ht.mono xTap_host).mono xHost_all⟩
                  · simp [an_feed, hok, hle, en0]
                  · rw [show st_feedH H (nI 4) (nI a0) (nI b0) (nI c0) (nI f0) (nI e0) = ho_set H 0 4 (H 0 4 + 4) by simp [st_feedH, hok, hle, en0]]; exact xa_host hx (ht.mono xTap_host) (by omega)
                  · rw [show st_feedH H (nI 4) (nI a0) (nI b0) (nI c0) (nI f0) (nI e0) = ho_set H 0 4 (H 0 4 + 4) by simp [st_feedH, hok, hle, en0], show st_feedK H K (nI 4) (nI a0) (nI b0) (nI c0) (nI f0) (nI e0) = fd_K H K a0 b0 c0 f0 e0 by simp [st_feedK, hok, hle, en0, ea0, eb0, ec0, ef0, ee0]]; exact xh_feed hz hn6 (by omega) (by omega) (by omega) (by omega) (by omega) (by omega) ht hs4 hb4
                · refine ev_s (is_aload_n rfl rfl) ?_
                  refine ev_s (is_getR rfl (pu_s hC 29 rfl rfl) rfl rfl (pu_r hC 29 8 rfl rfl)) ?_
                  refine ev_s (is_iload_n rfl rfl) ?_
                  refine ev_q0 (is_callR 2 [_] [] rfl rfl rfl rfl rfl (Nat.le_of_ble_eq_true rfl) rfl rfl rfl (pu_s hC 33 rfl rfl)) rfl rfl (x_tadd hC (s := H 0 4 + 0) (v := a0) hs0 (by omega) (by omega)) (fun r_73 mi mr hq_73 => ?_)
                  obtain ⟨hmr, hsc, hs1, e2, e3⟩ := hq_73
                  have hmr := hmr.symm
                  subst hmr
                  have hb1 : ∀ j, j < H 0 4 + 1 → mi 34 j = nI (fd_K H K a0 b0 c0 f0 e0 6 j) := fun j hj => by
                    by_cases hjk : j = H 0 4 + 0
                    · rw [fd_at 0 hjk, hjk, e3]; rfl
                    · rw [e2 j (by omega)]; exact hb0 j (by omega)
                  have ht := ht.trans hsc
                  refine ev_s (is_iload_n rfl rfl) ?_
                  refine ev_s (is_iconst (nI 1) rfl rfl) ?_
                  refine ev_s (is_icmp_le_f rfl (by decide)) ?_
                  refine ev_s (is_aload_n rfl rfl) ?_
                  refine ev_s (is_getR rfl (pu_s hC 29 rfl rfl) rfl rfl (pu_r hC 29 8 rfl rfl)) ?_
                  refine ev_s (is_iload_n rfl rfl) ?_
                  refine ev_q0 (is_callR 2 [_] [] rfl rfl rfl rfl rfl (Nat.le_of_ble_eq_true rfl) rfl rfl rfl (pu_s hC 33 rfl rfl)) rfl rfl (x_tadd hC (s := H 0 4 + 1) (v := b0) hs1 (by omega) (by omega)) (fun r_86 mi mr hq_86 => ?_)
                  obtain ⟨hmr, hsc, hs2, e2, e3⟩ := hq_86
                  have hmr := hmr.symm
                  subst hmr
                  have hb2 : ∀ j, j < H 0 4 + 2 → mi 34 j = nI (fd_K H K a0 b0 c0 f0 e0 6 j) := fun j hj => by
                    by_cases hjk : j = H 0 4 + 1
                    · rw [fd_at 1 hjk, hjk, e3]; rfl
                    · rw [e2 j (by omega)]; exact hb1 j (by omega)
                  have ht := ht.trans hsc
                  refine ev_s (is_iload_n rfl rfl) ?_
                  refine ev_s (is_iconst (nI 2) rfl rfl) ?_
                  refine ev_s (is_icmp_le_f rfl (by decide)) ?_
                  refine ev_s (is_aload_n rfl rfl) ?_
                  refine ev_s (is_getR rfl (pu_s hC 29 rfl rfl) rfl rfl (pu_r hC 29 8 rfl rfl)) ?_
                  refine ev_s (is_iload rfl rfl) ?_
                  refine ev_q0 (is_callR 2 [_] [] rfl rfl rfl rfl rfl (Nat.le_of_ble_eq_true rfl) rfl rfl rfl (pu_s hC 33 rfl rfl)) rfl rfl (x_tadd hC (s := H 0 4 + 2) (v := c0) hs2 (by omega) (by omega)) (fun r_100 mi mr hq_100 => ?_)
                  obtain ⟨hmr, hsc, hs3, e2, e3⟩ := hq_100
                  have hmr := hmr.symm
                  subst hmr
                  have hb3 : ∀ j, j < H 0 4 + 3 → mi 34 j = nI (fd_K H K a0 b0 c0 f0 e0 6 j) := fun j hj => by
                    by_cases hjk : j = H 0 4 + 2
                    · rw [fd_at 2 hjk, hjk, e3]; rfl
                    · rw [e2 j (by omega)]; exact hb2 j (by omega)
                  have ht := ht.trans hsc
                  refine ev_s (is_iload_n rfl rfl) ?_
                  refine ev_s (is_iconst (nI 3) rfl rfl) ?_
                  refine ev_s (is_icmp_le_f rfl (by decide)) ?_
                  refine ev_s (is_aload_n rfl rfl) ?_
                  refine ev_s (is_getR rfl (pu_s hC 29 rfl rfl) rfl rfl (pu_r hC 29 8 rfl rfl)) ?_
                  refine ev_s (is_iload rfl rfl) ?_
                  refine ev_q0 (is_callR 2 [_] [] rfl rfl rfl rfl rfl (Nat.le_of_ble_eq_true rfl) rfl rfl rfl (pu_s hC 33 rfl rfl)) rfl rfl (x_tadd hC (s := H 0 4 + 3) (v := f0) hs3 (by omega) (by omega)) (fun r_114 mi mr hq_114 => ?_)
                  obtain ⟨hmr, hsc, hs4, e2, e3⟩ := hq_114
                  have hmr := hmr.symm
                  subst hmr
                  have hb4 : ∀ j, j < H 0 4 + 4 → mi 34 j = nI (fd_K H K a0 b0 c0 f0 e0 6 j) := fun j hj => by
                    by_cases hjk : j = H 0 4 + 3
                    · rw [fd_at 3 hjk, hjk, e3]; rfl
                    · rw [e2 j (by omega)]; exact hb3 j (by omega)
                  have ht := ht.trans hsc
                  refine ev_s (is_iload_n rfl rfl) ?_
                  refine ev_s (is_iconst (nI 4) rfl rfl) ?_
                  refine ev_s (is_icmp_le_f rfl (by decide)) ?_
                  refine ev_s (is_aload_n rfl rfl) ?_
                  refine ev_s (is_getR rfl (pu_s hC 29 rfl rfl) rfl rfl (pu_r hC 29 8 rfl rfl)) ?_
                  refine ev_s (is_iload rfl rfl) ?_
                  refine ev_q0 (is_callR 2 [_] [] rfl rfl rfl rfl rfl (Nat.le_of_ble_eq_true rfl) rfl rfl rfl (pu_s hC 33 rfl rfl)) rfl rfl (x_tadd hC (s := H 0 4 + 4) (v := e0) hs4 (by omega) (by omega)) (fun r_128 mi mr hq_128 => ?_)
                  obtain ⟨hmr, hsc, hs5, e2, e3⟩ := hq_128
                  have hmr := hmr.symm
                  subst hmr
                  have hb5 : ∀ j, j < H 0 4 + 5 → mi 34 j = nI (fd_K H K a0 b0 c0 f0 e0 6 j) := fun j hj => by
                    by_cases hjk : j = H 0 4 + 4
                    · rw [fd_at 4 hjk, hjk, e3]; rfl
                    · rw [e2 j (by omega)]; exact hb4 j (by omega)
                  have ht := ht.trans hsc
                  refine ev_s (is_aload_n rfl rfl) ?_
                  refine ev_s (is_getR rfl (pu_s hC 29 rfl rfl) rfl rfl (pu_r hC 29 8 rfl rfl)) ?_
                  refine ev_s (is_getI' rfl (pu_s hC 33 rfl rfl) rfl rfl hs5) ?_
                  refine ev_ret (is_ireturn rfl rfl (by first | rfl | exact pu_b_nar | decide)) ?_
                  refine ⟨rfl, ?_, rfl, ?_, ?_, (ht.mono xTap_host).mono xHost_all⟩
                  · simp [an_feed, hok, hle, en0]
                  · rw [show st_feedH H (nI 5) (nI a0) (nI b0) (nI c0) (nI f0) (nI e0) = ho_set H 0 4 (H 0 4 + 5) by simp [st_feedH, hok, hle, en0]]; exact xa_host hx (ht.mono xTap_host) (by omega)
                  · rw [show st_feedH H (nI 5) (nI a0) (nI b0) (nI c0) (nI f0) (nI e0) = ho_set H 0 4 (H 0 4 + 5) by simp [st_feedH, hok, hle, en0], show st_feedK H K (nI 5) (nI a0) (nI b0) (nI c0) (nI f0) (nI e0) = fd_K H K a0 b0 c0 f0 e0 by simp [st_feedK, hok, hle, en0, ea0, eb0, ec0, ef0, ee0]]; exact xh_feed hz hn6 (by omega) (by omega) (by omega) (by omega) (by omega) (by omega) ht hs5 hb5
              · refine ev_s (is_bipush ((-4)) rfl rfl) ?_
                refine ev_ret (is_ireturn rfl rfl (by first | rfl | exact pu_b_nar | decide)) ?_
                have hok : fd_ok (nI n0) (nI a0) (nI b0) (nI c0) (nI f0) (nI e0) = true := by simp [fd_ok, h_6, h_13, h_20, h_28, h_36, h_44]
                refine ⟨rfl, ?_, rfl, ?_, ?_, sc_rf⟩
                · simp [an_feed, hok, en0, show 160 < H 0 4 + n0 by omega]
                · simp only [st_feedH, hok, en0, if_pos (show 160 < H 0 4 + n0 by omega), if_true]; exact hx
                · simp only [st_feedH, st_feedK, hok, en0, if_pos (show 160 < H 0 4 + n0 by omega), if_true]; exact hz
            · refine ev_s (is_bipush ((-2)) rfl rfl) ?_
              refine ev_ret (is_ireturn rfl rfl (by first | rfl | exact pu_b_nar | decide)) ?_
              have hok : fd_ok (nI n0) (nI a0) (nI b0) (nI c0) (nI f0) e = false := by simp [fd_ok, h_6, h_13, h_20, h_28, h_36, h_44]
              refine ⟨rfl, ?_, rfl, ?_, ?_, sc_rf⟩
              · simp [an_feed, hok]
              · simp only [st_feedH, hok]; exact hx
              · simp only [st_feedH, st_feedK, hok]; exact hz
