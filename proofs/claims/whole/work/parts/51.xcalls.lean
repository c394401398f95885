/-! ===== PURE, the class: live, feed, force ===== -/

theorem xQ_all (k : Nat) (h : xQ k = true) : xAll k = true := by
  have := of_decide_eq_true h
  exact decide_eq_true (by omega)
theorem pu_minN {a b : Nat} (ha : a < 2 ^ 31) (hb : b < 2 ^ 31) : (if nI b < nI a then nI b else nI a) = nI (Nat.min a b) := by
  by_cases h : b < a
  · rw [if_pos ((nI_ltI hb ha).mpr h), show Nat.min a b = b from Nat.min_eq_right (by omega)]
  · rw [if_neg (nI_nlt (by omega) (by omega)), show Nat.min a b = a from Nat.min_eq_left (by omega)]
theorem ho_day_le (H : ho_T) (G : ho_G) (m : Nat) : ho_day H G m ≤ 1188 := by rw [ho_day_md]; exact md_dayO_le _ _ _ _ _ _
def ho_T2 (H : ho_T) (G : ho_G) (q : Nat) : Nat := Nat.min 9999 (H (10 + q) 12 + ho_day H G q)
theorem ho_T2_le (H : ho_T) (G : ho_G) (q : Nat) : ho_T2 H G q ≤ 9999 := Nat.min_le_left _ _
theorem xm_term2 {m1 ma : im_MI} {k v : Nat} {a : Nat → Nat} (ha : xm_ok m1 k a) (hv : v ≤ 9999) (h2 : ma k 2 = nI v) (h3 : ∀ j, j ≠ 2 → ma k j = m1 k j) (h4 : ma (k + 1) = m1 (k + 1)) : xm_ok ma k (ho_at a 12 v) := by
  have e : ma k = im_u m1 k 2 (nI v) k := by
    funext j
    by_cases hj : j = 2
    · rw [hj, h2, im_u_s]
    · rw [h3 j hj, im_u_j _ _ _ _ hj]
  exact xm_row (xm_term ha hv) e (by rw [h4, im_u_row' (by omega)])
theorem st_live_lo (H : ho_T) (G : ho_G) {i : Nat} (h : i < 10) (j : Nat) : st_live H G i j = H i j := if_neg (by omega)
theorem st_live_at (H : ho_T) (G : ho_G) {m : Nat} (hm : m < H 0 0) : ho_row (st_live H G) m = ho_at (ho_row H m) 12 (ho_T2 H G m) := by
  funext j
  unfold ho_row ho_at
  show (if j = 14 then _ else if j = 15 then _ else _) = (if j = 12 then _ else (if j = 14 then H 1 m else if j = 15 then H 2 m else H (10 + m) j))
  rw [st_live_lo H G (show 1 < 10 by decide), st_live_lo H G (show 2 < 10 by decide)]
  by_cases h12 : j = 12
  · rw [if_neg (by omega), if_neg (by omega), if_pos h12, h12]
    unfold st_live ho_T2
    rw [if_pos ⟨by omega, by omega, rfl⟩, show 10 + m - 10 = m by omega]
  · rw [if_neg h12]
    have : st_live H G (10 + m) j = H (10 + m) j := if_neg (by omega)
    rw [this]
theorem ho_bd_live {H : ho_T} (h : ho_bd H) (G : ho_G) : ho_bd (st_live H G) := by
  have e : ∀ i j, i < 10 → st_live H G i j = H i j := fun i j hi => st_live_lo H G hi j
  have e2 : ∀ i j, j ≠ 12 → st_live H G i j = H i j := fun i j hj => if_neg (by omega)
  obtain ⟨b1, b2, b3, b4, b5, b6, b7, b8, b9, b10⟩ := h
  refine ⟨by rw [e 0 0 (by decide)]; exact b1, by rw [e 0 1 (by decide)]; exact b2, by rw [e 0 2 (by decide)]; exact b3, by rw [e 0 3 (by decide), e 0 2 (by decide)]; exact b4, by rw [e 0 4 (by decide)]; exact b5, fun m => by rw [e 1 _ (by decide)]; exact b6 m, fun m => by rw [e 2 _ (by decide)]; exact b7 m, fun m k hk => by rw [e2 _ _ (by omega)]; exact b8 m k hk, fun m => ?_, fun m => by rw [e2 _ _ (by omega)]; exact b10 m⟩
  unfold st_live
  split
  · exact Nat.min_le_left _ _
  · exact b9 m
theorem ho_iv_live {H : ho_T} (h : ho_iv H) (G : ho_G) : ho_iv (st_live H G) := by
  have e2 : ∀ i, st_live H G i 13 = H i 13 := fun i => if_neg (by omega)
  unfold ho_iv
  rw [st_live_lo H G (show 0 < 10 by decide)]
  simp only [e2]
  exact h

theorem x_live {d : Nat} {sh : im_Sh} {mi : im_MI} {mr : im_MR} (hC : pu_C sh mr) {H K : ho_T} {G : ho_G} (hx : xa_ok H G mi mr) (hz : xh_ok H K mi) : EvM (d + 6) 78 [.ref 29] sh mi mr (fun r sh2 m2 r2 => sh2 = sh ∧ (r = .int (nI (ho_all H G)) ∧ r2 = mr ∧ xa_ok (st_live H G) G m2 mr ∧ xh_ok (st_live H G) K m2 ∧ sc_ xAll mi m2)) := by
  show Ev (d + 6) 78 0 [.ref 29, im_bad, im_bad, im_bad] [] sh mi mr _
  have hn6 := xa_n hx
  have loop2 : ∀ (j i : Nat) (w3 : Value) (m1 ma : im_MI), i + j = H 0 0 → sc_ xQ mi m1 → (∀ q, q < H 0 0 → m1 (56 + 4 * q) 2 = nI (ho_T2 H G q)) → (∀ q, q < i → ma (54 + 4 * q) 2 = nI (ho_T2 H G q)) → (∀ k j2, (∀ q, q < i → ¬ (k = 54 + 4 * q ∧ j2 = 2)) → ma k j2 = m1 k j2) → Ev (d + 6) 78 68 [.ref 29, .int (nI (ho_all H G)), .int (nI i), w3] [] sh ma mr (fun r sh2 m2 r2 => sh2 = sh ∧ (r = .int (nI (ho_all H G)) ∧ r2 = mr ∧ xa_ok (st_live H G) G m2 mr ∧ xh_ok (st_live H G) K m2 ∧ sc_ xAll mi m2)) := by
    intro j
    induction j with
    | zero =>
      intro i w3 m1 ma hi hs1 ht1 g1 g2
      try have hin : i = H 0 0 := by omega
      have hx1 := xa_sc hx hs1
      have hn29 : ma 29 2 = nI (H 0 0) := by rw [g2 29 2 (fun q hq => by omega)]; exact hx1.1
      refine ev_s (is_iload_n rfl rfl) ?_
      refine ev_s (is_aload_n rfl rfl) ?_
      refine ev_s (is_getI' rfl (pu_s hC 29 rfl rfl) rfl rfl hn29) ?_
      refine ev_s (is_icmp_ge_t rfl (nI_le (by omega) (by omega))) ?_
      refine ev_s (is_iload_n rfl rfl) ?_
      refine ev_ret (is_ireturn rfl rfl (by first | rfl | exact pu_b_nar | decide)) ?_
      have hsm : sc_ xMen m1 ma := fun k hk => by
        have h5 := of_decide_eq_false hk
        funext j2
        exact g2 k j2 (fun q hq => by omega)
      have hrow : ∀ q, q < H 0 0 → xm_ok ma (54 + 4 * q) (ho_row (st_live H G) q) := fun q hq => by
        rw [st_live_at H G hq]
        refine xm_term2 (xa_m hx1 hq) (ho_T2_le H G q) (g1 q (by omega)) (fun j2 hj2 => g2 _ _ (fun p hp => by omega)) ?_
        funext j2
        exact g2 _ _ (fun p hp => by omega)
      exact ⟨rfl, rfl, rfl, xa_men hx1 (fun a b h => st_live_lo H G h b) hsm hrow (ho_bd_live (xa_bd hx) G) (ho_iv_live (xa_iv hx) G), xh_men (xh_sc hx hz hs1) hn6 (fun a b h => st_live_lo H G h b) hsm, (hs1.mono xQ_all).trans (hsm.mono xMen_all)⟩
    | succ j ih =>
      intro i w3 m1 ma hi hs1 ht1 g1 g2
      have hx1 := xa_sc hx hs1
      have hn29 : ma 29 2 = nI (H 0 0) := by rw [g2 29 2 (fun q hq => by omega)]; exact hx1.1
      refine ev_s (is_iload_n rfl rfl) ?_
      refine ev_s (is_aload_n rfl rfl) ?_
      refine ev_s (is_getI' rfl (pu_s hC 29 rfl rfl) rfl rfl hn29) ?_
      refine ev_s (is_icmp_ge_f rfl (nI_ge (by omega) (by omega))) ?_
      refine ev_s (is_aload_n rfl rfl) ?_
      refine ev_s (is_getR rfl (pu_s hC 29 rfl rfl) rfl rfl (pu_r hC 29 0 rfl rfl)) ?_
      refine ev_s (is_iload_n rfl rfl) ?_
      refine ev_s (is_aaload (k := 1) (i) rfl (pu_s hC 30 rfl rfl) rfl rfl rfl (by omega) (pu_rows hC (by omega)).1) ?_
      refine ev_s (is_aload_n rfl rfl) ?_
      refine ev_s (is_getR rfl (pu_s hC 29 rfl rfl) rfl rfl (pu_r hC 29 1 rfl rfl)) ?_
      refine ev_s (is_iload_n rfl rfl) ?_
      refine ev_s (is_aaload (k := 1) (i) rfl (pu_s hC 31 rfl rfl) rfl rfl rfl (by omega) (pu_rows hC (by omega)).2.1) ?_
      refine ev_s (is_getI' rfl (pu_M hC (xm_Mt (m := i) (by omega))).1 rfl rfl (show ma (56 + 4 * i) 2 = nI (ho_T2 H G i) by rw [g2 (56 + 4 * i) 2 (fun q hq => by omega)]; exact ht1 i (by omega))) ?_
      refine ev_s (is_putI rfl (pu_M hC (xm_Mi (m := i) (by omega))).1 rfl rfl rfl) ?_
      refine ev_s (st_iinc_2 _ rfl rfl (nI_inc _)) ?_
      refine ev_s (is_goto rfl) ?_
      exact ih (i + 1) _ m1 _ (by omega) hs1 ht1 (fun q hq => by
        by_cases hqi : q = i
        · rw [hqi, im_u_s]
        · rw [im_u_k _ _ _ _ (by omega)]; exact g1 q (by omega)) (fun k j2 hk => by
        have hki := hk i (by omega)
        by_cases h1 : k = 54 + 4 * i
        · subst h1
          rw [im_u_j _ _ _ _ (by omega)]
          exact g2 _ _ (fun q hq => hk q (by omega))
        · rw [im_u_k _ _ _ _ h1]
          exact g2 _ _ (fun q hq => hk q (by omega)))
  have loop1 : ∀ (j i : Nat) (w3 : Value) (ma : im_MI), i + j = H 0 0 → sc_ xQ mi ma → (∀ q, q < i → ma (56 + 4 * q) 2 = nI (ho_T2 H G q)) → Ev (d + 6) 78 4 [.ref 29, .int (nI (lo_sum (fun m => ho_day H G m) i)), .int (nI i), w3] [] sh ma mr (fun r sh2 m2 r2 => sh2 = sh ∧ (r = .int (nI (ho_all H G)) ∧ r2 = mr ∧ xa_ok (st_live H G) G m2 mr ∧ xh_ok (st_live H G) K m2 ∧ sc_ xAll mi m2)) := by
    intro j
    induction j with
    | zero =>
      intro i w3 ma hi hs g1
      have hx := xa_sc hx hs
      have hin : i = H 0 0 := by omega
      refine ev_s (is_iload_n rfl rfl) ?_
      refine ev_s (is_aload_n rfl rfl) ?_
      refine ev_s (is_getI' rfl (pu_s hC 29 rfl rfl) rfl rfl hx.1) ?_
      refine ev_s (is_icmp_ge_t rfl (nI_le (by omega) (by omega))) ?_
      refine ev_s (is_iconst (nI 0) rfl rfl) ?_
      refine ev_s (st_istore_n_2 rfl rfl) ?_
      subst hin
      exact loop2 (H 0 0) 0 _ ma ma (by omega) hs g1 (fun q hq => by omega) (fun _ _ _ => rfl)
    | succ j ih =>
      intro i w3 ma hi hs g1
      have hx := xa_sc hx hs
      refine ev_s (is_iload_n rfl rfl) ?_
      refine ev_s (is_aload_n rfl rfl) ?_
      refine ev_s (is_getI' rfl (pu_s hC 29 rfl rfl) rfl rfl hx.1) ?_
      refine ev_s (is_icmp_ge_f rfl (nI_ge (by omega) (by omega))) ?_
      refine ev_s (is_aload_n rfl rfl) ?_
      refine ev_s (is_getR rfl (pu_s hC 29 rfl rfl) rfl rfl (pu_r hC 29 3 rfl rfl)) ?_
      refine ev_s (is_aload_n rfl rfl) ?_
      refine ev_s (is_getR rfl (pu_s hC 29 rfl rfl) rfl rfl (pu_r hC 29 0 rfl rfl)) ?_
      refine ev_s (is_iload_n rfl rfl) ?_
      refine ev_s (is_aaload (k := 1) (i) rfl (pu_s hC 30 rfl rfl) rfl rfl rfl (by omega) (pu_rows hC (by omega)).1) ?_
      refine ev_s (is_aload_n rfl rfl) ?_
      refine ev_s (is_iload_n rfl rfl) ?_
      refine ev_c1 (is_callR 2 [_] [_, _] rfl rfl rfl rfl rfl (Nat.le_of_ble_eq_true rfl) rfl rfl rfl (pu_s hC 29 rfl rfl)) rfl rfl (x_mate hC hx (by omega)) ?_
      refine ev_q1 (is_callR 3 [_, _] [] rfl rfl rfl rfl rfl (Nat.le_of_ble_eq_true rfl) rfl rfl rfl (pu_s hC 104 rfl rfl)) rfl (by cases ho_mcell H i <;> rfl) (x_dayO hC (xa_r hx) (xm_Mi (m := i) (by omega)) (xa_m hx (by omega)) (xa_mate hx i)) (fun r_27 mi mr hq_27 => ?_)
      obtain ⟨rfl, hmr, hsc⟩ := hq_27
      have hmr := hmr.symm
      subst hmr
      have g1 : ∀ q, q < i → mi (56 + 4 * q) 2 = nI (ho_T2 H G q) := fun q hq => by rw [hsc _ (xS_f (by omega) (by omega))]; exact g1 q hq
      have hsc := hsc.mono (xS_xQ (Or.inl rfl))
      have hs := hs.trans hsc
      have hx := xa_sc hx hsc
      rw [← ho_day_md]
      refine ev_s (st_istore_n_3 rfl rfl) ?_
      refine ev_s (is_iload_n rfl rfl) ?_
      refine ev_s (is_iload_n rfl rfl) ?_
      first
        | refine ev_s (is_iadd _ rfl (nI_add _ _)) ?_
        | refine ev_s (is_iadd _ rfl rfl) ?_
      refine ev_s (st_istore_n_1 rfl rfl) ?_
      refine ev_s (is_aload_n rfl rfl) ?_
      refine ev_s (is_iload_n rfl rfl) ?_
      refine ev_q1 (is_callR 2 [_] [] rfl rfl rfl rfl rfl (Nat.le_of_ble_eq_true rfl) rfl rfl rfl (pu_s hC 29 rfl rfl)) rfl rfl (x_thought hC hx (m := i) (by omega)) (fun r_37 mi mr hq_37 => ?_)
      obtain ⟨rfl, hmr, hsc, hok⟩ := hq_37
      have hmr := hmr.symm
      subst hmr
      have g1 : ∀ q, q < i → mi (56 + 4 * q) 2 = nI (ho_T2 H G q) := fun q hq => by rw [hsc _ (decide_eq_false (by omega))]; exact g1 q hq
      have hsc := hsc.mono (xM2_xQ (by omega))
      have hs := hs.trans hsc
      have hx := xa_sc hx hsc
      refine ev_s (is_sipush (nI 9999) rfl rfl) ?_
      refine ev_s (is_aload_n rfl rfl) ?_
      refine ev_s (is_getR rfl (pu_s hC 29 rfl rfl) rfl rfl (pu_r hC 29 0 rfl rfl)) ?_
      refine ev_s (is_iload_n rfl rfl) ?_
      refine ev_s (is_aaload (k := 1) (i) rfl (pu_s hC 30 rfl rfl) rfl rfl rfl (by omega) (pu_rows hC (by omega)).1) ?_
      refine ev_s (is_getI' rfl (pu_M hC (xm_Mi (m := i) (by omega))).1 rfl rfl (xa_term hx (by omega))) ?_
      refine ev_s (is_iload_n rfl rfl) ?_
      first
        | refine ev_s (is_iadd _ rfl (nI_add _ _)) ?_
        | refine ev_s (is_iadd _ rfl rfl) ?_
      refine ev_c1 (is_call0 2 [_, _] [_] rfl rfl rfl rfl rfl (Nat.le_of_ble_eq_true rfl) rfl rfl rfl) rfl rfl (x_min _ _) ?_
      have hdl := ho_day_le H G i
      have htl := (xa_bd hx).2.2.2.2.2.2.2.2.1 i
      rw [pu_minN (b := H (10 + i) 12 + ho_day H G i) (by decide) (by omega)]
      refine ev_s (is_putI rfl (pu_M hC (xm_Mt (m := i) (by omega))).1 rfl rfl rfl) ?_
      refine ev_s (st_iinc_2 _ rfl rfl (nI_inc _)) ?_
      refine ev_s (is_goto rfl) ?_
      refine ih (i + 1) _ _ (by omega) (hs.u (xQ_t (by omega))) (fun q hq => ?_)
      by_cases hqi : q = i
      · rw [hqi, im_u_s]; rfl
      · rw [im_u_k _ _ _ _ (by omega)]; exact g1 q (by omega)
  refine ev_s (is_iconst (nI 0) rfl rfl) ?_
  refine ev_s (st_istore_n_1 rfl rfl) ?_
  refine ev_s (is_iconst (nI 0) rfl rfl) ?_
  refine ev_s (st_istore_n_2 rfl rfl) ?_
  exact loop1 (H 0 0) 0 _ mi (by omega) sc_rf (fun q hq => by omega)
