/-! ===== PURE, the law: a call of both ===== -/
theorem is_ialoadS {y pc nx a b c LL : Nat} {L st : List Value} {sh : im_Sh} {mi : im_MI} {mr : im_MR} {i v : Int32} (j : Nat) (hi : im_ins y pc = some (nx, .iaload, a, b, c)) (hs : sh[0]? = some (200, LL)) (hn : Nat.ble LL 100000 = true) (hj : i = nI j) (h : j < LL) (hv : mi 0 j = v) : im_step y pc L (.int i :: .ref 0 :: st) sh mi mr = im_nx nx L (.int v :: st) sh mi mr := by
  rw [← hv]
  exact is_ialoadX j hi hs hn hj h
theorem lg_self (x : Int64) : lg_cmp x x = 0 := by
  unfold lg_cmp
  simp
theorem nI_7 (i : Nat) : nI i + Int32.ofInt 7 = nI (i + 7) := nI_add i 7
theorem rr_o {H : ho_T} {G : ho_G} {mi m2 : im_MI} (h : rr_ok H G mi) (e : ∀ k, 110 ≤ k → m2 k = mi k) : rr_ok H G m2 := by
  unfold rr_ok at h ⊢
  rw [e 110 (by decide), e 111 (by decide), e 112 (by decide), e 113 (by decide), e 115 (by decide), e 116 (by decide)]
  exact h
theorem rh_o {H K : ho_T} {mi m2 : im_MI} (h : rh_ok H K mi) (e : ∀ k, 110 ≤ k → m2 k = mi k) : rh_ok H K m2 := rh_row h (fun k hk => e k (by omega)) (by rw [e 110 (by decide)]) (by rw [e 110 (by decide)])
theorem xt_o {G : ho_G} {mi m2 : im_MI} {t : Nat} (h : xt_ok mi G t) (e1 : m2 (79 + 3 * t) = mi (79 + 3 * t)) (e2 : m2 (80 + 3 * t) = mi (80 + 3 * t)) : xt_ok m2 G t := by
  unfold xt_ok at h ⊢
  rw [e1, e2]
  exact h
theorem xa_o {H : ho_T} {G : ho_G} {mi m2 : im_MI} {mr r2 : im_MR} (h : xa_ok H G mi mr) (e : ∀ k, k < 110 → m2 k = mi k) (er : r2 104 0 = mr 104 0) : xa_ok H G m2 r2 := by
  have hb := xa_bd h
  have hn := xa_n h
  have ht := hb.2.2.1
  obtain ⟨h1, h2, h3, h4, h5, h6, h7, h8, h9⟩ := h
  exact ⟨by rw [e 29 (by decide)]; exact h1, by rw [e 29 (by decide)]; exact h2, by rw [e 29 (by decide)]; exact h3, by rw [e 104 (by decide)]; exact h4, er.trans h5, fun m hm => xm_row (h6 m hm) (e _ (by omega)) (e _ (by omega)), fun t q => xt_o (h7 t q) (e _ (by omega)) (e _ (by omega)), h8, h9⟩
/-- both sides, the class's perhaps a call ahead -/
def lw_M (LL : Nat) (xs : Nat → Int32) (H K : ho_T) (G : ho_G) (H2 K2 : ho_T) (G2 : ho_G) (sh : im_Sh) (mi : im_MI) (mr : im_MR) : Prop := pu_C sh mr ∧ sh[0]? = some (200, LL) ∧ (∀ j, mi 0 j = xs j) ∧ xa_ok H2 G2 mi mr ∧ xh_ok H2 K2 mi ∧ xs_W mi ∧ xk_up mi ∧ rr_ok H G mi ∧ rh_ok H K mi
section LWM
variable {LL : Nat} {xs : Nat → Int32} {H K H2 K2 : ho_T} {G G2 : ho_G} {sh : im_Sh} {mi m2 : im_MI} {mr r2 : im_MR} {r v : Value}
theorem mx_g (J : lw_M LL xs H K G H K G sh mi mr) (hq : r = v ∧ pu_C sh r2 ∧ xa_ok H2 G2 m2 r2 ∧ xh_ok H2 K2 m2 ∧ sc_ xAll mi m2) : r = v ∧ lw_M LL xs H K G H2 K2 G2 sh m2 r2 := by
  obtain ⟨j1, j2, j3, j4, j5, j6, j7, j8, j9⟩ := J
  obtain ⟨rfl, q1, q2, q3, q4⟩ := hq
  have e : ∀ k, ¬ (29 ≤ k ∧ k < 110) → m2 k = mi k := fun k hk => q4 k (decide_eq_false hk)
  exact ⟨rfl, q1, j2, fun j => by rw [e 0 (by decide)]; exact j3 j, q2, q3, xs_W_row j6 (fun k hk => e k (by omega)), fun j hj => by rw [e 1 (by decide)]; exact j7 j hj, rr_o j8 (fun k hk => e k (by omega)), rh_o j9 (fun k hk => e k (by omega))⟩
theorem mx_k (J : lw_M LL xs H K G H K G sh mi mr) (hq : r = v ∧ r2 = mr ∧ xa_ok H2 G2 m2 mr ∧ xh_ok H2 K2 m2 ∧ sc_ xAll mi m2) : r = v ∧ lw_M LL xs H K G H2 K2 G2 sh m2 r2 := by
  obtain ⟨q0, rfl, q2⟩ := hq
  exact mx_g J ⟨q0, J.1, q2⟩
theorem mx_q (J : lw_M LL xs H K G H K G sh mi mr) (hq : r = v ∧ r2 = mr ∧ sc_ xQ mi m2) : r = v ∧ lw_M LL xs H K G H K G sh m2 r2 := by
  obtain ⟨q0, rfl, q2⟩ := hq
  exact mx_g J ⟨q0, J.1, xa_sc J.2.2.2.1 q2, xh_sc J.2.2.2.1 J.2.2.2.2.1 q2, q2.mono xQ_all⟩
theorem mx_w (J : lw_M LL xs H K G H K G sh mi mr) (hq : r = v ∧ pu_C sh r2 ∧ r2 104 0 = mr 104 0 ∧ sc_ xQ mi m2) : r = v ∧ lw_M LL xs H K G H K G sh m2 r2 := by
  obtain ⟨q0, q1, q2, q3⟩ := hq
  exact mx_g J ⟨q0, q1, xa_o (xa_sc J.2.2.2.1 q3) (fun _ _ => rfl) q2, xh_sc J.2.2.2.1 J.2.2.2.2.1 q3, q3.mono xQ_all⟩
theorem mr_z (M : lw_M LL xs H K G H2 K2 G2 sh mi mr) (hq : r = v ∧ r2 = mr ∧ rz_ H2 K2 G2 mi m2) : r = v ∧ lw_M LL xs H2 K2 G2 H2 K2 G2 sh m2 r2 := by
  obtain ⟨j1, j2, j3, j4, j5, j6, j7, j8, j9⟩ := M
  obtain ⟨rfl, rfl, q1, q2, q3⟩ := hq
  have e : ∀ k, ¬ (110 ≤ k ∧ k < 133) → m2 k = mi k := fun k hk => q3 k (decide_eq_false hk)
  exact ⟨rfl, j1, j2, fun j => by rw [e 0 (by decide)]; exact j3 j, xa_o j4 (fun k hk => e k (by omega)) rfl, xh_row j5 (fun k hk => e k (by omega)) (xh_i6 j5 (xa_n j4)), xs_W_row j6 (fun k hk => e k (by omega)), fun j hj => by rw [e 1 (by decide)]; exact j7 j hj, q1, q2⟩
end LWM
theorem lw_c0 {d LL i : Nat} {xs : Nat → Int32} {H K : ho_T} {G : ho_G} {sh : im_Sh} {mi : im_MI} {mr : im_MR} {Q : ev_Q} (J : lw_M LL xs H K G H K G sh mi mr) (hi : i + 7 ≤ LL) (hLL : LL ≤ 3584) (k : ∀ H K G m3 r3, lw_M LL xs H K G H K G sh m3 r3 → Ev (d + 58) 221 1489 [.ref 0, .ref 29, .ref 110, .int (nI i)] [] sh m3 r3 Q) : Ev (d + 58) 221 200 [.ref 0, .ref 29, .ref 110, .int (nI i)] [] sh mi mr Q := by
  refine ev_s (is_aload_n rfl rfl) ?_
  refine ev_s (is_aload_n rfl rfl) ?_
  refine ev_s (is_iload_n rfl rfl) ?_
  refine ev_s (is_iconst (nI 1) rfl rfl) ?_
  first
    | refine ev_s (is_iadd _ rfl (nI_add _ _)) ?_
    | refine ev_s (is_iadd _ rfl rfl) ?_
  refine ev_s (is_ialoadS (i + 1) rfl J.2.1 (Nat.ble_eq.mpr (by omega)) rfl (by omega) (J.2.2.1 _)) ?_
  refine ev_c1 (is_callR 2 [_] [] rfl rfl rfl rfl rfl (Nat.le_of_ble_eq_true rfl) rfl rfl rfl (pu_s J.1 29 rfl rfl)) rfl rfl (x_count J.1 J.2.2.2.1 J.2.2.2.2.1 _) ?_
  have M := J
  refine ev_s (is_aload_n rfl rfl) ?_
  refine ev_s (is_aload_n rfl rfl) ?_
  refine ev_s (is_iload_n rfl rfl) ?_
  refine ev_s (is_iconst (nI 1) rfl rfl) ?_
  first
    | refine ev_s (is_iadd _ rfl (nI_add _ _)) ?_
    | refine ev_s (is_iadd _ rfl rfl) ?_
  refine ev_s (is_ialoadS (i + 1) rfl M.2.1 (Nat.ble_eq.mpr (by omega)) rfl (by omega) (M.2.2.1 _)) ?_
  refine ev_q1 (is_callR 2 [_] [_] rfl rfl rfl rfl rfl (Nat.le_of_ble_eq_true rfl) rfl rfl rfl (pu_s M.1 110 rfl rfl)) rfl rfl (r_count M.1 (rz_rf M.2.2.2.2.2.2.2.1 M.2.2.2.2.2.2.2.2) _) (fun r_215 mi mr hq_215 => ?_)
  obtain ⟨rfl, N⟩ := mr_z M hq_215
  refine ev_s (is_icmp_eq_t rfl rfl) ?_
  exact k _ _ _ _ _ N
theorem lw_c1 {d LL i : Nat} {xs : Nat → Int32} {H K : ho_T} {G : ho_G} {sh : im_Sh} {mi : im_MI} {mr : im_MR} {Q : ev_Q} (J : lw_M LL xs H K G H K G sh mi mr) (hi : i + 7 ≤ LL) (hLL : LL ≤ 3584) (k : ∀ H K G m3 r3, lw_M LL xs H K G H K G sh m3 r3 → Ev (d + 58) 221 1489 [.ref 0, .ref 29, .ref 110, .int (nI i)] [] sh m3 r3 Q) : Ev (d + 58) 221 223 [.ref 0, .ref 29, .ref 110, .int (nI i)] [] sh mi mr Q := by
  refine ev_s (is_aload_n rfl rfl) ?_
  refine ev_s (is_aload_n rfl rfl) ?_
  refine ev_s (is_iload_n rfl rfl) ?_
  refine ev_s (is_iconst (nI 1) rfl rfl) ?_
  first
    | refine ev_s (is_iadd _ rfl (nI_add _ _)) ?_
    | refine ev_s (is_iadd _ rfl rfl) ?_
  refine ev_s (is_ialoadS (i + 1) rfl J.2.1 (Nat.ble_eq.mpr (by omega)) rfl (by omega) (J.2.2.1 _)) ?_
  refine ev_q1 (is_callR 2 [_] [] rfl rfl rfl rfl rfl (Nat.le_of_ble_eq_true rfl) rfl rfl rfl (pu_s J.1 29 rfl rfl)) rfl rfl (x_watches J.1 J.2.2.2.1 J.2.2.2.2.1 _) (fun r_229 mi mr hq_229 => ?_)
  obtain ⟨rfl, M⟩ := mx_k J hq_229
  refine ev_s (is_aload_n rfl rfl) ?_
  refine ev_s (is_aload_n rfl rfl) ?_
  refine ev_s (is_iload_n rfl rfl) ?_
  refine ev_s (is_iconst (nI 1) rfl rfl) ?_
  first
    | refine ev_s (is_iadd _ rfl (nI_add _ _)) ?_
    | refine ev_s (is_iadd _ rfl rfl) ?_
  refine ev_s (is_ialoadS (i + 1) rfl M.2.1 (Nat.ble_eq.mpr (by omega)) rfl (by omega) (M.2.2.1 _)) ?_
  refine ev_q1 (is_callR 2 [_] [_] rfl rfl rfl rfl rfl (Nat.le_of_ble_eq_true rfl) rfl rfl rfl (pu_s M.1 110 rfl rfl)) rfl rfl (r_watches M.1 (rz_rf M.2.2.2.2.2.2.2.1 M.2.2.2.2.2.2.2.2) _) (fun r_238 mi mr hq_238 => ?_)
  obtain ⟨rfl, N⟩ := mr_z M hq_238
  refine ev_s (is_icmp_eq_t rfl rfl) ?_
  exact k _ _ _ _ _ N
theorem lw_c2 {d LL i : Nat} {xs : Nat → Int32} {H K : ho_T} {G : ho_G} {sh : im_Sh} {mi : im_MI} {mr : im_MR} {Q : ev_Q} (J : lw_M LL xs H K G H K G sh mi mr) (hi : i + 7 ≤ LL) (hLL : LL ≤ 3584) (k : ∀ H K G m3 r3, lw_M LL xs H K G H K G sh m3 r3 → Ev (d + 58) 221 1489 [.ref 0, .ref 29, .ref 110, .int (nI i)] [] sh m3 r3 Q) : Ev (d + 58) 221 246 [.ref 0, .ref 29, .ref 110, .int (nI i)] [] sh mi mr Q := by
  refine ev_s (is_aload_n rfl rfl) ?_
  refine ev_s (is_aload_n rfl rfl) ?_
  refine ev_s (is_iload_n rfl rfl) ?_
  refine ev_s (is_iconst (nI 1) rfl rfl) ?_
  first
    | refine ev_s (is_iadd _ rfl (nI_add _ _)) ?_
    | refine ev_s (is_iadd _ rfl rfl) ?_
  refine ev_s (is_ialoadS (i + 1) rfl J.2.1 (Nat.ble_eq.mpr (by omega)) rfl (by omega) (J.2.2.1 _)) ?_
  refine ev_s (is_aload_n rfl rfl) ?_
  refine ev_s (is_iload_n rfl rfl) ?_
  refine ev_s (is_iconst (nI 2) rfl rfl) ?_
  first
    | refine ev_s (is_iadd _ rfl (nI_add _ _)) ?_
    | refine ev_s (is_iadd _ rfl rfl) ?_
  refine ev_s (is_ialoadS (i + 2) rfl J.2.1 (Nat.ble_eq.mpr (by omega)) rfl (by omega) (J.2.2.1 _)) ?_
  refine ev_s (is_aload_n rfl rfl) ?_
  refine ev_s (is_iload_n rfl rfl) ?_
  refine ev_s (is_iconst (nI 3) rfl rfl) ?_
  first
    | refine ev_s (is_iadd _ rfl (nI_add _ _)) ?_
    | refine ev_s (is_iadd _ rfl rfl) ?_
  refine ev_s (is_ialoadS (i + 3) rfl J.2.1 (Nat.ble_eq.mpr (by omega)) rfl (by omega) (J.2.2.1 _)) ?_
  refine ev_s (is_aload_n rfl rfl) ?_
  refine ev_s (is_iload_n rfl rfl) ?_
  refine ev_s (is_iconst (nI 4) rfl rfl) ?_
  first
    | refine ev_s (is_iadd _ rfl (nI_add _ _)) ?_
    | refine ev_s (is_iadd _ rfl rfl) ?_
  refine ev_s (is_ialoadS (i + 4) rfl J.2.1 (Nat.ble_eq.mpr (by omega)) rfl (by omega) (J.2.2.1 _)) ?_
  refine ev_s (is_aload_n rfl rfl) ?_
  refine ev_s (is_iload_n rfl rfl) ?_
  refine ev_s (is_iconst (nI 5) rfl rfl) ?_
  first
    | refine ev_s (is_iadd _ rfl (nI_add _ _)) ?_
    | refine ev_s (is_iadd _ rfl rfl) ?_
  refine ev_s (is_ialoadS (i + 5) rfl J.2.1 (Nat.ble_eq.mpr (by omega)) rfl (by omega) (J.2.2.1 _)) ?_
  refine ev_s (is_aload_n rfl rfl) ?_
  refine ev_s (is_iload_n rfl rfl) ?_
  refine ev_s (is_bipush (nI 6) rfl rfl) ?_
  first
    | refine ev_s (is_iadd _ rfl (nI_add _ _)) ?_
    | refine ev_s (is_iadd _ rfl rfl) ?_
  refine ev_s (is_ialoadS (i + 6) rfl J.2.1 (Nat.ble_eq.mpr (by omega)) rfl (by omega) (J.2.2.1 _)) ?_
  refine ev_q1 (is_callR 7 [_, _, _, _, _, _] [] rfl rfl rfl rfl rfl (Nat.le_of_ble_eq_true rfl) rfl rfl rfl (pu_s J.1 29 rfl rfl)) rfl rfl (x_feed J.1 J.2.2.2.1 J.2.2.2.2.1 _ _ _ _ _ _) (fun r_278 mi mr hq_278 => ?_)
  obtain ⟨rfl, M⟩ := mx_k J hq_278
  refine ev_s (is_aload_n rfl rfl) ?_
  refine ev_s (is_aload_n rfl rfl) ?_
  refine ev_s (is_iload_n rfl rfl) ?_
  refine ev_s (is_iconst (nI 1) rfl rfl) ?_
  first
    | refine ev_s (is_iadd _ rfl (nI_add _ _)) ?_
    | refine ev_s (is_iadd _ rfl rfl) ?_
  refine ev_s (is_ialoadS (i + 1) rfl M.2.1 (Nat.ble_eq.mpr (by omega)) rfl (by omega) (M.2.2.1 _)) ?_
  refine ev_s (is_aload_n rfl rfl) ?_
  refine ev_s (is_iload_n rfl rfl) ?_
  refine ev_s (is_iconst (nI 2) rfl rfl) ?_
  first
    | refine ev_s (is_iadd _ rfl (nI_add _ _)) ?_
    | refine ev_s (is_iadd _ rfl rfl) ?_
  refine ev_s (is_ialoadS (i + 2) rfl M.2.1 (Nat.ble_eq.mpr (by omega)) rfl (by omega) (M.2.2.1 _)) ?_
  refine ev_s (is_aload_n rfl rfl) ?_
  refine ev_s (is_iload_n rfl rfl) ?_
  refine ev_s (is_iconst (nI 3) rfl rfl) ?_
  first
    | refine ev_s (is_iadd _ rfl (nI_add _ _)) ?_
    | refine ev_s (is_iadd _ rfl rfl) ?_
  refine ev_s (is_ialoadS (i + 3) rfl M.2.1 (Nat.ble_eq.mpr (by omega)) rfl (by omega) (M.2.2.1 _)) ?_
  refine ev_s (is_aload_n rfl rfl) ?_
  refine ev_s (is_iload_n rfl rfl) ?_
  refine ev_s (is_iconst (nI 4) rfl rfl) ?_
  first
    | refine ev_s (is_iadd _ rfl (nI_add _ _)) ?_
    | refine ev_s (is_iadd _ rfl rfl) ?_
  refine ev_s (is_ialoadS (i + 4) rfl M.2.1 (Nat.ble_eq.mpr (by omega)) rfl (by omega) (M.2.2.1 _)) ?_
  refine ev_s (is_aload_n rfl rfl) ?_
  refine ev_s (is_iload_n rfl rfl) ?_
  refine ev_s (is_iconst (nI 5) rfl rfl) ?_
  first
    | refine ev_s (is_iadd _ rfl (nI_add _ _)) ?_
    | refine ev_s (is_iadd _ rfl rfl) ?_
  refine ev_s (is_ialoadS (i + 5) rfl M.2.1 (Nat.ble_eq.mpr (by omega)) rfl (by omega) (M.2.2.1 _)) ?_
  refine ev_s (is_aload_n rfl rfl) ?_
  refine ev_s (is_iload_n rfl rfl) ?_
  refine ev_s (is_bipush (nI 6) rfl rfl) ?_
  first
    | refine ev_s (is_iadd _ rfl (nI_add _ _)) ?_
    | refine ev_s (is_iadd _ rfl rfl) ?_
  refine ev_s (is_ialoadS (i + 6) rfl M.2.1 (Nat.ble_eq.mpr (by omega)) rfl (by omega) (M.2.2.1 _)) ?_
  refine ev_q1 (is_callR 7 [_, _, _, _, _, _] [_] rfl rfl rfl rfl rfl (Nat.le_of_ble_eq_true rfl) rfl rfl rfl (pu_s M.1 110 rfl rfl)) rfl rfl (r_feed M.1 (rz_rf M.2.2.2.2.2.2.2.1 M.2.2.2.2.2.2.2.2) _ _ _ _ _ _) (fun r_313 mi mr hq_313 => ?_)
  obtain ⟨rfl, N⟩ := mr_z M hq_313
  refine ev_s (is_icmp_eq_t rfl rfl) ?_
  exact k _ _ _ _ _ N
theorem lw_c3 {d LL i : Nat} {xs : Nat → Int32} {H K : ho_T} {G : ho_G} {sh : im_Sh} {mi : im_MI} {mr : im_MR} {Q : ev_Q} (J : lw_M LL xs H K G H K G sh mi mr) (hi : i + 7 ≤ LL) (hLL : LL ≤ 3584) (k : ∀ H K G m3 r3, lw_M LL xs H K G H K G sh m3 r3 → Ev (d + 58) 221 1489 [.ref 0, .ref 29, .ref 110, .int (nI i)] [] sh m3 r3 Q) : Ev (d + 58) 221 321 [.ref 0, .ref 29, .ref 110, .int (nI i)] [] sh mi mr Q := by
  refine ev_s (is_aload_n rfl rfl) ?_
  refine ev_q1 (is_callR 1 [] [] rfl rfl rfl rfl rfl (Nat.le_of_ble_eq_true rfl) rfl rfl rfl (pu_s J.1 29 rfl rfl)) rfl rfl (x_text J.1 J.2.2.2.1 J.2.2.2.2.1 J.2.2.2.2.2.1) (fun r_322 mi mr hq_322 => ?_)
  obtain ⟨rfl, M⟩ := mx_g J hq_322
  refine ev_s (is_aload_n rfl rfl) ?_
  refine ev_q1 (is_callR 1 [] [_] rfl rfl rfl rfl rfl (Nat.le_of_ble_eq_true rfl) rfl rfl rfl (pu_s M.1 110 rfl rfl)) rfl rfl (r_text M.1 (rz_rf M.2.2.2.2.2.2.2.1 M.2.2.2.2.2.2.2.2)) (fun r_326 mi mr hq_326 => ?_)
  obtain ⟨rfl, N⟩ := mr_z M hq_326
  refine ev_s (is_icmp_eq_t rfl rfl) ?_
  exact k _ _ _ _ _ N
theorem lw_c4 {d LL i : Nat} {xs : Nat → Int32} {H K : ho_T} {G : ho_G} {sh : im_Sh} {mi : im_MI} {mr : im_MR} {Q : ev_Q} (J : lw_M LL xs H K G H K G sh mi mr) (hi : i + 7 ≤ LL) (hLL : LL ≤ 3584) (k : ∀ H K G m3 r3, lw_M LL xs H K G H K G sh m3 r3 → Ev (d + 58) 221 1489 [.ref 0, .ref 29, .ref 110, .int (nI i)] [] sh m3 r3 Q) : Ev (d + 58) 221 334 [.ref 0, .ref 29, .ref 110, .int (nI i)] [] sh mi mr Q := by
  refine ev_s (is_aload_n rfl rfl) ?_
  refine ev_s (is_aload_n rfl rfl) ?_
  refine ev_s (is_iload_n rfl rfl) ?_
  refine ev_s (is_iconst (nI 1) rfl rfl) ?_
  first
    | refine ev_s (is_iadd _ rfl (nI_add _ _)) ?_
    | refine ev_s (is_iadd _ rfl rfl) ?_
  refine ev_s (is_ialoadS (i + 1) rfl J.2.1 (Nat.ble_eq.mpr (by omega)) rfl (by omega) (J.2.2.1 _)) ?_
  refine ev_q1 (is_callR 2 [_] [] rfl rfl rfl rfl rfl (Nat.le_of_ble_eq_true rfl) rfl rfl rfl (pu_s J.1 29 rfl rfl)) rfl rfl (x_force J.1 J.2.2.2.1 J.2.2.2.2.1 _) (fun r_340 mi mr hq_340 => ?_)
  obtain ⟨rfl, M⟩ := mx_g J hq_340
  refine ev_s (is_aload_n rfl rfl) ?_
  refine ev_s (is_aload_n rfl rfl) ?_
  refine ev_s (is_iload_n rfl rfl) ?_
  refine ev_s (is_iconst (nI 1) rfl rfl) ?_
  first
    | refine ev_s (is_iadd _ rfl (nI_add _ _)) ?_
    | refine ev_s (is_iadd _ rfl rfl) ?_
  refine ev_s (is_ialoadS (i + 1) rfl M.2.1 (Nat.ble_eq.mpr (by omega)) rfl (by omega) (M.2.2.1 _)) ?_
  refine ev_q1 (is_callR 2 [_] [_] rfl rfl rfl rfl rfl (Nat.le_of_ble_eq_true rfl) rfl rfl rfl (pu_s M.1 110 rfl rfl)) rfl rfl (r_force M.1 (rz_rf M.2.2.2.2.2.2.2.1 M.2.2.2.2.2.2.2.2) _) (fun r_349 mi mr hq_349 => ?_)
  obtain ⟨rfl, N⟩ := mr_z M hq_349
  refine ev_s (is_icmp_eq_t rfl rfl) ?_
  exact k _ _ _ _ _ N
theorem lw_c5 {d LL i : Nat} {xs : Nat → Int32} {H K : ho_T} {G : ho_G} {sh : im_Sh} {mi : im_MI} {mr : im_MR} {Q : ev_Q} (J : lw_M LL xs H K G H K G sh mi mr) (hi : i + 7 ≤ LL) (hLL : LL ≤ 3584) (k : ∀ H K G m3 r3, lw_M LL xs H K G H K G sh m3 r3 → Ev (d + 58) 221 1489 [.ref 0, .ref 29, .ref 110, .int (nI i)] [] sh m3 r3 Q) : Ev (d + 58) 221 357 [.ref 0, .ref 29, .ref 110, .int (nI i)] [] sh mi mr Q := by
  refine ev_s (is_aload_n rfl rfl) ?_
  refine ev_s (is_aload_n rfl rfl) ?_
  refine ev_s (is_iload_n rfl rfl) ?_
  refine ev_s (is_iconst (nI 1) rfl rfl) ?_
  first
    | refine ev_s (is_iadd _ rfl (nI_add _ _)) ?_
    | refine ev_s (is_iadd _ rfl rfl) ?_
  refine ev_s (is_ialoadS (i + 1) rfl J.2.1 (Nat.ble_eq.mpr (by omega)) rfl (by omega) (J.2.2.1 _)) ?_
  refine ev_s (is_aload_n rfl rfl) ?_
  refine ev_s (is_iload_n rfl rfl) ?_
  refine ev_s (is_iconst (nI 2) rfl rfl) ?_
  first
    | refine ev_s (is_iadd _ rfl (nI_add _ _)) ?_
    | refine ev_s (is_iadd _ rfl rfl) ?_
  refine ev_s (is_ialoadS (i + 2) rfl J.2.1 (Nat.ble_eq.mpr (by omega)) rfl (by omega) (J.2.2.1 _)) ?_
  refine ev_s (is_aload_n rfl rfl) ?_
  refine ev_s (is_iload_n rfl rfl) ?_
  refine ev_s (is_iconst (nI 3) rfl rfl) ?_
  first
    | refine ev_s (is_iadd _ rfl (nI_add _ _)) ?_
    | refine ev_s (is_iadd _ rfl rfl) ?_
  refine ev_s (is_ialoadS (i + 3) rfl J.2.1 (Nat.ble_eq.mpr (by omega)) rfl (by omega) (J.2.2.1 _)) ?_
  refine ev_q1 (is_callR 4 [_, _, _] [] rfl rfl rfl rfl rfl (Nat.le_of_ble_eq_true rfl) rfl rfl rfl (pu_s J.1 29 rfl rfl)) rfl rfl (x_asks J.1 J.2.2.2.1 _ _ _) (fun r_373 mi mr hq_373 => ?_)
  obtain ⟨rfl, M⟩ := mx_q J hq_373
  refine ev_s (is_aload_n rfl rfl) ?_
  refine ev_s (is_aload_n rfl rfl) ?_
  refine ev_s (is_iload_n rfl rfl) ?_
  refine ev_s (is_iconst (nI 1) rfl rfl) ?_
  first
    | refine ev_s (is_iadd _ rfl (nI_add _ _)) ?_
    | refine ev_s (is_iadd _ rfl rfl) ?_
  refine ev_s (is_ialoadS (i + 1) rfl M.2.1 (Nat.ble_eq.mpr (by omega)) rfl (by omega) (M.2.2.1 _)) ?_
  refine ev_s (is_aload_n rfl rfl) ?_
  refine ev_s (is_iload_n rfl rfl) ?_
  refine ev_s (is_iconst (nI 2) rfl rfl) ?_
  first
    | refine ev_s (is_iadd _ rfl (nI_add _ _)) ?_
    | refine ev_s (is_iadd _ rfl rfl) ?_
  refine ev_s (is_ialoadS (i + 2) rfl M.2.1 (Nat.ble_eq.mpr (by omega)) rfl (by omega) (M.2.2.1 _)) ?_
  refine ev_s (is_aload_n rfl rfl) ?_
  refine ev_s (is_iload_n rfl rfl) ?_
  refine ev_s (is_iconst (nI 3) rfl rfl) ?_
  first
    | refine ev_s (is_iadd _ rfl (nI_add _ _)) ?_
    | refine ev_s (is_iadd _ rfl rfl) ?_
  refine ev_s (is_ialoadS (i + 3) rfl M.2.1 (Nat.ble_eq.mpr (by omega)) rfl (by omega) (M.2.2.1 _)) ?_
  refine ev_q1 (is_callR 4 [_, _, _] [_] rfl rfl rfl rfl rfl (Nat.le_of_ble_eq_true rfl) rfl rfl rfl (pu_s M.1 110 rfl rfl)) rfl rfl (r_asks M.1 (rz_rf M.2.2.2.2.2.2.2.1 M.2.2.2.2.2.2.2.2) _ _ _) (fun r_392 mi mr hq_392 => ?_)
  obtain ⟨rfl, N⟩ := mr_z M hq_392
  refine ev_s (is_icmp_eq_t rfl rfl) ?_
  exact k _ _ _ _ _ N
theorem lw_c6 {d LL i : Nat} {xs : Nat → Int32} {H K : ho_T} {G : ho_G} {sh : im_Sh} {mi : im_MI} {mr : im_MR} {Q : ev_Q} (J : lw_M LL xs H K G H K G sh mi mr) (hi : i + 7 ≤ LL) (hLL : LL ≤ 3584) (k : ∀ H K G m3 r3, lw_M LL xs H K G H K G sh m3 r3 → Ev (d + 58) 221 1489 [.ref 0, .ref 29, .ref 110, .int (nI i)] [] sh m3 r3 Q) : Ev (d + 58) 221 400 [.ref 0, .ref 29, .ref 110, .int (nI i)] [] sh mi mr Q := by
  refine ev_s (is_aload_n rfl rfl) ?_
  refine ev_s (is_aload_n rfl rfl) ?_
  refine ev_s (is_iload_n rfl rfl) ?_
  refine ev_s (is_iconst (nI 1) rfl rfl) ?_
  first
    | refine ev_s (is_iadd _ rfl (nI_add _ _)) ?_
    | refine ev_s (is_iadd _ rfl rfl) ?_
  refine ev_s (is_ialoadS (i + 1) rfl J.2.1 (Nat.ble_eq.mpr (by omega)) rfl (by omega) (J.2.2.1 _)) ?_
  refine ev_q1 (is_callR 2 [_] [] rfl rfl rfl rfl rfl (Nat.le_of_ble_eq_true rfl) rfl rfl rfl (pu_s J.1 29 rfl rfl)) rfl rfl (x_man J.1 J.2.2.2.1 J.2.2.2.2.1 _) (fun r_406 mi mr hq_406 => ?_)
  obtain ⟨rfl, M⟩ := mx_k J hq_406
  refine ev_s (is_aload_n rfl rfl) ?_
  refine ev_s (is_aload_n rfl rfl) ?_
  refine ev_s (is_iload_n rfl rfl) ?_
  refine ev_s (is_iconst (nI 1) rfl rfl) ?_
  first
    | refine ev_s (is_iadd _ rfl (nI_add _ _)) ?_
    | refine ev_s (is_iadd _ rfl rfl) ?_
  refine ev_s (is_ialoadS (i + 1) rfl M.2.1 (Nat.ble_eq.mpr (by omega)) rfl (by omega) (M.2.2.1 _)) ?_
  refine ev_q1 (is_callR 2 [_] [_] rfl rfl rfl rfl rfl (Nat.le_of_ble_eq_true rfl) rfl rfl rfl (pu_s M.1 110 rfl rfl)) rfl rfl (r_man M.1 (rz_rf M.2.2.2.2.2.2.2.1 M.2.2.2.2.2.2.2.2) _) (fun r_415 mi mr hq_415 => ?_)
  obtain ⟨rfl, N⟩ := mr_z M hq_415
  refine ev_s (is_icmp_eq_t rfl rfl) ?_
  exact k _ _ _ _ _ N
theorem lw_c7 {d LL i : Nat} {xs : Nat → Int32} {H K : ho_T} {G : ho_G} {sh : im_Sh} {mi : im_MI} {mr : im_MR} {Q : ev_Q} (J : lw_M LL xs H K G H K G sh mi mr) (hi : i + 7 ≤ LL) (hLL : LL ≤ 3584) (k : ∀ H K G m3 r3, lw_M LL xs H K G H K G sh m3 r3 → Ev (d + 58) 221 1489 [.ref 0, .ref 29, .ref 110, .int (nI i)] [] sh m3 r3 Q) : Ev (d + 58) 221 423 [.ref 0, .ref 29, .ref 110, .int (nI i)] [] sh mi mr Q := by
  refine ev_s (is_aload_n rfl rfl) ?_
  refine ev_s (is_aload_n rfl rfl) ?_
  refine ev_s (is_iload_n rfl rfl) ?_
  refine ev_s (is_iconst (nI 1) rfl rfl) ?_
  first
    | refine ev_s (is_iadd _ rfl (nI_add _ _)) ?_
    | refine ev_s (is_iadd _ rfl rfl) ?_
  refine ev_s (is_ialoadS (i + 1) rfl J.2.1 (Nat.ble_eq.mpr (by omega)) rfl (by omega) (J.2.2.1 _)) ?_
  refine ev_s (is_aload_n rfl rfl) ?_
  refine ev_s (is_iload_n rfl rfl) ?_
  refine ev_s (is_iconst (nI 2) rfl rfl) ?_
  first
    | refine ev_s (is_iadd _ rfl (nI_add _ _)) ?_
    | refine ev_s (is_iadd _ rfl rfl) ?_
  refine ev_s (is_ialoadS (i + 2) rfl J.2.1 (Nat.ble_eq.mpr (by omega)) rfl (by omega) (J.2.2.1 _)) ?_
  refine ev_s (is_aload_n rfl rfl) ?_
  refine ev_s (is_iload_n rfl rfl) ?_
  refine ev_s (is_iconst (nI 3) rfl rfl) ?_
  first
    | refine ev_s (is_iadd _ rfl (nI_add _ _)) ?_
    | refine ev_s (is_iadd _ rfl rfl) ?_
  refine ev_s (is_ialoadS (i + 3) rfl J.2.1 (Nat.ble_eq.mpr (by omega)) rfl (by omega) (J.2.2.1 _)) ?_
  refine ev_q1 (is_callR 4 [_, _, _] [] rfl rfl rfl rfl rfl (Nat.le_of_ble_eq_true rfl) rfl rfl rfl (pu_s J.1 29 rfl rfl)) rfl rfl (x_put J.1 J.2.2.2.1 J.2.2.2.2.1 _ _ _) (fun r_439 mi mr hq_439 => ?_)
  obtain ⟨rfl, M⟩ := mx_k J hq_439
  refine ev_s (is_aload_n rfl rfl) ?_
  refine ev_s (is_aload_n rfl rfl) ?_
  refine ev_s (is_iload_n rfl rfl) ?_
  refine ev_s (is_iconst (nI 1) rfl rfl) ?_
  first
    | refine ev_s (is_iadd _ rfl (nI_add _ _)) ?_
    | refine ev_s (is_iadd _ rfl rfl) ?_
  refine ev_s (is_ialoadS (i + 1) rfl M.2.1 (Nat.ble_eq.mpr (by omega)) rfl (by omega) (M.2.2.1 _)) ?_
  refine ev_s (is_aload_n rfl rfl) ?_
  refine ev_s (is_iload_n rfl rfl) ?_
  refine ev_s (is_iconst (nI 2) rfl rfl) ?_
  first
    | refine ev_s (is_iadd _ rfl (nI_add _ _)) ?_
    | refine ev_s (is_iadd _ rfl rfl) ?_
  refine ev_s (is_ialoadS (i + 2) rfl M.2.1 (Nat.ble_eq.mpr (by omega)) rfl (by omega) (M.2.2.1 _)) ?_
  refine ev_s (is_aload_n rfl rfl) ?_
  refine ev_s (is_iload_n rfl rfl) ?_
  refine ev_s (is_iconst (nI 3) rfl rfl) ?_
  first
    | refine ev_s (is_iadd _ rfl (nI_add _ _)) ?_
    | refine ev_s (is_iadd _ rfl rfl) ?_
  refine ev_s (is_ialoadS (i + 3) rfl M.2.1 (Nat.ble_eq.mpr (by omega)) rfl (by omega) (M.2.2.1 _)) ?_
  refine ev_q1 (is_callR 4 [_, _, _] [_] rfl rfl rfl rfl rfl (Nat.le_of_ble_eq_true rfl) rfl rfl rfl (pu_s M.1 110 rfl rfl)) rfl rfl (r_put M.1 (rz_rf M.2.2.2.2.2.2.2.1 M.2.2.2.2.2.2.2.2) _ _ _) (fun r_458 mi mr hq_458 => ?_)
  obtain ⟨rfl, N⟩ := mr_z M hq_458
  refine ev_s (is_icmp_eq_t rfl rfl) ?_
  exact k _ _ _ _ _ N
theorem lw_c8 {d LL i : Nat} {xs : Nat → Int32} {H K : ho_T} {G : ho_G} {sh : im_Sh} {mi : im_MI} {mr : im_MR} {Q : ev_Q} (J : lw_M LL xs H K G H K G sh mi mr) (hi : i + 7 ≤ LL) (hLL : LL ≤ 3584) (k : ∀ H K G m3 r3, lw_M LL xs H K G H K G sh m3 r3 → Ev (d + 58) 221 1489 [.ref 0, .ref 29, .ref 110, .int (nI i)] [] sh m3 r3 Q) : Ev (d + 58) 221 466 [.ref 0, .ref 29, .ref 110, .int (nI i)] [] sh mi mr Q := by
  refine ev_s (is_aload_n rfl rfl) ?_
  refine ev_s (is_aload_n rfl rfl) ?_
  refine ev_s (is_iload_n rfl rfl) ?_
  refine ev_s (is_iconst (nI 1) rfl rfl) ?_
  first
    | refine ev_s (is_iadd _ rfl (nI_add _ _)) ?_
    | refine ev_s (is_iadd _ rfl rfl) ?_
  refine ev_s (is_ialoadS (i + 1) rfl J.2.1 (Nat.ble_eq.mpr (by omega)) rfl (by omega) (J.2.2.1 _)) ?_
  refine ev_s (is_aload_n rfl rfl) ?_
  refine ev_s (is_iload_n rfl rfl) ?_
  refine ev_s (is_iconst (nI 2) rfl rfl) ?_
  first
    | refine ev_s (is_iadd _ rfl (nI_add _ _)) ?_
    | refine ev_s (is_iadd _ rfl rfl) ?_
  refine ev_s (is_ialoadS (i + 2) rfl J.2.1 (Nat.ble_eq.mpr (by omega)) rfl (by omega) (J.2.2.1 _)) ?_
  refine ev_c1 (is_callR 3 [_, _] [] rfl rfl rfl rfl rfl (Nat.le_of_ble_eq_true rfl) rfl rfl rfl (pu_s J.1 29 rfl rfl)) rfl rfl (x_told J.1 J.2.2.2.1 _ _) ?_
  have M := J
  refine ev_s (is_aload_n rfl rfl) ?_
  refine ev_s (is_aload_n rfl rfl) ?_
  refine ev_s (is_iload_n rfl rfl) ?_
  refine ev_s (is_iconst (nI 1) rfl rfl) ?_
  first
    | refine ev_s (is_iadd _ rfl (nI_add _ _)) ?_
    | refine ev_s (is_iadd _ rfl rfl) ?_
  refine ev_s (is_ialoadS (i + 1) rfl M.2.1 (Nat.ble_eq.mpr (by omega)) rfl (by omega) (M.2.2.1 _)) ?_
  refine ev_s (is_aload_n rfl rfl) ?_
  refine ev_s (is_iload_n rfl rfl) ?_
  refine ev_s (is_iconst (nI 2) rfl rfl) ?_
  first
    | refine ev_s (is_iadd _ rfl (nI_add _ _)) ?_
    | refine ev_s (is_iadd _ rfl rfl) ?_
  refine ev_s (is_ialoadS (i + 2) rfl M.2.1 (Nat.ble_eq.mpr (by omega)) rfl (by omega) (M.2.2.1 _)) ?_
  refine ev_q1 (is_callR 3 [_, _] [_] rfl rfl rfl rfl rfl (Nat.le_of_ble_eq_true rfl) rfl rfl rfl (pu_s M.1 110 rfl rfl)) rfl rfl (r_told M.1 (rz_rf M.2.2.2.2.2.2.2.1 M.2.2.2.2.2.2.2.2) _ _) (fun r_491 mi mr hq_491 => ?_)
  obtain ⟨rfl, N⟩ := mr_z M hq_491
  refine ev_s (is_icmp_eq_t rfl rfl) ?_
  exact k _ _ _ _ _ N
theorem lw_c9 {d LL i : Nat} {xs : Nat → Int32} {H K : ho_T} {G : ho_G} {sh : im_Sh} {mi : im_MI} {mr : im_MR} {Q : ev_Q} (J : lw_M LL xs H K G H K G sh mi mr) (hi : i + 7 ≤ LL) (hLL : LL ≤ 3584) (k : ∀ H K G m3 r3, lw_M LL xs H K G H K G sh m3 r3 → Ev (d + 58) 221 1489 [.ref 0, .ref 29, .ref 110, .int (nI i)] [] sh m3 r3 Q) : Ev (d + 58) 221 499 [.ref 0, .ref 29, .ref 110, .int (nI i)] [] sh mi mr Q := by
  refine ev_s (is_aload_n rfl rfl) ?_
  refine ev_s (is_aload_n rfl rfl) ?_
  refine ev_s (is_iload_n rfl rfl) ?_
  refine ev_s (is_iconst (nI 1) rfl rfl) ?_
  first
    | refine ev_s (is_iadd _ rfl (nI_add _ _)) ?_
    | refine ev_s (is_iadd _ rfl rfl) ?_
  refine ev_s (is_ialoadS (i + 1) rfl J.2.1 (Nat.ble_eq.mpr (by omega)) rfl (by omega) (J.2.2.1 _)) ?_
  refine ev_s (is_aload_n rfl rfl) ?_
  refine ev_s (is_iload_n rfl rfl) ?_
  refine ev_s (is_iconst (nI 2) rfl rfl) ?_
  first
    | refine ev_s (is_iadd _ rfl (nI_add _ _)) ?_
    | refine ev_s (is_iadd _ rfl rfl) ?_
  refine ev_s (is_ialoadS (i + 2) rfl J.2.1 (Nat.ble_eq.mpr (by omega)) rfl (by omega) (J.2.2.1 _)) ?_
  refine ev_q1 (is_callR 3 [_, _] [] rfl rfl rfl rfl rfl (Nat.le_of_ble_eq_true rfl) rfl rfl rfl (pu_s J.1 29 rfl rfl)) rfl rfl (x_move J.1 J.2.2.2.1 J.2.2.2.2.1 _ _) (fun r_510 mi mr hq_510 => ?_)
  obtain ⟨rfl, M⟩ := mx_k J hq_510
  refine ev_s (is_aload_n rfl rfl) ?_
  refine ev_s (is_aload_n rfl rfl) ?_
  refine ev_s (is_iload_n rfl rfl) ?_
  refine ev_s (is_iconst (nI 1) rfl rfl) ?_
  first
    | refine ev_s (is_iadd _ rfl (nI_add _ _)) ?_
    | refine ev_s (is_iadd _ rfl rfl) ?_
  refine ev_s (is_ialoadS (i + 1) rfl M.2.1 (Nat.ble_eq.mpr (by omega)) rfl (by omega) (M.2.2.1 _)) ?_
  refine ev_s (is_aload_n rfl rfl) ?_
  refine ev_s (is_iload_n rfl rfl) ?_
  refine ev_s (is_iconst (nI 2) rfl rfl) ?_
  first
    | refine ev_s (is_iadd _ rfl (nI_add _ _)) ?_
    | refine ev_s (is_iadd _ rfl rfl) ?_
  refine ev_s (is_ialoadS (i + 2) rfl M.2.1 (Nat.ble_eq.mpr (by omega)) rfl (by omega) (M.2.2.1 _)) ?_
  refine ev_q1 (is_callR 3 [_, _] [_] rfl rfl rfl rfl rfl (Nat.le_of_ble_eq_true rfl) rfl rfl rfl (pu_s M.1 110 rfl rfl)) rfl rfl (r_move M.1 (rz_rf M.2.2.2.2.2.2.2.1 M.2.2.2.2.2.2.2.2) _ _) (fun r_524 mi mr hq_524 => ?_)
  obtain ⟨rfl, N⟩ := mr_z M hq_524
  refine ev_s (is_icmp_eq_t rfl rfl) ?_
  exact k _ _ _ _ _ N
theorem lw_c10 {d LL i : Nat} {xs : Nat → Int32} {H K : ho_T} {G : ho_G} {sh : im_Sh} {mi : im_MI} {mr : im_MR} {Q : ev_Q} (J : lw_M LL xs H K G H K G sh mi mr) (hi : i + 7 ≤ LL) (hLL : LL ≤ 3584) (k : ∀ H K G m3 r3, lw_M LL xs H K G H K G sh m3 r3 → Ev (d + 58) 221 1489 [.ref 0, .ref 29, .ref 110, .int (nI i)] [] sh m3 r3 Q) : Ev (d + 58) 221 532 [.ref 0, .ref 29, .ref 110, .int (nI i)] [] sh mi mr Q := by
  refine ev_s (is_aload_n rfl rfl) ?_
  refine ev_s (is_aload_n rfl rfl) ?_
  refine ev_s (is_iload_n rfl rfl) ?_
  refine ev_s (is_iconst (nI 1) rfl rfl) ?_
  first
    | refine ev_s (is_iadd _ rfl (nI_add _ _)) ?_
    | refine ev_s (is_iadd _ rfl rfl) ?_
  refine ev_s (is_ialoadS (i + 1) rfl J.2.1 (Nat.ble_eq.mpr (by omega)) rfl (by omega) (J.2.2.1 _)) ?_
  refine ev_s (is_aload_n rfl rfl) ?_
  refine ev_s (is_iload_n rfl rfl) ?_
  refine ev_s (is_iconst (nI 2) rfl rfl) ?_
  first
    | refine ev_s (is_iadd _ rfl (nI_add _ _)) ?_
    | refine ev_s (is_iadd _ rfl rfl) ?_
  refine ev_s (is_ialoadS (i + 2) rfl J.2.1 (Nat.ble_eq.mpr (by omega)) rfl (by omega) (J.2.2.1 _)) ?_
  refine ev_s (is_aload_n rfl rfl) ?_
  refine ev_s (is_iload_n rfl rfl) ?_
  refine ev_s (is_iconst (nI 3) rfl rfl) ?_
  first
    | refine ev_s (is_iadd _ rfl (nI_add _ _)) ?_
    | refine ev_s (is_iadd _ rfl rfl) ?_
  refine ev_s (is_ialoadS (i + 3) rfl J.2.1 (Nat.ble_eq.mpr (by omega)) rfl (by omega) (J.2.2.1 _)) ?_
  refine ev_q1 (is_callR 4 [_, _, _] [] rfl rfl rfl rfl rfl (Nat.le_of_ble_eq_true rfl) rfl rfl rfl (pu_s J.1 29 rfl rfl)) rfl rfl (x_hour J.1 J.2.2.2.1 _ _ _) (fun r_548 mi mr hq_548 => ?_)
  obtain ⟨rfl, M⟩ := mx_q J hq_548
  refine ev_s (is_aload_n rfl rfl) ?_
  refine ev_s (is_aload_n rfl rfl) ?_
  refine ev_s (is_iload_n rfl rfl) ?_
  refine ev_s (is_iconst (nI 1) rfl rfl) ?_
  first
    | refine ev_s (is_iadd _ rfl (nI_add _ _)) ?_
    | refine ev_s (is_iadd _ rfl rfl) ?_
  refine ev_s (is_ialoadS (i + 1) rfl M.2.1 (Nat.ble_eq.mpr (by omega)) rfl (by omega) (M.2.2.1 _)) ?_
  refine ev_s (is_aload_n rfl rfl) ?_
  refine ev_s (is_iload_n rfl rfl) ?_
  refine ev_s (is_iconst (nI 2) rfl rfl) ?_
  first
    | refine ev_s (is_iadd _ rfl (nI_add _ _)) ?_
    | refine ev_s (is_iadd _ rfl rfl) ?_
  refine ev_s (is_ialoadS (i + 2) rfl M.2.1 (Nat.ble_eq.mpr (by omega)) rfl (by omega) (M.2.2.1 _)) ?_
  refine ev_s (is_aload_n rfl rfl) ?_
  refine ev_s (is_iload_n rfl rfl) ?_
  refine ev_s (is_iconst (nI 3) rfl rfl) ?_
  first
    | refine ev_s (is_iadd _ rfl (nI_add _ _)) ?_
    | refine ev_s (is_iadd _ rfl rfl) ?_
  refine ev_s (is_ialoadS (i + 3) rfl M.2.1 (Nat.ble_eq.mpr (by omega)) rfl (by omega) (M.2.2.1 _)) ?_
  refine ev_q1 (is_callR 4 [_, _, _] [_] rfl rfl rfl rfl rfl (Nat.le_of_ble_eq_true rfl) rfl rfl rfl (pu_s M.1 110 rfl rfl)) rfl rfl (r_hour M.1 (rz_rf M.2.2.2.2.2.2.2.1 M.2.2.2.2.2.2.2.2) _ _ _) (fun r_567 mi mr hq_567 => ?_)
  obtain ⟨rfl, N⟩ := mr_z M hq_567
  refine ev_s (is_icmp_eq_t rfl rfl) ?_
  exact k _ _ _ _ _ N
theorem lw_c11 {d LL i : Nat} {xs : Nat → Int32} {H K : ho_T} {G : ho_G} {sh : im_Sh} {mi : im_MI} {mr : im_MR} {Q : ev_Q} (J : lw_M LL xs H K G H K G sh mi mr) (hi : i + 7 ≤ LL) (hLL : LL ≤ 3584) (k : ∀ H K G m3 r3, lw_M LL xs H K G H K G sh m3 r3 → Ev (d + 58) 221 1489 [.ref 0, .ref 29, .ref 110, .int (nI i)] [] sh m3 r3 Q) : Ev (d + 58) 221 575 [.ref 0, .ref 29, .ref 110, .int (nI i)] [] sh mi mr Q := by
  refine ev_s (is_aload_n rfl rfl) ?_
  refine ev_s (is_aload_n rfl rfl) ?_
  refine ev_s (is_iload_n rfl rfl) ?_
  refine ev_s (is_iconst (nI 1) rfl rfl) ?_
  first
    | refine ev_s (is_iadd _ rfl (nI_add _ _)) ?_
    | refine ev_s (is_iadd _ rfl rfl) ?_
  refine ev_s (is_ialoadS (i + 1) rfl J.2.1 (Nat.ble_eq.mpr (by omega)) rfl (by omega) (J.2.2.1 _)) ?_
  refine ev_s (is_aload_n rfl rfl) ?_
  refine ev_s (is_iload_n rfl rfl) ?_
  refine ev_s (is_iconst (nI 2) rfl rfl) ?_
  first
    | refine ev_s (is_iadd _ rfl (nI_add _ _)) ?_
    | refine ev_s (is_iadd _ rfl rfl) ?_
  refine ev_s (is_ialoadS (i + 2) rfl J.2.1 (Nat.ble_eq.mpr (by omega)) rfl (by omega) (J.2.2.1 _)) ?_
  refine ev_q1 (is_callR 3 [_, _] [] rfl rfl rfl rfl rfl (Nat.le_of_ble_eq_true rfl) rfl rfl rfl (pu_s J.1 29 rfl rfl)) rfl rfl (x_dayc J.1 J.2.2.2.1 _ _) (fun r_586 mi mr hq_586 => ?_)
  obtain ⟨rfl, M⟩ := mx_q J hq_586
  refine ev_s (is_aload_n rfl rfl) ?_
  refine ev_s (is_aload_n rfl rfl) ?_
  refine ev_s (is_iload_n rfl rfl) ?_
  refine ev_s (is_iconst (nI 1) rfl rfl) ?_
  first
    | refine ev_s (is_iadd _ rfl (nI_add _ _)) ?_
    | refine ev_s (is_iadd _ rfl rfl) ?_
  refine ev_s (is_ialoadS (i + 1) rfl M.2.1 (Nat.ble_eq.mpr (by omega)) rfl (by omega) (M.2.2.1 _)) ?_
  refine ev_s (is_aload_n rfl rfl) ?_
  refine ev_s (is_iload_n rfl rfl) ?_
  refine ev_s (is_iconst (nI 2) rfl rfl) ?_
  first
    | refine ev_s (is_iadd _ rfl (nI_add _ _)) ?_
    | refine ev_s (is_iadd _ rfl rfl) ?_
  refine ev_s (is_ialoadS (i + 2) rfl M.2.1 (Nat.ble_eq.mpr (by omega)) rfl (by omega) (M.2.2.1 _)) ?_
  refine ev_q1 (is_callR 3 [_, _] [_] rfl rfl rfl rfl rfl (Nat.le_of_ble_eq_true rfl) rfl rfl rfl (pu_s M.1 110 rfl rfl)) rfl rfl (r_dayc M.1 (rz_rf M.2.2.2.2.2.2.2.1 M.2.2.2.2.2.2.2.2) _ _) (fun r_600 mi mr hq_600 => ?_)
  obtain ⟨rfl, N⟩ := mr_z M hq_600
  refine ev_s (is_icmp_eq_t rfl rfl) ?_
  exact k _ _ _ _ _ N
theorem lw_c12 {d LL i : Nat} {xs : Nat → Int32} {H K : ho_T} {G : ho_G} {sh : im_Sh} {mi : im_MI} {mr : im_MR} {Q : ev_Q} (J : lw_M LL xs H K G H K G sh mi mr) (hi : i + 7 ≤ LL) (hLL : LL ≤ 3584) (k : ∀ H K G m3 r3, lw_M LL xs H K G H K G sh m3 r3 → Ev (d + 58) 221 1489 [.ref 0, .ref 29, .ref 110, .int (nI i)] [] sh m3 r3 Q) : Ev (d + 58) 221 608 [.ref 0, .ref 29, .ref 110, .int (nI i)] [] sh mi mr Q := by
  refine ev_s (is_aload_n rfl rfl) ?_
  refine ev_q1 (is_callR 1 [] [] rfl rfl rfl rfl rfl (Nat.le_of_ble_eq_true rfl) rfl rfl rfl (pu_s J.1 29 rfl rfl)) rfl rfl (x_all J.1 J.2.2.2.1) (fun r_609 mi mr hq_609 => ?_)
  obtain ⟨rfl, M⟩ := mx_q J hq_609
  refine ev_s (is_aload_n rfl rfl) ?_
  refine ev_q1 (is_callR 1 [] [_] rfl rfl rfl rfl rfl (Nat.le_of_ble_eq_true rfl) rfl rfl rfl (pu_s M.1 110 rfl rfl)) rfl rfl (r_all M.1 (rz_rf M.2.2.2.2.2.2.2.1 M.2.2.2.2.2.2.2.2)) (fun r_613 mi mr hq_613 => ?_)
  obtain ⟨rfl, N⟩ := mr_z M hq_613
  refine ev_s (is_icmp_eq_t rfl rfl) ?_
  exact k _ _ _ _ _ N
theorem lw_c13 {d LL i : Nat} {xs : Nat → Int32} {H K : ho_T} {G : ho_G} {sh : im_Sh} {mi : im_MI} {mr : im_MR} {Q : ev_Q} (J : lw_M LL xs H K G H K G sh mi mr) (hi : i + 7 ≤ LL) (hLL : LL ≤ 3584) (k : ∀ H K G m3 r3, lw_M LL xs H K G H K G sh m3 r3 → Ev (d + 58) 221 1489 [.ref 0, .ref 29, .ref 110, .int (nI i)] [] sh m3 r3 Q) : Ev (d + 58) 221 621 [.ref 0, .ref 29, .ref 110, .int (nI i)] [] sh mi mr Q := by
  refine ev_s (is_aload_n rfl rfl) ?_
  refine ev_q1 (is_callR 1 [] [] rfl rfl rfl rfl rfl (Nat.le_of_ble_eq_true rfl) rfl rfl rfl (pu_s J.1 29 rfl rfl)) rfl rfl (x_live J.1 J.2.2.2.1 J.2.2.2.2.1) (fun r_622 mi mr hq_622 => ?_)
  obtain ⟨rfl, M⟩ := mx_k J hq_622
  refine ev_s (is_aload_n rfl rfl) ?_
  refine ev_q1 (is_callR 1 [] [_] rfl rfl rfl rfl rfl (Nat.le_of_ble_eq_true rfl) rfl rfl rfl (pu_s M.1 110 rfl rfl)) rfl rfl (r_live M.1 (rz_rf M.2.2.2.2.2.2.2.1 M.2.2.2.2.2.2.2.2)) (fun r_626 mi mr hq_626 => ?_)
  obtain ⟨rfl, N⟩ := mr_z M hq_626
  refine ev_s (is_icmp_eq_t rfl rfl) ?_
  exact k _ _ _ _ _ N
theorem lw_c14 {d LL i : Nat} {xs : Nat → Int32} {H K : ho_T} {G : ho_G} {sh : im_Sh} {mi : im_MI} {mr : im_MR} {Q : ev_Q} (J : lw_M LL xs H K G H K G sh mi mr) (hi : i + 7 ≤ LL) (hLL : LL ≤ 3584) (k : ∀ H K G m3 r3, lw_M LL xs H K G H K G sh m3 r3 → Ev (d + 58) 221 1489 [.ref 0, .ref 29, .ref 110, .int (nI i)] [] sh m3 r3 Q) : Ev (d + 58) 221 634 [.ref 0, .ref 29, .ref 110, .int (nI i)] [] sh mi mr Q := by
  refine ev_s (is_aload_n rfl rfl) ?_
  refine ev_s (is_aload_n rfl rfl) ?_
  refine ev_s (is_iload_n rfl rfl) ?_
  refine ev_s (is_iconst (nI 1) rfl rfl) ?_
  first
    | refine ev_s (is_iadd _ rfl (nI_add _ _)) ?_
    | refine ev_s (is_iadd _ rfl rfl) ?_
  refine ev_s (is_ialoadS (i + 1) rfl J.2.1 (Nat.ble_eq.mpr (by omega)) rfl (by omega) (J.2.2.1 _)) ?_
  refine ev_s (is_aload_n rfl rfl) ?_
  refine ev_s (is_iload_n rfl rfl) ?_
  refine ev_s (is_iconst (nI 2) rfl rfl) ?_
  first
    | refine ev_s (is_iadd _ rfl (nI_add _ _)) ?_
    | refine ev_s (is_iadd _ rfl rfl) ?_
  refine ev_s (is_ialoadS (i + 2) rfl J.2.1 (Nat.ble_eq.mpr (by omega)) rfl (by omega) (J.2.2.1 _)) ?_
  refine ev_q1 (is_callR 3 [_, _] [] rfl rfl rfl rfl rfl (Nat.le_of_ble_eq_true rfl) rfl rfl rfl (pu_s J.1 29 rfl rfl)) rfl rfl (x_better J.1 J.2.2.2.1 _ _) (fun r_645 mi mr hq_645 => ?_)
  obtain ⟨rfl, M⟩ := mx_q J hq_645
  refine ev_s (is_aload_n rfl rfl) ?_
  refine ev_s (is_aload_n rfl rfl) ?_
  refine ev_s (is_iload_n rfl rfl) ?_
  refine ev_s (is_iconst (nI 1) rfl rfl) ?_
  first
    | refine ev_s (is_iadd _ rfl (nI_add _ _)) ?_
    | refine ev_s (is_iadd _ rfl rfl) ?_
  refine ev_s (is_ialoadS (i + 1) rfl M.2.1 (Nat.ble_eq.mpr (by omega)) rfl (by omega) (M.2.2.1 _)) ?_
  refine ev_s (is_aload_n rfl rfl) ?_
  refine ev_s (is_iload_n rfl rfl) ?_
  refine ev_s (is_iconst (nI 2) rfl rfl) ?_
  first
    | refine ev_s (is_iadd _ rfl (nI_add _ _)) ?_
    | refine ev_s (is_iadd _ rfl rfl) ?_
  refine ev_s (is_ialoadS (i + 2) rfl M.2.1 (Nat.ble_eq.mpr (by omega)) rfl (by omega) (M.2.2.1 _)) ?_
  refine ev_q1 (is_callR 3 [_, _] [_] rfl rfl rfl rfl rfl (Nat.le_of_ble_eq_true rfl) rfl rfl rfl (pu_s M.1 110 rfl rfl)) rfl rfl (r_better M.1 (rz_rf M.2.2.2.2.2.2.2.1 M.2.2.2.2.2.2.2.2) _ _) (fun r_659 mi mr hq_659 => ?_)
  obtain ⟨rfl, N⟩ := mr_z M hq_659
  refine ev_s (is_icmp_eq_t rfl rfl) ?_
  exact k _ _ _ _ _ N
theorem lw_c15 {d LL i : Nat} {xs : Nat → Int32} {H K : ho_T} {G : ho_G} {sh : im_Sh} {mi : im_MI} {mr : im_MR} {Q : ev_Q} (J : lw_M LL xs H K G H K G sh mi mr) (hi : i + 7 ≤ LL) (hLL : LL ≤ 3584) (k : ∀ H K G m3 r3, lw_M LL xs H K G H K G sh m3 r3 → Ev (d + 58) 221 1489 [.ref 0, .ref 29, .ref 110, .int (nI i)] [] sh m3 r3 Q) : Ev (d + 58) 221 667 [.ref 0, .ref 29, .ref 110, .int (nI i)] [] sh mi mr Q := by
  refine ev_s (is_aload_n rfl rfl) ?_
  refine ev_s (is_aload_n rfl rfl) ?_
  refine ev_s (is_iload_n rfl rfl) ?_
  refine ev_s (is_iconst (nI 1) rfl rfl) ?_
  first
    | refine ev_s (is_iadd _ rfl (nI_add _ _)) ?_
    | refine ev_s (is_iadd _ rfl rfl) ?_
  refine ev_s (is_ialoadS (i + 1) rfl J.2.1 (Nat.ble_eq.mpr (by omega)) rfl (by omega) (J.2.2.1 _)) ?_
  refine ev_q1 (is_callR 2 [_] [] rfl rfl rfl rfl rfl (Nat.le_of_ble_eq_true rfl) rfl rfl rfl (pu_s J.1 29 rfl rfl)) rfl rfl (x_swap J.1 J.2.2.2.1 _) (fun r_673 mi mr hq_673 => ?_)
  obtain ⟨rfl, M⟩ := mx_q J hq_673
  refine ev_s (is_aload_n rfl rfl) ?_
  refine ev_s (is_aload_n rfl rfl) ?_
  refine ev_s (is_iload_n rfl rfl) ?_
  refine ev_s (is_iconst (nI 1) rfl rfl) ?_
  first
    | refine ev_s (is_iadd _ rfl (nI_add _ _)) ?_
    | refine ev_s (is_iadd _ rfl rfl) ?_
  refine ev_s (is_ialoadS (i + 1) rfl M.2.1 (Nat.ble_eq.mpr (by omega)) rfl (by omega) (M.2.2.1 _)) ?_
  refine ev_q1 (is_callR 2 [_] [_] rfl rfl rfl rfl rfl (Nat.le_of_ble_eq_true rfl) rfl rfl rfl (pu_s M.1 110 rfl rfl)) rfl rfl (r_swap M.1 (rz_rf M.2.2.2.2.2.2.2.1 M.2.2.2.2.2.2.2.2) _) (fun r_682 mi mr hq_682 => ?_)
  obtain ⟨rfl, N⟩ := mr_z M hq_682
  refine ev_s (is_icmp_eq_t rfl rfl) ?_
  exact k _ _ _ _ _ N
theorem lw_c16 {d LL i : Nat} {xs : Nat → Int32} {H K : ho_T} {G : ho_G} {sh : im_Sh} {mi : im_MI} {mr : im_MR} {Q : ev_Q} (J : lw_M LL xs H K G H K G sh mi mr) (hi : i + 7 ≤ LL) (hLL : LL ≤ 3584) (k : ∀ H K G m3 r3, lw_M LL xs H K G H K G sh m3 r3 → Ev (d + 58) 221 1489 [.ref 0, .ref 29, .ref 110, .int (nI i)] [] sh m3 r3 Q) : Ev (d + 58) 221 690 [.ref 0, .ref 29, .ref 110, .int (nI i)] [] sh mi mr Q := by
  refine ev_s (is_aload_n rfl rfl) ?_
  refine ev_s (is_aload_n rfl rfl) ?_
  refine ev_s (is_iload_n rfl rfl) ?_
  refine ev_s (is_iconst (nI 1) rfl rfl) ?_
  first
    | refine ev_s (is_iadd _ rfl (nI_add _ _)) ?_
    | refine ev_s (is_iadd _ rfl rfl) ?_
  refine ev_s (is_ialoadS (i + 1) rfl J.2.1 (Nat.ble_eq.mpr (by omega)) rfl (by omega) (J.2.2.1 _)) ?_
  refine ev_q1 (is_callR 2 [_] [] rfl rfl rfl rfl rfl (Nat.le_of_ble_eq_true rfl) rfl rfl rfl (pu_s J.1 29 rfl rfl)) rfl rfl (x_beds J.1 J.2.2.2.1 _) (fun r_696 mi mr hq_696 => ?_)
  obtain ⟨rfl, M⟩ := mx_q J hq_696
  refine ev_s (is_aload_n rfl rfl) ?_
  refine ev_s (is_aload_n rfl rfl) ?_
  refine ev_s (is_iload_n rfl rfl) ?_
  refine ev_s (is_iconst (nI 1) rfl rfl) ?_
  first
    | refine ev_s (is_iadd _ rfl (nI_add _ _)) ?_
    | refine ev_s (is_iadd _ rfl rfl) ?_
  refine ev_s (is_ialoadS (i + 1) rfl M.2.1 (Nat.ble_eq.mpr (by omega)) rfl (by omega) (M.2.2.1 _)) ?_
  refine ev_q1 (is_callR 2 [_] [_] rfl rfl rfl rfl rfl (Nat.le_of_ble_eq_true rfl) rfl rfl rfl (pu_s M.1 110 rfl rfl)) rfl rfl (r_beds M.1 (rz_rf M.2.2.2.2.2.2.2.1 M.2.2.2.2.2.2.2.2) _) (fun r_705 mi mr hq_705 => ?_)
  obtain ⟨rfl, N⟩ := mr_z M hq_705
  refine ev_s (is_icmp_eq_t rfl rfl) ?_
  exact k _ _ _ _ _ N
theorem lw_c17 {d LL i : Nat} {xs : Nat → Int32} {H K : ho_T} {G : ho_G} {sh : im_Sh} {mi : im_MI} {mr : im_MR} {Q : ev_Q} (J : lw_M LL xs H K G H K G sh mi mr) (hi : i + 7 ≤ LL) (hLL : LL ≤ 3584) (k : ∀ H K G m3 r3, lw_M LL xs H K G H K G sh m3 r3 → Ev (d + 58) 221 1489 [.ref 0, .ref 29, .ref 110, .int (nI i)] [] sh m3 r3 Q) : Ev (d + 58) 221 713 [.ref 0, .ref 29, .ref 110, .int (nI i)] [] sh mi mr Q := by
  refine ev_s (is_aload_n rfl rfl) ?_
  refine ev_s (is_aload_n rfl rfl) ?_
  refine ev_s (is_iload_n rfl rfl) ?_
  refine ev_s (is_iconst (nI 1) rfl rfl) ?_
  first
    | refine ev_s (is_iadd _ rfl (nI_add _ _)) ?_
    | refine ev_s (is_iadd _ rfl rfl) ?_
  refine ev_s (is_ialoadS (i + 1) rfl J.2.1 (Nat.ble_eq.mpr (by omega)) rfl (by omega) (J.2.2.1 _)) ?_
  refine ev_s (is_aload_n rfl rfl) ?_
  refine ev_s (is_iload_n rfl rfl) ?_
  refine ev_s (is_iconst (nI 2) rfl rfl) ?_
  first
    | refine ev_s (is_iadd _ rfl (nI_add _ _)) ?_
    | refine ev_s (is_iadd _ rfl rfl) ?_
  refine ev_s (is_ialoadS (i + 2) rfl J.2.1 (Nat.ble_eq.mpr (by omega)) rfl (by omega) (J.2.2.1 _)) ?_
  refine ev_q1 (is_callR 3 [_, _] [] rfl rfl rfl rfl rfl (Nat.le_of_ble_eq_true rfl) rfl rfl rfl (pu_s J.1 29 rfl rfl)) rfl rfl (x_guard J.1 J.2.2.2.1 _ _) (fun r_724 mi mr hq_724 => ?_)
  obtain ⟨rfl, M⟩ := mx_w J hq_724
  refine ev_s (is_aload_n rfl rfl) ?_
  refine ev_s (is_aload_n rfl rfl) ?_
  refine ev_s (is_iload_n rfl rfl) ?_
  refine ev_s (is_iconst (nI 1) rfl rfl) ?_
  first
    | refine ev_s (is_iadd _ rfl (nI_add _ _)) ?_
    | refine ev_s (is_iadd _ rfl rfl) ?_
  refine ev_s (is_ialoadS (i + 1) rfl M.2.1 (Nat.ble_eq.mpr (by omega)) rfl (by omega) (M.2.2.1 _)) ?_
  refine ev_s (is_aload_n rfl rfl) ?_
  refine ev_s (is_iload_n rfl rfl) ?_
  refine ev_s (is_iconst (nI 2) rfl rfl) ?_
  first
    | refine ev_s (is_iadd _ rfl (nI_add _ _)) ?_
    | refine ev_s (is_iadd _ rfl rfl) ?_
  refine ev_s (is_ialoadS (i + 2) rfl M.2.1 (Nat.ble_eq.mpr (by omega)) rfl (by omega) (M.2.2.1 _)) ?_
  refine ev_q1 (is_callR 3 [_, _] [_] rfl rfl rfl rfl rfl (Nat.le_of_ble_eq_true rfl) rfl rfl rfl (pu_s M.1 110 rfl rfl)) rfl rfl (r_guard M.1 (rz_rf M.2.2.2.2.2.2.2.1 M.2.2.2.2.2.2.2.2) _ _) (fun r_738 mi mr hq_738 => ?_)
  obtain ⟨rfl, N⟩ := mr_z M hq_738
  refine ev_s (is_icmp_eq_t rfl rfl) ?_
  exact k _ _ _ _ _ N
theorem lw_c18 {d LL i : Nat} {xs : Nat → Int32} {H K : ho_T} {G : ho_G} {sh : im_Sh} {mi : im_MI} {mr : im_MR} {Q : ev_Q} (J : lw_M LL xs H K G H K G sh mi mr) (hi : i + 7 ≤ LL) (hLL : LL ≤ 3584) (k : ∀ H K G m3 r3, lw_M LL xs H K G H K G sh m3 r3 → Ev (d + 58) 221 1489 [.ref 0, .ref 29, .ref 110, .int (nI i)] [] sh m3 r3 Q) : Ev (d + 58) 221 746 [.ref 0, .ref 29, .ref 110, .int (nI i)] [] sh mi mr Q := by
  refine ev_s (is_aload_n rfl rfl) ?_
  refine ev_s (is_aload_n rfl rfl) ?_
  refine ev_s (is_iload_n rfl rfl) ?_
  refine ev_s (is_iconst (nI 1) rfl rfl) ?_
  first
    | refine ev_s (is_iadd _ rfl (nI_add _ _)) ?_
    | refine ev_s (is_iadd _ rfl rfl) ?_
  refine ev_s (is_ialoadS (i + 1) rfl J.2.1 (Nat.ble_eq.mpr (by omega)) rfl (by omega) (J.2.2.1 _)) ?_
  refine ev_s (is_aload_n rfl rfl) ?_
  refine ev_s (is_iload_n rfl rfl) ?_
  refine ev_s (is_iconst (nI 2) rfl rfl) ?_
  first
    | refine ev_s (is_iadd _ rfl (nI_add _ _)) ?_
    | refine ev_s (is_iadd _ rfl rfl) ?_
  refine ev_s (is_ialoadS (i + 2) rfl J.2.1 (Nat.ble_eq.mpr (by omega)) rfl (by omega) (J.2.2.1 _)) ?_
  refine ev_q1 (is_callR 3 [_, _] [] rfl rfl rfl rfl rfl (Nat.le_of_ble_eq_true rfl) rfl rfl rfl (pu_s J.1 29 rfl rfl)) rfl rfl (x_codes J.1 J.2.2.2.1 _ _) (fun r_757 mi mr hq_757 => ?_)
  obtain ⟨rfl, M⟩ := mx_q J hq_757
  refine ev_s (is_aload_n rfl rfl) ?_
  refine ev_s (is_aload_n rfl rfl) ?_
  refine ev_s (is_iload_n rfl rfl) ?_
  refine ev_s (is_iconst (nI 1) rfl rfl) ?_
  first
    | refine ev_s (is_iadd _ rfl (nI_add _ _)) ?_
    | refine ev_s (is_iadd _ rfl rfl) ?_
  refine ev_s (is_ialoadS (i + 1) rfl M.2.1 (Nat.ble_eq.mpr (by omega)) rfl (by omega) (M.2.2.1 _)) ?_
  refine ev_s (is_aload_n rfl rfl) ?_
  refine ev_s (is_iload_n rfl rfl) ?_
  refine ev_s (is_iconst (nI 2) rfl rfl) ?_
  first
    | refine ev_s (is_iadd _ rfl (nI_add _ _)) ?_
    | refine ev_s (is_iadd _ rfl rfl) ?_
  refine ev_s (is_ialoadS (i + 2) rfl M.2.1 (Nat.ble_eq.mpr (by omega)) rfl (by omega) (M.2.2.1 _)) ?_
  refine ev_q1 (is_callR 3 [_, _] [_] rfl rfl rfl rfl rfl (Nat.le_of_ble_eq_true rfl) rfl rfl rfl (pu_s M.1 110 rfl rfl)) rfl rfl (r_codes M.1 (rz_rf M.2.2.2.2.2.2.2.1 M.2.2.2.2.2.2.2.2) _ _) (fun r_771 mi mr hq_771 => ?_)
  obtain ⟨rfl, N⟩ := mr_z M hq_771
  refine ev_s (is_lcmp _ rfl rfl) ?_
  refine ev_s (is_if_eq_t rfl (lg_self _)) ?_
  exact k _ _ _ _ _ N
theorem lw_c19 {d LL i : Nat} {xs : Nat → Int32} {H K : ho_T} {G : ho_G} {sh : im_Sh} {mi : im_MI} {mr : im_MR} {Q : ev_Q} (J : lw_M LL xs H K G H K G sh mi mr) (hi : i + 7 ≤ LL) (hLL : LL ≤ 3584) (k : ∀ H K G m3 r3, lw_M LL xs H K G H K G sh m3 r3 → Ev (d + 58) 221 1489 [.ref 0, .ref 29, .ref 110, .int (nI i)] [] sh m3 r3 Q) : Ev (d + 58) 221 780 [.ref 0, .ref 29, .ref 110, .int (nI i)] [] sh mi mr Q := by
  refine ev_s (is_aload_n rfl rfl) ?_
  refine ev_s (is_aload_n rfl rfl) ?_
  refine ev_s (is_iload_n rfl rfl) ?_
  refine ev_s (is_iconst (nI 1) rfl rfl) ?_
  first
    | refine ev_s (is_iadd _ rfl (nI_add _ _)) ?_
    | refine ev_s (is_iadd _ rfl rfl) ?_
  refine ev_s (is_ialoadS (i + 1) rfl J.2.1 (Nat.ble_eq.mpr (by omega)) rfl (by omega) (J.2.2.1 _)) ?_
  refine ev_s (is_aload_n rfl rfl) ?_
  refine ev_s (is_iload_n rfl rfl) ?_
  refine ev_s (is_iconst (nI 2) rfl rfl) ?_
  first
    | refine ev_s (is_iadd _ rfl (nI_add _ _)) ?_
    | refine ev_s (is_iadd _ rfl rfl) ?_
  refine ev_s (is_ialoadS (i + 2) rfl J.2.1 (Nat.ble_eq.mpr (by omega)) rfl (by omega) (J.2.2.1 _)) ?_
  refine ev_q1 (is_callR 3 [_, _] [] rfl rfl rfl rfl rfl (Nat.le_of_ble_eq_true rfl) rfl rfl rfl (pu_s J.1 29 rfl rfl)) rfl rfl (x_code J.1 J.2.2.2.1 _ _) (fun r_791 mi mr hq_791 => ?_)
  obtain ⟨rfl, M⟩ := mx_q J hq_791
  refine ev_s (is_aload_n rfl rfl) ?_
  refine ev_s (is_aload_n rfl rfl) ?_
  refine ev_s (is_iload_n rfl rfl) ?_
  refine ev_s (is_iconst (nI 1) rfl rfl) ?_
  first
    | refine ev_s (is_iadd _ rfl (nI_add _ _)) ?_
    | refine ev_s (is_iadd _ rfl rfl) ?_
  refine ev_s (is_ialoadS (i + 1) rfl M.2.1 (Nat.ble_eq.mpr (by omega)) rfl (by omega) (M.2.2.1 _)) ?_
  refine ev_s (is_aload_n rfl rfl) ?_
  refine ev_s (is_iload_n rfl rfl) ?_
  refine ev_s (is_iconst (nI 2) rfl rfl) ?_
  first
    | refine ev_s (is_iadd _ rfl (nI_add _ _)) ?_
    | refine ev_s (is_iadd _ rfl rfl) ?_
  refine ev_s (is_ialoadS (i + 2) rfl M.2.1 (Nat.ble_eq.mpr (by omega)) rfl (by omega) (M.2.2.1 _)) ?_
  refine ev_q1 (is_callR 3 [_, _] [_] rfl rfl rfl rfl rfl (Nat.le_of_ble_eq_true rfl) rfl rfl rfl (pu_s M.1 110 rfl rfl)) rfl rfl (r_code M.1 (rz_rf M.2.2.2.2.2.2.2.1 M.2.2.2.2.2.2.2.2) _ _) (fun r_805 mi mr hq_805 => ?_)
  obtain ⟨rfl, N⟩ := mr_z M hq_805
  refine ev_s (is_icmp_eq_t rfl rfl) ?_
  exact k _ _ _ _ _ N
theorem lw_c20 {d LL i : Nat} {xs : Nat → Int32} {H K : ho_T} {G : ho_G} {sh : im_Sh} {mi : im_MI} {mr : im_MR} {Q : ev_Q} (J : lw_M LL xs H K G H K G sh mi mr) (hi : i + 7 ≤ LL) (hLL : LL ≤ 3584) (k : ∀ H K G m3 r3, lw_M LL xs H K G H K G sh m3 r3 → Ev (d + 58) 221 1489 [.ref 0, .ref 29, .ref 110, .int (nI i)] [] sh m3 r3 Q) : Ev (d + 58) 221 813 [.ref 0, .ref 29, .ref 110, .int (nI i)] [] sh mi mr Q := by
  refine ev_s (is_aload_n rfl rfl) ?_
  refine ev_s (is_aload_n rfl rfl) ?_
  refine ev_s (is_iload_n rfl rfl) ?_
  refine ev_s (is_iconst (nI 1) rfl rfl) ?_
  first
    | refine ev_s (is_iadd _ rfl (nI_add _ _)) ?_
    | refine ev_s (is_iadd _ rfl rfl) ?_
  refine ev_s (is_ialoadS (i + 1) rfl J.2.1 (Nat.ble_eq.mpr (by omega)) rfl (by omega) (J.2.2.1 _)) ?_
  refine ev_s (is_aload_n rfl rfl) ?_
  refine ev_s (is_iload_n rfl rfl) ?_
  refine ev_s (is_iconst (nI 2) rfl rfl) ?_
  first
    | refine ev_s (is_iadd _ rfl (nI_add _ _)) ?_
    | refine ev_s (is_iadd _ rfl rfl) ?_
  refine ev_s (is_ialoadS (i + 2) rfl J.2.1 (Nat.ble_eq.mpr (by omega)) rfl (by omega) (J.2.2.1 _)) ?_
  refine ev_q1 (is_callR 3 [_, _] [] rfl rfl rfl rfl rfl (Nat.le_of_ble_eq_true rfl) rfl rfl rfl (pu_s J.1 29 rfl rfl)) rfl rfl (x_knows J.1 J.2.2.2.1 _ _) (fun r_824 mi mr hq_824 => ?_)
  obtain ⟨rfl, M⟩ := mx_q J hq_824
  refine ev_s (is_aload_n rfl rfl) ?_
  refine ev_s (is_aload_n rfl rfl) ?_
  refine ev_s (is_iload_n rfl rfl) ?_
  refine ev_s (is_iconst (nI 1) rfl rfl) ?_
  first
    | refine ev_s (is_iadd _ rfl (nI_add _ _)) ?_
    | refine ev_s (is_iadd _ rfl rfl) ?_
  refine ev_s (is_ialoadS (i + 1) rfl M.2.1 (Nat.ble_eq.mpr (by omega)) rfl (by omega) (M.2.2.1 _)) ?_
  refine ev_s (is_aload_n rfl rfl) ?_
  refine ev_s (is_iload_n rfl rfl) ?_
  refine ev_s (is_iconst (nI 2) rfl rfl) ?_
  first
    | refine ev_s (is_iadd _ rfl (nI_add _ _)) ?_
    | refine ev_s (is_iadd _ rfl rfl) ?_
  refine ev_s (is_ialoadS (i + 2) rfl M.2.1 (Nat.ble_eq.mpr (by omega)) rfl (by omega) (M.2.2.1 _)) ?_
  refine ev_q1 (is_callR 3 [_, _] [_] rfl rfl rfl rfl rfl (Nat.le_of_ble_eq_true rfl) rfl rfl rfl (pu_s M.1 110 rfl rfl)) rfl rfl (r_knows M.1 (rz_rf M.2.2.2.2.2.2.2.1 M.2.2.2.2.2.2.2.2) _ _) (fun r_838 mi mr hq_838 => ?_)
  obtain ⟨rfl, N⟩ := mr_z M hq_838
  refine ev_s (is_icmp_eq_t rfl rfl) ?_
  exact k _ _ _ _ _ N
theorem lw_c21 {d LL i : Nat} {xs : Nat → Int32} {H K : ho_T} {G : ho_G} {sh : im_Sh} {mi : im_MI} {mr : im_MR} {Q : ev_Q} (J : lw_M LL xs H K G H K G sh mi mr) (hi : i + 7 ≤ LL) (hLL : LL ≤ 3584) (k : ∀ H K G m3 r3, lw_M LL xs H K G H K G sh m3 r3 → Ev (d + 58) 221 1489 [.ref 0, .ref 29, .ref 110, .int (nI i)] [] sh m3 r3 Q) : Ev (d + 58) 221 846 [.ref 0, .ref 29, .ref 110, .int (nI i)] [] sh mi mr Q := by
  refine ev_s (is_aload_n rfl rfl) ?_
  refine ev_s (is_aload_n rfl rfl) ?_
  refine ev_s (is_iload_n rfl rfl) ?_
  refine ev_s (is_iconst (nI 1) rfl rfl) ?_
  first
    | refine ev_s (is_iadd _ rfl (nI_add _ _)) ?_
    | refine ev_s (is_iadd _ rfl rfl) ?_
  refine ev_s (is_ialoadS (i + 1) rfl J.2.1 (Nat.ble_eq.mpr (by omega)) rfl (by omega) (J.2.2.1 _)) ?_
  refine ev_q1 (is_callR 2 [_] [] rfl rfl rfl rfl rfl (Nat.le_of_ble_eq_true rfl) rfl rfl rfl (pu_s J.1 29 rfl rfl)) rfl rfl (x_still J.1 J.2.2.2.1 _) (fun r_852 mi mr hq_852 => ?_)
  obtain ⟨rfl, M⟩ := mx_q J hq_852
  refine ev_s (is_aload_n rfl rfl) ?_
  refine ev_s (is_aload_n rfl rfl) ?_
  refine ev_s (is_iload_n rfl rfl) ?_
  refine ev_s (is_iconst (nI 1) rfl rfl) ?_
  first
    | refine ev_s (is_iadd _ rfl (nI_add _ _)) ?_
    | refine ev_s (is_iadd _ rfl rfl) ?_
  refine ev_s (is_ialoadS (i + 1) rfl M.2.1 (Nat.ble_eq.mpr (by omega)) rfl (by omega) (M.2.2.1 _)) ?_
  refine ev_q1 (is_callR 2 [_] [_] rfl rfl rfl rfl rfl (Nat.le_of_ble_eq_true rfl) rfl rfl rfl (pu_s M.1 110 rfl rfl)) rfl rfl (r_still M.1 (rz_rf M.2.2.2.2.2.2.2.1 M.2.2.2.2.2.2.2.2) _) (fun r_861 mi mr hq_861 => ?_)
  obtain ⟨rfl, N⟩ := mr_z M hq_861
  refine ev_s (is_icmp_eq_t rfl rfl) ?_
  exact k _ _ _ _ _ N
theorem lw_c22 {d LL i : Nat} {xs : Nat → Int32} {H K : ho_T} {G : ho_G} {sh : im_Sh} {mi : im_MI} {mr : im_MR} {Q : ev_Q} (J : lw_M LL xs H K G H K G sh mi mr) (hi : i + 7 ≤ LL) (hLL : LL ≤ 3584) (k : ∀ H K G m3 r3, lw_M LL xs H K G H K G sh m3 r3 → Ev (d + 58) 221 1489 [.ref 0, .ref 29, .ref 110, .int (nI i)] [] sh m3 r3 Q) : Ev (d + 58) 221 869 [.ref 0, .ref 29, .ref 110, .int (nI i)] [] sh mi mr Q := by
  refine ev_s (is_aload_n rfl rfl) ?_
  refine ev_s (is_aload_n rfl rfl) ?_
  refine ev_s (is_iload_n rfl rfl) ?_
  refine ev_s (is_iconst (nI 1) rfl rfl) ?_
  first
    | refine ev_s (is_iadd _ rfl (nI_add _ _)) ?_
    | refine ev_s (is_iadd _ rfl rfl) ?_
  refine ev_s (is_ialoadS (i + 1) rfl J.2.1 (Nat.ble_eq.mpr (by omega)) rfl (by omega) (J.2.2.1 _)) ?_
  refine ev_s (is_aload_n rfl rfl) ?_
  refine ev_s (is_iload_n rfl rfl) ?_
  refine ev_s (is_iconst (nI 2) rfl rfl) ?_
  first
    | refine ev_s (is_iadd _ rfl (nI_add _ _)) ?_
    | refine ev_s (is_iadd _ rfl rfl) ?_
  refine ev_s (is_ialoadS (i + 2) rfl J.2.1 (Nat.ble_eq.mpr (by omega)) rfl (by omega) (J.2.2.1 _)) ?_
  refine ev_s (is_aload_n rfl rfl) ?_
  refine ev_s (is_iload_n rfl rfl) ?_
  refine ev_s (is_iconst (nI 3) rfl rfl) ?_
  first
    | refine ev_s (is_iadd _ rfl (nI_add _ _)) ?_
    | refine ev_s (is_iadd _ rfl rfl) ?_
  refine ev_s (is_ialoadS (i + 3) rfl J.2.1 (Nat.ble_eq.mpr (by omega)) rfl (by omega) (J.2.2.1 _)) ?_
  refine ev_q1 (is_callR 4 [_, _, _] [] rfl rfl rfl rfl rfl (Nat.le_of_ble_eq_true rfl) rfl rfl rfl (pu_s J.1 29 rfl rfl)) rfl rfl (x_unseen J.1 J.2.2.2.1 _ _ _) (fun r_885 mi mr hq_885 => ?_)
  obtain ⟨rfl, M⟩ := mx_q J hq_885
  refine ev_s (is_aload_n rfl rfl) ?_
  refine ev_s (is_aload_n rfl rfl) ?_
  refine ev_s (is_iload_n rfl rfl) ?_
  refine ev_s (is_iconst (nI 1) rfl rfl) ?_
  first
    | refine ev_s (is_iadd _ rfl (nI_add _ _)) ?_
    | refine ev_s (is_iadd _ rfl rfl) ?_
  refine ev_s (is_ialoadS (i + 1) rfl M.2.1 (Nat.ble_eq.mpr (by omega)) rfl (by omega) (M.2.2.1 _)) ?_
  refine ev_s (is_aload_n rfl rfl) ?_
  refine ev_s (is_iload_n rfl rfl) ?_
  refine ev_s (is_iconst (nI 2) rfl rfl) ?_
  first
    | refine ev_s (is_iadd _ rfl (nI_add _ _)) ?_
    | refine ev_s (is_iadd _ rfl rfl) ?_
  refine ev_s (is_ialoadS (i + 2) rfl M.2.1 (Nat.ble_eq.mpr (by omega)) rfl (by omega) (M.2.2.1 _)) ?_
  refine ev_s (is_aload_n rfl rfl) ?_
  refine ev_s (is_iload_n rfl rfl) ?_
  refine ev_s (is_iconst (nI 3) rfl rfl) ?_
  first
    | refine ev_s (is_iadd _ rfl (nI_add _ _)) ?_
    | refine ev_s (is_iadd _ rfl rfl) ?_
  refine ev_s (is_ialoadS (i + 3) rfl M.2.1 (Nat.ble_eq.mpr (by omega)) rfl (by omega) (M.2.2.1 _)) ?_
  refine ev_q1 (is_callR 4 [_, _, _] [_] rfl rfl rfl rfl rfl (Nat.le_of_ble_eq_true rfl) rfl rfl rfl (pu_s M.1 110 rfl rfl)) rfl rfl (r_unseen M.1 (rz_rf M.2.2.2.2.2.2.2.1 M.2.2.2.2.2.2.2.2) _ _ _) (fun r_904 mi mr hq_904 => ?_)
  obtain ⟨rfl, N⟩ := mr_z M hq_904
  refine ev_s (is_lcmp _ rfl rfl) ?_
  refine ev_s (is_if_eq_t rfl (lg_self _)) ?_
  exact k _ _ _ _ _ N
theorem lw_c23 {d LL i : Nat} {xs : Nat → Int32} {H K : ho_T} {G : ho_G} {sh : im_Sh} {mi : im_MI} {mr : im_MR} {Q : ev_Q} (J : lw_M LL xs H K G H K G sh mi mr) (hi : i + 7 ≤ LL) (hLL : LL ≤ 3584) (k : ∀ H K G m3 r3, lw_M LL xs H K G H K G sh m3 r3 → Ev (d + 58) 221 1489 [.ref 0, .ref 29, .ref 110, .int (nI i)] [] sh m3 r3 Q) : Ev (d + 58) 221 913 [.ref 0, .ref 29, .ref 110, .int (nI i)] [] sh mi mr Q := by
  refine ev_s (is_aload_n rfl rfl) ?_
  refine ev_s (is_aload_n rfl rfl) ?_
  refine ev_s (is_iload_n rfl rfl) ?_
  refine ev_s (is_iconst (nI 1) rfl rfl) ?_
  first
    | refine ev_s (is_iadd _ rfl (nI_add _ _)) ?_
    | refine ev_s (is_iadd _ rfl rfl) ?_
  refine ev_s (is_ialoadS (i + 1) rfl J.2.1 (Nat.ble_eq.mpr (by omega)) rfl (by omega) (J.2.2.1 _)) ?_
  refine ev_s (is_aload_n rfl rfl) ?_
  refine ev_s (is_iload_n rfl rfl) ?_
  refine ev_s (is_iconst (nI 2) rfl rfl) ?_
  first
    | refine ev_s (is_iadd _ rfl (nI_add _ _)) ?_
    | refine ev_s (is_iadd _ rfl rfl) ?_
  refine ev_s (is_ialoadS (i + 2) rfl J.2.1 (Nat.ble_eq.mpr (by omega)) rfl (by omega) (J.2.2.1 _)) ?_
  refine ev_q1 (is_callR 3 [_, _] [] rfl rfl rfl rfl rfl (Nat.le_of_ble_eq_true rfl) rfl rfl rfl (pu_s J.1 29 rfl rfl)) rfl rfl (x_judge J.1 J.2.2.2.1 J.2.2.2.2.1 _ _) (fun r_924 mi mr hq_924 => ?_)
  obtain ⟨rfl, M⟩ := mx_q J hq_924
  refine ev_s (is_aload_n rfl rfl) ?_
  refine ev_s (is_aload_n rfl rfl) ?_
  refine ev_s (is_iload_n rfl rfl) ?_
  refine ev_s (is_iconst (nI 1) rfl rfl) ?_
  first
    | refine ev_s (is_iadd _ rfl (nI_add _ _)) ?_
    | refine ev_s (is_iadd _ rfl rfl) ?_
  refine ev_s (is_ialoadS (i + 1) rfl M.2.1 (Nat.ble_eq.mpr (by omega)) rfl (by omega) (M.2.2.1 _)) ?_
  refine ev_s (is_aload_n rfl rfl) ?_
  refine ev_s (is_iload_n rfl rfl) ?_
  refine ev_s (is_iconst (nI 2) rfl rfl) ?_
  first
    | refine ev_s (is_iadd _ rfl (nI_add _ _)) ?_
    | refine ev_s (is_iadd _ rfl rfl) ?_
  refine ev_s (is_ialoadS (i + 2) rfl M.2.1 (Nat.ble_eq.mpr (by omega)) rfl (by omega) (M.2.2.1 _)) ?_
  refine ev_q1 (is_callR 3 [_, _] [_] rfl rfl rfl rfl rfl (Nat.le_of_ble_eq_true rfl) rfl rfl rfl (pu_s M.1 110 rfl rfl)) rfl rfl (r_judge M.1 (rz_rf M.2.2.2.2.2.2.2.1 M.2.2.2.2.2.2.2.2) _ _) (fun r_938 mi mr hq_938 => ?_)
  obtain ⟨rfl, N⟩ := mr_z M hq_938
  refine ev_s (is_icmp_eq_t rfl rfl) ?_
  exact k _ _ _ _ _ N
theorem lw_c24 {d LL i : Nat} {xs : Nat → Int32} {H K : ho_T} {G : ho_G} {sh : im_Sh} {mi : im_MI} {mr : im_MR} {Q : ev_Q} (J : lw_M LL xs H K G H K G sh mi mr) (hi : i + 7 ≤ LL) (hLL : LL ≤ 3584) (k : ∀ H K G m3 r3, lw_M LL xs H K G H K G sh m3 r3 → Ev (d + 58) 221 1489 [.ref 0, .ref 29, .ref 110, .int (nI i)] [] sh m3 r3 Q) : Ev (d + 58) 221 946 [.ref 0, .ref 29, .ref 110, .int (nI i)] [] sh mi mr Q := by
  refine ev_s (is_aload_n rfl rfl) ?_
  refine ev_s (is_aload_n rfl rfl) ?_
  refine ev_s (is_iload_n rfl rfl) ?_
  refine ev_s (is_iconst (nI 1) rfl rfl) ?_
  first
    | refine ev_s (is_iadd _ rfl (nI_add _ _)) ?_
    | refine ev_s (is_iadd _ rfl rfl) ?_
  refine ev_s (is_ialoadS (i + 1) rfl J.2.1 (Nat.ble_eq.mpr (by omega)) rfl (by omega) (J.2.2.1 _)) ?_
  refine ev_s (is_aload_n rfl rfl) ?_
  refine ev_s (is_iload_n rfl rfl) ?_
  refine ev_s (is_iconst (nI 2) rfl rfl) ?_
  first
    | refine ev_s (is_iadd _ rfl (nI_add _ _)) ?_
    | refine ev_s (is_iadd _ rfl rfl) ?_
  refine ev_s (is_ialoadS (i + 2) rfl J.2.1 (Nat.ble_eq.mpr (by omega)) rfl (by omega) (J.2.2.1 _)) ?_
  refine ev_s (is_aload_n rfl rfl) ?_
  refine ev_s (is_iload_n rfl rfl) ?_
  refine ev_s (is_iconst (nI 3) rfl rfl) ?_
  first
    | refine ev_s (is_iadd _ rfl (nI_add _ _)) ?_
    | refine ev_s (is_iadd _ rfl rfl) ?_
  refine ev_s (is_ialoadS (i + 3) rfl J.2.1 (Nat.ble_eq.mpr (by omega)) rfl (by omega) (J.2.2.1 _)) ?_
  refine ev_q1 (is_callR 4 [_, _, _] [] rfl rfl rfl rfl rfl (Nat.le_of_ble_eq_true rfl) rfl rfl rfl (pu_s J.1 29 rfl rfl)) rfl rfl (x_kinds J.1 J.2.2.2.1 J.2.2.2.2.1 _ _ _) (fun r_962 mi mr hq_962 => ?_)
  obtain ⟨rfl, M⟩ := mx_q J hq_962
  refine ev_s (is_aload_n rfl rfl) ?_
  refine ev_s (is_aload_n rfl rfl) ?_
  refine ev_s (is_iload_n rfl rfl) ?_
  refine ev_s (is_iconst (nI 1) rfl rfl) ?_
  first
    | refine ev_s (is_iadd _ rfl (nI_add _ _)) ?_
    | refine ev_s (is_iadd _ rfl rfl) ?_
  refine ev_s (is_ialoadS (i + 1) rfl M.2.1 (Nat.ble_eq.mpr (by omega)) rfl (by omega) (M.2.2.1 _)) ?_
  refine ev_s (is_aload_n rfl rfl) ?_
  refine ev_s (is_iload_n rfl rfl) ?_
  refine ev_s (is_iconst (nI 2) rfl rfl) ?_
  first
    | refine ev_s (is_iadd _ rfl (nI_add _ _)) ?_
    | refine ev_s (is_iadd _ rfl rfl) ?_
  refine ev_s (is_ialoadS (i + 2) rfl M.2.1 (Nat.ble_eq.mpr (by omega)) rfl (by omega) (M.2.2.1 _)) ?_
  refine ev_s (is_aload_n rfl rfl) ?_
  refine ev_s (is_iload_n rfl rfl) ?_
  refine ev_s (is_iconst (nI 3) rfl rfl) ?_
  first
    | refine ev_s (is_iadd _ rfl (nI_add _ _)) ?_
    | refine ev_s (is_iadd _ rfl rfl) ?_
  refine ev_s (is_ialoadS (i + 3) rfl M.2.1 (Nat.ble_eq.mpr (by omega)) rfl (by omega) (M.2.2.1 _)) ?_
  refine ev_q1 (is_callR 4 [_, _, _] [_] rfl rfl rfl rfl rfl (Nat.le_of_ble_eq_true rfl) rfl rfl rfl (pu_s M.1 110 rfl rfl)) rfl rfl (r_kinds M.1 (rz_rf M.2.2.2.2.2.2.2.1 M.2.2.2.2.2.2.2.2) _ _ _) (fun r_981 mi mr hq_981 => ?_)
  obtain ⟨rfl, N⟩ := mr_z M hq_981
  refine ev_s (is_icmp_eq_t rfl rfl) ?_
  exact k _ _ _ _ _ N
theorem lw_c25 {d LL i : Nat} {xs : Nat → Int32} {H K : ho_T} {G : ho_G} {sh : im_Sh} {mi : im_MI} {mr : im_MR} {Q : ev_Q} (J : lw_M LL xs H K G H K G sh mi mr) (hi : i + 7 ≤ LL) (hLL : LL ≤ 3584) (k : ∀ H K G m3 r3, lw_M LL xs H K G H K G sh m3 r3 → Ev (d + 58) 221 1489 [.ref 0, .ref 29, .ref 110, .int (nI i)] [] sh m3 r3 Q) : Ev (d + 58) 221 989 [.ref 0, .ref 29, .ref 110, .int (nI i)] [] sh mi mr Q := by
  refine ev_s (is_aload_n rfl rfl) ?_
  refine ev_s (is_aload_n rfl rfl) ?_
  refine ev_s (is_iload_n rfl rfl) ?_
  refine ev_s (is_iconst (nI 1) rfl rfl) ?_
  first
    | refine ev_s (is_iadd _ rfl (nI_add _ _)) ?_
    | refine ev_s (is_iadd _ rfl rfl) ?_
  refine ev_s (is_ialoadS (i + 1) rfl J.2.1 (Nat.ble_eq.mpr (by omega)) rfl (by omega) (J.2.2.1 _)) ?_
  refine ev_s (is_aload_n rfl rfl) ?_
  refine ev_s (is_iload_n rfl rfl) ?_
  refine ev_s (is_iconst (nI 2) rfl rfl) ?_
  first
    | refine ev_s (is_iadd _ rfl (nI_add _ _)) ?_
    | refine ev_s (is_iadd _ rfl rfl) ?_
  refine ev_s (is_ialoadS (i + 2) rfl J.2.1 (Nat.ble_eq.mpr (by omega)) rfl (by omega) (J.2.2.1 _)) ?_
  refine ev_s (is_aload_n rfl rfl) ?_
  refine ev_s (is_iload_n rfl rfl) ?_
  refine ev_s (is_iconst (nI 3) rfl rfl) ?_
  first
    | refine ev_s (is_iadd _ rfl (nI_add _ _)) ?_
    | refine ev_s (is_iadd _ rfl rfl) ?_
  refine ev_s (is_ialoadS (i + 3) rfl J.2.1 (Nat.ble_eq.mpr (by omega)) rfl (by omega) (J.2.2.1 _)) ?_
  refine ev_q1 (is_callR 4 [_, _, _] [] rfl rfl rfl rfl rfl (Nat.le_of_ble_eq_true rfl) rfl rfl rfl (pu_s J.1 29 rfl rfl)) rfl rfl (x_did J.1 J.2.2.2.1 J.2.2.2.2.1 _ _ _) (fun r_1005 mi mr hq_1005 => ?_)
  obtain ⟨rfl, M⟩ := mx_q J hq_1005
  refine ev_s (is_aload_n rfl rfl) ?_
  refine ev_s (is_aload_n rfl rfl) ?_
  refine ev_s (is_iload_n rfl rfl) ?_
  refine ev_s (is_iconst (nI 1) rfl rfl) ?_
  first
    | refine ev_s (is_iadd _ rfl (nI_add _ _)) ?_
    | refine ev_s (is_iadd _ rfl rfl) ?_
  refine ev_s (is_ialoadS (i + 1) rfl M.2.1 (Nat.ble_eq.mpr (by omega)) rfl (by omega) (M.2.2.1 _)) ?_
  refine ev_s (is_aload_n rfl rfl) ?_
  refine ev_s (is_iload_n rfl rfl) ?_
  refine ev_s (is_iconst (nI 2) rfl rfl) ?_
  first
    | refine ev_s (is_iadd _ rfl (nI_add _ _)) ?_
    | refine ev_s (is_iadd _ rfl rfl) ?_
  refine ev_s (is_ialoadS (i + 2) rfl M.2.1 (Nat.ble_eq.mpr (by omega)) rfl (by omega) (M.2.2.1 _)) ?_
  refine ev_s (is_aload_n rfl rfl) ?_
  refine ev_s (is_iload_n rfl rfl) ?_
  refine ev_s (is_iconst (nI 3) rfl rfl) ?_
  first
    | refine ev_s (is_iadd _ rfl (nI_add _ _)) ?_
    | refine ev_s (is_iadd _ rfl rfl) ?_
  refine ev_s (is_ialoadS (i + 3) rfl M.2.1 (Nat.ble_eq.mpr (by omega)) rfl (by omega) (M.2.2.1 _)) ?_
  refine ev_q1 (is_callR 4 [_, _, _] [_] rfl rfl rfl rfl rfl (Nat.le_of_ble_eq_true rfl) rfl rfl rfl (pu_s M.1 110 rfl rfl)) rfl rfl (r_did M.1 (rz_rf M.2.2.2.2.2.2.2.1 M.2.2.2.2.2.2.2.2) _ _ _) (fun r_1024 mi mr hq_1024 => ?_)
  obtain ⟨rfl, N⟩ := mr_z M hq_1024
  refine ev_s (is_icmp_eq_t rfl rfl) ?_
  exact k _ _ _ _ _ N
theorem lw_c26 {d LL i : Nat} {xs : Nat → Int32} {H K : ho_T} {G : ho_G} {sh : im_Sh} {mi : im_MI} {mr : im_MR} {Q : ev_Q} (J : lw_M LL xs H K G H K G sh mi mr) (hi : i + 7 ≤ LL) (hLL : LL ≤ 3584) (k : ∀ H K G m3 r3, lw_M LL xs H K G H K G sh m3 r3 → Ev (d + 58) 221 1489 [.ref 0, .ref 29, .ref 110, .int (nI i)] [] sh m3 r3 Q) : Ev (d + 58) 221 1032 [.ref 0, .ref 29, .ref 110, .int (nI i)] [] sh mi mr Q := by
  refine ev_s (is_aload_n rfl rfl) ?_
  refine ev_s (is_aload_n rfl rfl) ?_
  refine ev_s (is_iload_n rfl rfl) ?_
  refine ev_s (is_iconst (nI 1) rfl rfl) ?_
  first
    | refine ev_s (is_iadd _ rfl (nI_add _ _)) ?_
    | refine ev_s (is_iadd _ rfl rfl) ?_
  refine ev_s (is_ialoadS (i + 1) rfl J.2.1 (Nat.ble_eq.mpr (by omega)) rfl (by omega) (J.2.2.1 _)) ?_
  refine ev_s (is_aload_n rfl rfl) ?_
  refine ev_s (is_iload_n rfl rfl) ?_
  refine ev_s (is_iconst (nI 2) rfl rfl) ?_
  first
    | refine ev_s (is_iadd _ rfl (nI_add _ _)) ?_
    | refine ev_s (is_iadd _ rfl rfl) ?_
  refine ev_s (is_ialoadS (i + 2) rfl J.2.1 (Nat.ble_eq.mpr (by omega)) rfl (by omega) (J.2.2.1 _)) ?_
  refine ev_q1 (is_callR 3 [_, _] [] rfl rfl rfl rfl rfl (Nat.le_of_ble_eq_true rfl) rfl rfl rfl (pu_s J.1 29 rfl rfl)) rfl rfl (x_laws J.1 J.2.2.2.1 J.2.2.2.2.1 _ _) (fun r_1043 mi mr hq_1043 => ?_)
  obtain ⟨rfl, M⟩ := mx_g J hq_1043
  refine ev_s (is_aload_n rfl rfl) ?_
  refine ev_s (is_aload_n rfl rfl) ?_
  refine ev_s (is_iload_n rfl rfl) ?_
  refine ev_s (is_iconst (nI 1) rfl rfl) ?_
  first
    | refine ev_s (is_iadd _ rfl (nI_add _ _)) ?_
    | refine ev_s (is_iadd _ rfl rfl) ?_
  refine ev_s (is_ialoadS (i + 1) rfl M.2.1 (Nat.ble_eq.mpr (by omega)) rfl (by omega) (M.2.2.1 _)) ?_
  refine ev_s (is_aload_n rfl rfl) ?_
  refine ev_s (is_iload_n rfl rfl) ?_
  refine ev_s (is_iconst (nI 2) rfl rfl) ?_
  first
    | refine ev_s (is_iadd _ rfl (nI_add _ _)) ?_
    | refine ev_s (is_iadd _ rfl rfl) ?_
  refine ev_s (is_ialoadS (i + 2) rfl M.2.1 (Nat.ble_eq.mpr (by omega)) rfl (by omega) (M.2.2.1 _)) ?_
  refine ev_q1 (is_callR 3 [_, _] [_] rfl rfl rfl rfl rfl (Nat.le_of_ble_eq_true rfl) rfl rfl rfl (pu_s M.1 110 rfl rfl)) rfl rfl (r_laws M.1 (rz_rf M.2.2.2.2.2.2.2.1 M.2.2.2.2.2.2.2.2) _ _) (fun r_1057 mi mr hq_1057 => ?_)
  obtain ⟨rfl, N⟩ := mr_z M hq_1057
  refine ev_s (is_icmp_eq_t rfl rfl) ?_
  exact k _ _ _ _ _ N
theorem lw_c27 {d LL i : Nat} {xs : Nat → Int32} {H K : ho_T} {G : ho_G} {sh : im_Sh} {mi : im_MI} {mr : im_MR} {Q : ev_Q} (J : lw_M LL xs H K G H K G sh mi mr) (hi : i + 7 ≤ LL) (hLL : LL ≤ 3584) (k : ∀ H K G m3 r3, lw_M LL xs H K G H K G sh m3 r3 → Ev (d + 58) 221 1489 [.ref 0, .ref 29, .ref 110, .int (nI i)] [] sh m3 r3 Q) : Ev (d + 58) 221 1065 [.ref 0, .ref 29, .ref 110, .int (nI i)] [] sh mi mr Q := by
  refine ev_s (is_aload_n rfl rfl) ?_
  refine ev_s (is_aload_n rfl rfl) ?_
  refine ev_s (is_iload_n rfl rfl) ?_
  refine ev_s (is_iconst (nI 1) rfl rfl) ?_
  first
    | refine ev_s (is_iadd _ rfl (nI_add _ _)) ?_
    | refine ev_s (is_iadd _ rfl rfl) ?_
  refine ev_s (is_ialoadS (i + 1) rfl J.2.1 (Nat.ble_eq.mpr (by omega)) rfl (by omega) (J.2.2.1 _)) ?_
  refine ev_q1 (is_callR 2 [_] [] rfl rfl rfl rfl rfl (Nat.le_of_ble_eq_true rfl) rfl rfl rfl (pu_s J.1 29 rfl rfl)) rfl rfl (x_whose J.1 J.2.2.2.1 J.2.2.2.2.1 _) (fun r_1071 mi mr hq_1071 => ?_)
  obtain ⟨rfl, M⟩ := mx_q J hq_1071
  refine ev_s (is_aload_n rfl rfl) ?_
  refine ev_s (is_aload_n rfl rfl) ?_
  refine ev_s (is_iload_n rfl rfl) ?_
  refine ev_s (is_iconst (nI 1) rfl rfl) ?_
  first
    | refine ev_s (is_iadd _ rfl (nI_add _ _)) ?_
    | refine ev_s (is_iadd _ rfl rfl) ?_
  refine ev_s (is_ialoadS (i + 1) rfl M.2.1 (Nat.ble_eq.mpr (by omega)) rfl (by omega) (M.2.2.1 _)) ?_
  refine ev_q1 (is_callR 2 [_] [_] rfl rfl rfl rfl rfl (Nat.le_of_ble_eq_true rfl) rfl rfl rfl (pu_s M.1 110 rfl rfl)) rfl rfl (r_whose M.1 (rz_rf M.2.2.2.2.2.2.2.1 M.2.2.2.2.2.2.2.2) _) (fun r_1080 mi mr hq_1080 => ?_)
  obtain ⟨rfl, N⟩ := mr_z M hq_1080
  refine ev_s (is_icmp_eq_t rfl rfl) ?_
  exact k _ _ _ _ _ N
theorem lw_c28 {d LL i : Nat} {xs : Nat → Int32} {H K : ho_T} {G : ho_G} {sh : im_Sh} {mi : im_MI} {mr : im_MR} {Q : ev_Q} (J : lw_M LL xs H K G H K G sh mi mr) (hi : i + 7 ≤ LL) (hLL : LL ≤ 3584) (k : ∀ H K G m3 r3, lw_M LL xs H K G H K G sh m3 r3 → Ev (d + 58) 221 1489 [.ref 0, .ref 29, .ref 110, .int (nI i)] [] sh m3 r3 Q) : Ev (d + 58) 221 1088 [.ref 0, .ref 29, .ref 110, .int (nI i)] [] sh mi mr Q := by
  refine ev_s (is_aload_n rfl rfl) ?_
  refine ev_s (is_aload_n rfl rfl) ?_
  refine ev_s (is_iload_n rfl rfl) ?_
  refine ev_s (is_iconst (nI 1) rfl rfl) ?_
  first
    | refine ev_s (is_iadd _ rfl (nI_add _ _)) ?_
    | refine ev_s (is_iadd _ rfl rfl) ?_
  refine ev_s (is_ialoadS (i + 1) rfl J.2.1 (Nat.ble_eq.mpr (by omega)) rfl (by omega) (J.2.2.1 _)) ?_
  refine ev_s (is_aload_n rfl rfl) ?_
  refine ev_s (is_iload_n rfl rfl) ?_
  refine ev_s (is_iconst (nI 2) rfl rfl) ?_
  first
    | refine ev_s (is_iadd _ rfl (nI_add _ _)) ?_
    | refine ev_s (is_iadd _ rfl rfl) ?_
  refine ev_s (is_ialoadS (i + 2) rfl J.2.1 (Nat.ble_eq.mpr (by omega)) rfl (by omega) (J.2.2.1 _)) ?_
  refine ev_s (is_aload_n rfl rfl) ?_
  refine ev_s (is_iload_n rfl rfl) ?_
  refine ev_s (is_iconst (nI 3) rfl rfl) ?_
  first
    | refine ev_s (is_iadd _ rfl (nI_add _ _)) ?_
    | refine ev_s (is_iadd _ rfl rfl) ?_
  refine ev_s (is_ialoadS (i + 3) rfl J.2.1 (Nat.ble_eq.mpr (by omega)) rfl (by omega) (J.2.2.1 _)) ?_
  refine ev_q1 (is_callR 4 [_, _, _] [] rfl rfl rfl rfl rfl (Nat.le_of_ble_eq_true rfl) rfl rfl rfl (pu_s J.1 29 rfl rfl)) rfl rfl (x_film J.1 J.2.2.2.1 J.2.2.2.2.1 _ _ _) (fun r_1104 mi mr hq_1104 => ?_)
  obtain ⟨rfl, M⟩ := mx_k J hq_1104
  refine ev_s (is_aload_n rfl rfl) ?_
  refine ev_s (is_aload_n rfl rfl) ?_
  refine ev_s (is_iload_n rfl rfl) ?_
  refine ev_s (is_iconst (nI 1) rfl rfl) ?_
  first
    | refine ev_s (is_iadd _ rfl (nI_add _ _)) ?_
    | refine ev_s (is_iadd _ rfl rfl) ?_
  refine ev_s (is_ialoadS (i + 1) rfl M.2.1 (Nat.ble_eq.mpr (by omega)) rfl (by omega) (M.2.2.1 _)) ?_
  refine ev_s (is_aload_n rfl rfl) ?_
  refine ev_s (is_iload_n rfl rfl) ?_
  refine ev_s (is_iconst (nI 2) rfl rfl) ?_
  first
    | refine ev_s (is_iadd _ rfl (nI_add _ _)) ?_
    | refine ev_s (is_iadd _ rfl rfl) ?_
  refine ev_s (is_ialoadS (i + 2) rfl M.2.1 (Nat.ble_eq.mpr (by omega)) rfl (by omega) (M.2.2.1 _)) ?_
  refine ev_s (is_aload_n rfl rfl) ?_
  refine ev_s (is_iload_n rfl rfl) ?_
  refine ev_s (is_iconst (nI 3) rfl rfl) ?_
  first
    | refine ev_s (is_iadd _ rfl (nI_add _ _)) ?_
    | refine ev_s (is_iadd _ rfl rfl) ?_
  refine ev_s (is_ialoadS (i + 3) rfl M.2.1 (Nat.ble_eq.mpr (by omega)) rfl (by omega) (M.2.2.1 _)) ?_
  refine ev_q1 (is_callR 4 [_, _, _] [_] rfl rfl rfl rfl rfl (Nat.le_of_ble_eq_true rfl) rfl rfl rfl (pu_s M.1 110 rfl rfl)) rfl rfl (r_film M.1 (rz_rf M.2.2.2.2.2.2.2.1 M.2.2.2.2.2.2.2.2) _ _ _) (fun r_1123 mi mr hq_1123 => ?_)
  obtain ⟨rfl, N⟩ := mr_z M hq_1123
  refine ev_s (is_icmp_eq_t rfl rfl) ?_
  exact k _ _ _ _ _ N
theorem lw_c29 {d LL i : Nat} {xs : Nat → Int32} {H K : ho_T} {G : ho_G} {sh : im_Sh} {mi : im_MI} {mr : im_MR} {Q : ev_Q} (J : lw_M LL xs H K G H K G sh mi mr) (hi : i + 7 ≤ LL) (hLL : LL ≤ 3584) (k : ∀ H K G m3 r3, lw_M LL xs H K G H K G sh m3 r3 → Ev (d + 58) 221 1489 [.ref 0, .ref 29, .ref 110, .int (nI i)] [] sh m3 r3 Q) : Ev (d + 58) 221 1131 [.ref 0, .ref 29, .ref 110, .int (nI i)] [] sh mi mr Q := by
  refine ev_s (is_aload_n rfl rfl) ?_
  refine ev_s (is_aload_n rfl rfl) ?_
  refine ev_s (is_iload_n rfl rfl) ?_
  refine ev_s (is_iconst (nI 1) rfl rfl) ?_
  first
    | refine ev_s (is_iadd _ rfl (nI_add _ _)) ?_
    | refine ev_s (is_iadd _ rfl rfl) ?_
  refine ev_s (is_ialoadS (i + 1) rfl J.2.1 (Nat.ble_eq.mpr (by omega)) rfl (by omega) (J.2.2.1 _)) ?_
  refine ev_s (is_aload_n rfl rfl) ?_
  refine ev_s (is_iload_n rfl rfl) ?_
  refine ev_s (is_iconst (nI 2) rfl rfl) ?_
  first
    | refine ev_s (is_iadd _ rfl (nI_add _ _)) ?_
    | refine ev_s (is_iadd _ rfl rfl) ?_
  refine ev_s (is_ialoadS (i + 2) rfl J.2.1 (Nat.ble_eq.mpr (by omega)) rfl (by omega) (J.2.2.1 _)) ?_
  refine ev_q1 (is_callR 3 [_, _] [] rfl rfl rfl rfl rfl (Nat.le_of_ble_eq_true rfl) rfl rfl rfl (pu_s J.1 29 rfl rfl)) rfl rfl (x_drawn J.1 J.2.2.2.1 _ _) (fun r_1142 mi mr hq_1142 => ?_)
  obtain ⟨rfl, M⟩ := mx_q J hq_1142
  refine ev_s (is_aload_n rfl rfl) ?_
  refine ev_s (is_aload_n rfl rfl) ?_
  refine ev_s (is_iload_n rfl rfl) ?_
  refine ev_s (is_iconst (nI 1) rfl rfl) ?_
  first
    | refine ev_s (is_iadd _ rfl (nI_add _ _)) ?_
    | refine ev_s (is_iadd _ rfl rfl) ?_
  refine ev_s (is_ialoadS (i + 1) rfl M.2.1 (Nat.ble_eq.mpr (by omega)) rfl (by omega) (M.2.2.1 _)) ?_
  refine ev_s (is_aload_n rfl rfl) ?_
  refine ev_s (is_iload_n rfl rfl) ?_
  refine ev_s (is_iconst (nI 2) rfl rfl) ?_
  first
    | refine ev_s (is_iadd _ rfl (nI_add _ _)) ?_
    | refine ev_s (is_iadd _ rfl rfl) ?_
  refine ev_s (is_ialoadS (i + 2) rfl M.2.1 (Nat.ble_eq.mpr (by omega)) rfl (by omega) (M.2.2.1 _)) ?_
  refine ev_q1 (is_callR 3 [_, _] [_] rfl rfl rfl rfl rfl (Nat.le_of_ble_eq_true rfl) rfl rfl rfl (pu_s M.1 110 rfl rfl)) rfl rfl (r_drawn M.1 (rz_rf M.2.2.2.2.2.2.2.1 M.2.2.2.2.2.2.2.2) _ _) (fun r_1156 mi mr hq_1156 => ?_)
  obtain ⟨rfl, N⟩ := mr_z M hq_1156
  refine ev_s (is_icmp_eq_t rfl rfl) ?_
  exact k _ _ _ _ _ N
theorem lw_c30 {d LL i : Nat} {xs : Nat → Int32} {H K : ho_T} {G : ho_G} {sh : im_Sh} {mi : im_MI} {mr : im_MR} {Q : ev_Q} (J : lw_M LL xs H K G H K G sh mi mr) (hi : i + 7 ≤ LL) (hLL : LL ≤ 3584) (k : ∀ H K G m3 r3, lw_M LL xs H K G H K G sh m3 r3 → Ev (d + 58) 221 1489 [.ref 0, .ref 29, .ref 110, .int (nI i)] [] sh m3 r3 Q) : Ev (d + 58) 221 1164 [.ref 0, .ref 29, .ref 110, .int (nI i)] [] sh mi mr Q := by
  refine ev_s (is_aload_n rfl rfl) ?_
  refine ev_s (is_aload_n rfl rfl) ?_
  refine ev_s (is_iload_n rfl rfl) ?_
  refine ev_s (is_iconst (nI 1) rfl rfl) ?_
  first
    | refine ev_s (is_iadd _ rfl (nI_add _ _)) ?_
    | refine ev_s (is_iadd _ rfl rfl) ?_
  refine ev_s (is_ialoadS (i + 1) rfl J.2.1 (Nat.ble_eq.mpr (by omega)) rfl (by omega) (J.2.2.1 _)) ?_
  refine ev_s (is_aload_n rfl rfl) ?_
  refine ev_s (is_iload_n rfl rfl) ?_
  refine ev_s (is_iconst (nI 2) rfl rfl) ?_
  first
    | refine ev_s (is_iadd _ rfl (nI_add _ _)) ?_
    | refine ev_s (is_iadd _ rfl rfl) ?_
  refine ev_s (is_ialoadS (i + 2) rfl J.2.1 (Nat.ble_eq.mpr (by omega)) rfl (by omega) (J.2.2.1 _)) ?_
  refine ev_s (is_aload_n rfl rfl) ?_
  refine ev_s (is_iload_n rfl rfl) ?_
  refine ev_s (is_iconst (nI 3) rfl rfl) ?_
  first
    | refine ev_s (is_iadd _ rfl (nI_add _ _)) ?_
    | refine ev_s (is_iadd _ rfl rfl) ?_
  refine ev_s (is_ialoadS (i + 3) rfl J.2.1 (Nat.ble_eq.mpr (by omega)) rfl (by omega) (J.2.2.1 _)) ?_
  refine ev_s (is_aload_n rfl rfl) ?_
  refine ev_s (is_iload_n rfl rfl) ?_
  refine ev_s (is_iconst (nI 4) rfl rfl) ?_
  first
    | refine ev_s (is_iadd _ rfl (nI_add _ _)) ?_
    | refine ev_s (is_iadd _ rfl rfl) ?_
  refine ev_s (is_ialoadS (i + 4) rfl J.2.1 (Nat.ble_eq.mpr (by omega)) rfl (by omega) (J.2.2.1 _)) ?_
  refine ev_s (is_aload_n rfl rfl) ?_
  refine ev_s (is_iload_n rfl rfl) ?_
  refine ev_s (is_iconst (nI 5) rfl rfl) ?_
  first
    | refine ev_s (is_iadd _ rfl (nI_add _ _)) ?_
    | refine ev_s (is_iadd _ rfl rfl) ?_
  refine ev_s (is_ialoadS (i + 5) rfl J.2.1 (Nat.ble_eq.mpr (by omega)) rfl (by omega) (J.2.2.1 _)) ?_
  refine ev_q1 (is_callR 6 [_, _, _, _, _] [] rfl rfl rfl rfl rfl (Nat.le_of_ble_eq_true rfl) rfl rfl rfl (pu_s J.1 29 rfl rfl)) rfl rfl (x_odds J.1 J.2.2.2.1 _ _ _ _ _) (fun r_1190 mi mr hq_1190 => ?_)
  obtain ⟨rfl, M⟩ := mx_q J hq_1190
  refine ev_s (is_aload_n rfl rfl) ?_
  refine ev_s (is_aload_n rfl rfl) ?_
  refine ev_s (is_iload_n rfl rfl) ?_
  refine ev_s (is_iconst (nI 1) rfl rfl) ?_
  first
    | refine ev_s (is_iadd _ rfl (nI_add _ _)) ?_
    | refine ev_s (is_iadd _ rfl rfl) ?_
  refine ev_s (is_ialoadS (i + 1) rfl M.2.1 (Nat.ble_eq.mpr (by omega)) rfl (by omega) (M.2.2.1 _)) ?_
  refine ev_s (is_aload_n rfl rfl) ?_
  refine ev_s (is_iload_n rfl rfl) ?_
  refine ev_s (is_iconst (nI 2) rfl rfl) ?_
  first
    | refine ev_s (is_iadd _ rfl (nI_add _ _)) ?_
    | refine ev_s (is_iadd _ rfl rfl) ?_
  refine ev_s (is_ialoadS (i + 2) rfl M.2.1 (Nat.ble_eq.mpr (by omega)) rfl (by omega) (M.2.2.1 _)) ?_
  refine ev_s (is_aload_n rfl rfl) ?_
  refine ev_s (is_iload_n rfl rfl) ?_
  refine ev_s (is_iconst (nI 3) rfl rfl) ?_
  first
    | refine ev_s (is_iadd _ rfl (nI_add _ _)) ?_
    | refine ev_s (is_iadd _ rfl rfl) ?_
  refine ev_s (is_ialoadS (i + 3) rfl M.2.1 (Nat.ble_eq.mpr (by omega)) rfl (by omega) (M.2.2.1 _)) ?_
  refine ev_s (is_aload_n rfl rfl) ?_
  refine ev_s (is_iload_n rfl rfl) ?_
  refine ev_s (is_iconst (nI 4) rfl rfl) ?_
  first
    | refine ev_s (is_iadd _ rfl (nI_add _ _)) ?_
    | refine ev_s (is_iadd _ rfl rfl) ?_
  refine ev_s (is_ialoadS (i + 4) rfl M.2.1 (Nat.ble_eq.mpr (by omega)) rfl (by omega) (M.2.2.1 _)) ?_
  refine ev_s (is_aload_n rfl rfl) ?_
  refine ev_s (is_iload_n rfl rfl) ?_
  refine ev_s (is_iconst (nI 5) rfl rfl) ?_
  first
    | refine ev_s (is_iadd _ rfl (nI_add _ _)) ?_
    | refine ev_s (is_iadd _ rfl rfl) ?_
  refine ev_s (is_ialoadS (i + 5) rfl M.2.1 (Nat.ble_eq.mpr (by omega)) rfl (by omega) (M.2.2.1 _)) ?_
  refine ev_q1 (is_callR 6 [_, _, _, _, _] [_] rfl rfl rfl rfl rfl (Nat.le_of_ble_eq_true rfl) rfl rfl rfl (pu_s M.1 110 rfl rfl)) rfl rfl (r_odds M.1 (rz_rf M.2.2.2.2.2.2.2.1 M.2.2.2.2.2.2.2.2) _ _ _ _ _) (fun r_1219 mi mr hq_1219 => ?_)
  obtain ⟨rfl, N⟩ := mr_z M hq_1219
  refine ev_s (is_lcmp _ rfl rfl) ?_
  refine ev_s (is_if_eq_t rfl (lg_self _)) ?_
  exact k _ _ _ _ _ N
theorem lw_c31 {d LL i : Nat} {xs : Nat → Int32} {H K : ho_T} {G : ho_G} {sh : im_Sh} {mi : im_MI} {mr : im_MR} {Q : ev_Q} (J : lw_M LL xs H K G H K G sh mi mr) (hi : i + 7 ≤ LL) (hLL : LL ≤ 3584) (k : ∀ H K G m3 r3, lw_M LL xs H K G H K G sh m3 r3 → Ev (d + 58) 221 1489 [.ref 0, .ref 29, .ref 110, .int (nI i)] [] sh m3 r3 Q) : Ev (d + 58) 221 1228 [.ref 0, .ref 29, .ref 110, .int (nI i)] [] sh mi mr Q := by
  refine ev_s (is_aload_n rfl rfl) ?_
  refine ev_q1 (is_callR 1 [] [] rfl rfl rfl rfl rfl (Nat.le_of_ble_eq_true rfl) rfl rfl rfl (pu_s J.1 29 rfl rfl)) rfl rfl (x_image J.1 J.2.2.2.1 J.2.2.2.2.1) (fun r_1229 mi mr hq_1229 => ?_)
  obtain ⟨rfl, M⟩ := mx_k J hq_1229
  refine ev_s (is_aload_n rfl rfl) ?_
  refine ev_q1 (is_callR 1 [] [_] rfl rfl rfl rfl rfl (Nat.le_of_ble_eq_true rfl) rfl rfl rfl (pu_s M.1 110 rfl rfl)) rfl rfl (r_image M.1 (rz_rf M.2.2.2.2.2.2.2.1 M.2.2.2.2.2.2.2.2) (xa_iv J.2.2.2.1)) (fun r_1233 mi mr hq_1233 => ?_)
  obtain ⟨rfl, N⟩ := mr_z M hq_1233
  refine ev_s (is_icmp_eq_t rfl rfl) ?_
  exact k _ _ _ _ _ N
theorem lw_c32 {d LL i : Nat} {xs : Nat → Int32} {H K : ho_T} {G : ho_G} {sh : im_Sh} {mi : im_MI} {mr : im_MR} {Q : ev_Q} (J : lw_M LL xs H K G H K G sh mi mr) (hi : i + 7 ≤ LL) (hLL : LL ≤ 3584) (k : ∀ H K G m3 r3, lw_M LL xs H K G H K G sh m3 r3 → Ev (d + 58) 221 1489 [.ref 0, .ref 29, .ref 110, .int (nI i)] [] sh m3 r3 Q) : Ev (d + 58) 221 1241 [.ref 0, .ref 29, .ref 110, .int (nI i)] [] sh mi mr Q := by
  refine ev_s (is_aload_n rfl rfl) ?_
  refine ev_q1 (is_callR 1 [] [] rfl rfl rfl rfl rfl (Nat.le_of_ble_eq_true rfl) rfl rfl rfl (pu_s J.1 29 rfl rfl)) rfl rfl (x_back J.1 J.2.2.2.1 J.2.2.2.2.1) (fun r_1242 mi mr hq_1242 => ?_)
  obtain ⟨rfl, M⟩ := mx_g J hq_1242
  refine ev_s (is_aload_n rfl rfl) ?_
  refine ev_q1 (is_callR 1 [] [_] rfl rfl rfl rfl rfl (Nat.le_of_ble_eq_true rfl) rfl rfl rfl (pu_s M.1 110 rfl rfl)) rfl rfl (r_back M.1 (rz_rf M.2.2.2.2.2.2.2.1 M.2.2.2.2.2.2.2.2)) (fun r_1246 mi mr hq_1246 => ?_)
  obtain ⟨rfl, N⟩ := mr_z M hq_1246
  refine ev_s (is_icmp_eq_t rfl rfl) ?_
  exact k _ _ _ _ _ N
theorem lw_c33 {d LL i : Nat} {xs : Nat → Int32} {H K : ho_T} {G : ho_G} {sh : im_Sh} {mi : im_MI} {mr : im_MR} {Q : ev_Q} (J : lw_M LL xs H K G H K G sh mi mr) (hi : i + 7 ≤ LL) (hLL : LL ≤ 3584) (k : ∀ H K G m3 r3, lw_M LL xs H K G H K G sh m3 r3 → Ev (d + 58) 221 1489 [.ref 0, .ref 29, .ref 110, .int (nI i)] [] sh m3 r3 Q) : Ev (d + 58) 221 1254 [.ref 0, .ref 29, .ref 110, .int (nI i)] [] sh mi mr Q := by
  refine ev_s (is_aload_n rfl rfl) ?_
  refine ev_s (is_aload_n rfl rfl) ?_
  refine ev_s (is_iload_n rfl rfl) ?_
  refine ev_s (is_iconst (nI 1) rfl rfl) ?_
  first
    | refine ev_s (is_iadd _ rfl (nI_add _ _)) ?_
    | refine ev_s (is_iadd _ rfl rfl) ?_
  refine ev_s (is_ialoadS (i + 1) rfl J.2.1 (Nat.ble_eq.mpr (by omega)) rfl (by omega) (J.2.2.1 _)) ?_
  refine ev_s (is_aload_n rfl rfl) ?_
  refine ev_s (is_iload_n rfl rfl) ?_
  refine ev_s (is_iconst (nI 2) rfl rfl) ?_
  first
    | refine ev_s (is_iadd _ rfl (nI_add _ _)) ?_
    | refine ev_s (is_iadd _ rfl rfl) ?_
  refine ev_s (is_ialoadS (i + 2) rfl J.2.1 (Nat.ble_eq.mpr (by omega)) rfl (by omega) (J.2.2.1 _)) ?_
  refine ev_s (is_aload_n rfl rfl) ?_
  refine ev_s (is_iload_n rfl rfl) ?_
  refine ev_s (is_iconst (nI 3) rfl rfl) ?_
  first
    | refine ev_s (is_iadd _ rfl (nI_add _ _)) ?_
    | refine ev_s (is_iadd _ rfl rfl) ?_
  refine ev_s (is_ialoadS (i + 3) rfl J.2.1 (Nat.ble_eq.mpr (by omega)) rfl (by omega) (J.2.2.1 _)) ?_
  refine ev_q1 (is_callR 4 [_, _, _] [] rfl rfl rfl rfl rfl (Nat.le_of_ble_eq_true rfl) rfl rfl rfl (pu_s J.1 29 rfl rfl)) rfl rfl (x_sheet J.1 J.2.2.2.1 J.2.2.2.2.1 _ _ _) (fun r_1270 mi mr hq_1270 => ?_)
  obtain ⟨rfl, M⟩ := mx_k J hq_1270
  refine ev_s (is_aload_n rfl rfl) ?_
  refine ev_s (is_aload_n rfl rfl) ?_
  refine ev_s (is_iload_n rfl rfl) ?_
  refine ev_s (is_iconst (nI 1) rfl rfl) ?_
  first
    | refine ev_s (is_iadd _ rfl (nI_add _ _)) ?_
    | refine ev_s (is_iadd _ rfl rfl) ?_
  refine ev_s (is_ialoadS (i + 1) rfl M.2.1 (Nat.ble_eq.mpr (by omega)) rfl (by omega) (M.2.2.1 _)) ?_
  refine ev_s (is_aload_n rfl rfl) ?_
  refine ev_s (is_iload_n rfl rfl) ?_
  refine ev_s (is_iconst (nI 2) rfl rfl) ?_
  first
    | refine ev_s (is_iadd _ rfl (nI_add _ _)) ?_
    | refine ev_s (is_iadd _ rfl rfl) ?_
  refine ev_s (is_ialoadS (i + 2) rfl M.2.1 (Nat.ble_eq.mpr (by omega)) rfl (by omega) (M.2.2.1 _)) ?_
  refine ev_s (is_aload_n rfl rfl) ?_
  refine ev_s (is_iload_n rfl rfl) ?_
  refine ev_s (is_iconst (nI 3) rfl rfl) ?_
  first
    | refine ev_s (is_iadd _ rfl (nI_add _ _)) ?_
    | refine ev_s (is_iadd _ rfl rfl) ?_
  refine ev_s (is_ialoadS (i + 3) rfl M.2.1 (Nat.ble_eq.mpr (by omega)) rfl (by omega) (M.2.2.1 _)) ?_
  refine ev_q1 (is_callR 4 [_, _, _] [_] rfl rfl rfl rfl rfl (Nat.le_of_ble_eq_true rfl) rfl rfl rfl (pu_s M.1 110 rfl rfl)) rfl rfl (r_sheet M.1 (rz_rf M.2.2.2.2.2.2.2.1 M.2.2.2.2.2.2.2.2) _ _ _) (fun r_1289 mi mr hq_1289 => ?_)
  obtain ⟨rfl, N⟩ := mr_z M hq_1289
  refine ev_s (is_icmp_eq_t rfl rfl) ?_
  exact k _ _ _ _ _ N
theorem lw_c34 {d LL i : Nat} {xs : Nat → Int32} {H K : ho_T} {G : ho_G} {sh : im_Sh} {mi : im_MI} {mr : im_MR} {Q : ev_Q} (J : lw_M LL xs H K G H K G sh mi mr) (hi : i + 7 ≤ LL) (hLL : LL ≤ 3584) (k : ∀ H K G m3 r3, lw_M LL xs H K G H K G sh m3 r3 → Ev (d + 58) 221 1489 [.ref 0, .ref 29, .ref 110, .int (nI i)] [] sh m3 r3 Q) : Ev (d + 58) 221 1297 [.ref 0, .ref 29, .ref 110, .int (nI i)] [] sh mi mr Q := by
  refine ev_s (is_aload_n rfl rfl) ?_
  refine ev_s (is_aload_n rfl rfl) ?_
  refine ev_s (is_iload_n rfl rfl) ?_
  refine ev_s (is_iconst (nI 1) rfl rfl) ?_
  first
    | refine ev_s (is_iadd _ rfl (nI_add _ _)) ?_
    | refine ev_s (is_iadd _ rfl rfl) ?_
  refine ev_s (is_ialoadS (i + 1) rfl J.2.1 (Nat.ble_eq.mpr (by omega)) rfl (by omega) (J.2.2.1 _)) ?_
  refine ev_s (is_aload_n rfl rfl) ?_
  refine ev_s (is_iload_n rfl rfl) ?_
  refine ev_s (is_iconst (nI 2) rfl rfl) ?_
  first
    | refine ev_s (is_iadd _ rfl (nI_add _ _)) ?_
    | refine ev_s (is_iadd _ rfl rfl) ?_
  refine ev_s (is_ialoadS (i + 2) rfl J.2.1 (Nat.ble_eq.mpr (by omega)) rfl (by omega) (J.2.2.1 _)) ?_
  refine ev_s (is_aload_n rfl rfl) ?_
  refine ev_s (is_iload_n rfl rfl) ?_
  refine ev_s (is_iconst (nI 3) rfl rfl) ?_
  first
    | refine ev_s (is_iadd _ rfl (nI_add _ _)) ?_
    | refine ev_s (is_iadd _ rfl rfl) ?_
  refine ev_s (is_ialoadS (i + 3) rfl J.2.1 (Nat.ble_eq.mpr (by omega)) rfl (by omega) (J.2.2.1 _)) ?_
  refine ev_q1 (is_callR 4 [_, _, _] [] rfl rfl rfl rfl rfl (Nat.le_of_ble_eq_true rfl) rfl rfl rfl (pu_s J.1 29 rfl rfl)) rfl rfl (x_cell J.1 J.2.2.2.1 J.2.2.2.2.1 _ _ _) (fun r_1313 mi mr hq_1313 => ?_)
  obtain ⟨rfl, M⟩ := mx_k J hq_1313
  refine ev_s (is_aload_n rfl rfl) ?_
  refine ev_s (is_aload_n rfl rfl) ?_
  refine ev_s (is_iload_n rfl rfl) ?_
  refine ev_s (is_iconst (nI 1) rfl rfl) ?_
  first
    | refine ev_s (is_iadd _ rfl (nI_add _ _)) ?_
    | refine ev_s (is_iadd _ rfl rfl) ?_
  refine ev_s (is_ialoadS (i + 1) rfl M.2.1 (Nat.ble_eq.mpr (by omega)) rfl (by omega) (M.2.2.1 _)) ?_
  refine ev_s (is_aload_n rfl rfl) ?_
  refine ev_s (is_iload_n rfl rfl) ?_
  refine ev_s (is_iconst (nI 2) rfl rfl) ?_
  first
    | refine ev_s (is_iadd _ rfl (nI_add _ _)) ?_
    | refine ev_s (is_iadd _ rfl rfl) ?_
  refine ev_s (is_ialoadS (i + 2) rfl M.2.1 (Nat.ble_eq.mpr (by omega)) rfl (by omega) (M.2.2.1 _)) ?_
  refine ev_s (is_aload_n rfl rfl) ?_
  refine ev_s (is_iload_n rfl rfl) ?_
  refine ev_s (is_iconst (nI 3) rfl rfl) ?_
  first
    | refine ev_s (is_iadd _ rfl (nI_add _ _)) ?_
    | refine ev_s (is_iadd _ rfl rfl) ?_
  refine ev_s (is_ialoadS (i + 3) rfl M.2.1 (Nat.ble_eq.mpr (by omega)) rfl (by omega) (M.2.2.1 _)) ?_
  refine ev_q1 (is_callR 4 [_, _, _] [_] rfl rfl rfl rfl rfl (Nat.le_of_ble_eq_true rfl) rfl rfl rfl (pu_s M.1 110 rfl rfl)) rfl rfl (r_cell M.1 (rz_rf M.2.2.2.2.2.2.2.1 M.2.2.2.2.2.2.2.2) _ _ _) (fun r_1332 mi mr hq_1332 => ?_)
  obtain ⟨rfl, N⟩ := mr_z M hq_1332
  refine ev_s (is_icmp_eq_t rfl rfl) ?_
  exact k _ _ _ _ _ N
theorem lw_c35 {d LL i : Nat} {xs : Nat → Int32} {H K : ho_T} {G : ho_G} {sh : im_Sh} {mi : im_MI} {mr : im_MR} {Q : ev_Q} (J : lw_M LL xs H K G H K G sh mi mr) (hi : i + 7 ≤ LL) (hLL : LL ≤ 3584) (k : ∀ H K G m3 r3, lw_M LL xs H K G H K G sh m3 r3 → Ev (d + 58) 221 1489 [.ref 0, .ref 29, .ref 110, .int (nI i)] [] sh m3 r3 Q) : Ev (d + 58) 221 1340 [.ref 0, .ref 29, .ref 110, .int (nI i)] [] sh mi mr Q := by
  refine ev_s (is_aload_n rfl rfl) ?_
  refine ev_s (is_aload_n rfl rfl) ?_
  refine ev_s (is_iload_n rfl rfl) ?_
  refine ev_s (is_iconst (nI 1) rfl rfl) ?_
  first
    | refine ev_s (is_iadd _ rfl (nI_add _ _)) ?_
    | refine ev_s (is_iadd _ rfl rfl) ?_
  refine ev_s (is_ialoadS (i + 1) rfl J.2.1 (Nat.ble_eq.mpr (by omega)) rfl (by omega) (J.2.2.1 _)) ?_
  refine ev_s (is_aload_n rfl rfl) ?_
  refine ev_s (is_iload_n rfl rfl) ?_
  refine ev_s (is_iconst (nI 2) rfl rfl) ?_
  first
    | refine ev_s (is_iadd _ rfl (nI_add _ _)) ?_
    | refine ev_s (is_iadd _ rfl rfl) ?_
  refine ev_s (is_ialoadS (i + 2) rfl J.2.1 (Nat.ble_eq.mpr (by omega)) rfl (by omega) (J.2.2.1 _)) ?_
  refine ev_s (is_aload_n rfl rfl) ?_
  refine ev_s (is_iload_n rfl rfl) ?_
  refine ev_s (is_iconst (nI 3) rfl rfl) ?_
  first
    | refine ev_s (is_iadd _ rfl (nI_add _ _)) ?_
    | refine ev_s (is_iadd _ rfl rfl) ?_
  refine ev_s (is_ialoadS (i + 3) rfl J.2.1 (Nat.ble_eq.mpr (by omega)) rfl (by omega) (J.2.2.1 _)) ?_
  refine ev_s (is_aload_n rfl rfl) ?_
  refine ev_s (is_iload_n rfl rfl) ?_
  refine ev_s (is_iconst (nI 4) rfl rfl) ?_
  first
    | refine ev_s (is_iadd _ rfl (nI_add _ _)) ?_
    | refine ev_s (is_iadd _ rfl rfl) ?_
  refine ev_s (is_ialoadS (i + 4) rfl J.2.1 (Nat.ble_eq.mpr (by omega)) rfl (by omega) (J.2.2.1 _)) ?_
  refine ev_s (is_aload_n rfl rfl) ?_
  refine ev_s (is_iload_n rfl rfl) ?_
  refine ev_s (is_iconst (nI 5) rfl rfl) ?_
  first
    | refine ev_s (is_iadd _ rfl (nI_add _ _)) ?_
    | refine ev_s (is_iadd _ rfl rfl) ?_
  refine ev_s (is_ialoadS (i + 5) rfl J.2.1 (Nat.ble_eq.mpr (by omega)) rfl (by omega) (J.2.2.1 _)) ?_
  refine ev_q1 (is_callR 6 [_, _, _, _, _] [] rfl rfl rfl rfl rfl (Nat.le_of_ble_eq_true rfl) rfl rfl rfl (pu_s J.1 29 rfl rfl)) rfl rfl (x_copy J.1 J.2.2.2.1 J.2.2.2.2.1 _ _ _ _ _) (fun r_1366 mi mr hq_1366 => ?_)
  obtain ⟨rfl, M⟩ := mx_k J hq_1366
  refine ev_s (is_aload_n rfl rfl) ?_
  refine ev_s (is_aload_n rfl rfl) ?_
  refine ev_s (is_iload_n rfl rfl) ?_
  refine ev_s (is_iconst (nI 1) rfl rfl) ?_
  first
    | refine ev_s (is_iadd _ rfl (nI_add _ _)) ?_
    | refine ev_s (is_iadd _ rfl rfl) ?_
  refine ev_s (is_ialoadS (i + 1) rfl M.2.1 (Nat.ble_eq.mpr (by omega)) rfl (by omega) (M.2.2.1 _)) ?_
  refine ev_s (is_aload_n rfl rfl) ?_
  refine ev_s (is_iload_n rfl rfl) ?_
  refine ev_s (is_iconst (nI 2) rfl rfl) ?_
  first
    | refine ev_s (is_iadd _ rfl (nI_add _ _)) ?_
    | refine ev_s (is_iadd _ rfl rfl) ?_
  refine ev_s (is_ialoadS (i + 2) rfl M.2.1 (Nat.ble_eq.mpr (by omega)) rfl (by omega) (M.2.2.1 _)) ?_
  refine ev_s (is_aload_n rfl rfl) ?_
  refine ev_s (is_iload_n rfl rfl) ?_
  refine ev_s (is_iconst (nI 3) rfl rfl) ?_
  first
    | refine ev_s (is_iadd _ rfl (nI_add _ _)) ?_
    | refine ev_s (is_iadd _ rfl rfl) ?_
  refine ev_s (is_ialoadS (i + 3) rfl M.2.1 (Nat.ble_eq.mpr (by omega)) rfl (by omega) (M.2.2.1 _)) ?_
  refine ev_s (is_aload_n rfl rfl) ?_
  refine ev_s (is_iload_n rfl rfl) ?_
  refine ev_s (is_iconst (nI 4) rfl rfl) ?_
  first
    | refine ev_s (is_iadd _ rfl (nI_add _ _)) ?_
    | refine ev_s (is_iadd _ rfl rfl) ?_
  refine ev_s (is_ialoadS (i + 4) rfl M.2.1 (Nat.ble_eq.mpr (by omega)) rfl (by omega) (M.2.2.1 _)) ?_
  refine ev_s (is_aload_n rfl rfl) ?_
  refine ev_s (is_iload_n rfl rfl) ?_
  refine ev_s (is_iconst (nI 5) rfl rfl) ?_
  first
    | refine ev_s (is_iadd _ rfl (nI_add _ _)) ?_
    | refine ev_s (is_iadd _ rfl rfl) ?_
  refine ev_s (is_ialoadS (i + 5) rfl M.2.1 (Nat.ble_eq.mpr (by omega)) rfl (by omega) (M.2.2.1 _)) ?_
  refine ev_q1 (is_callR 6 [_, _, _, _, _] [_] rfl rfl rfl rfl rfl (Nat.le_of_ble_eq_true rfl) rfl rfl rfl (pu_s M.1 110 rfl rfl)) rfl rfl (r_copy M.1 (rz_rf M.2.2.2.2.2.2.2.1 M.2.2.2.2.2.2.2.2) _ _ _ _ _) (fun r_1395 mi mr hq_1395 => ?_)
  obtain ⟨rfl, N⟩ := mr_z M hq_1395
  refine ev_s (is_icmp_eq_t rfl rfl) ?_
  exact k _ _ _ _ _ N
theorem lw_c36 {d LL i : Nat} {xs : Nat → Int32} {H K : ho_T} {G : ho_G} {sh : im_Sh} {mi : im_MI} {mr : im_MR} {Q : ev_Q} (J : lw_M LL xs H K G H K G sh mi mr) (hi : i + 7 ≤ LL) (hLL : LL ≤ 3584) (k : ∀ H K G m3 r3, lw_M LL xs H K G H K G sh m3 r3 → Ev (d + 58) 221 1489 [.ref 0, .ref 29, .ref 110, .int (nI i)] [] sh m3 r3 Q) : Ev (d + 58) 221 1403 [.ref 0, .ref 29, .ref 110, .int (nI i)] [] sh mi mr Q := by
  refine ev_s (is_aload_n rfl rfl) ?_
  refine ev_s (is_aload_n rfl rfl) ?_
  refine ev_s (is_iload_n rfl rfl) ?_
  refine ev_s (is_iconst (nI 1) rfl rfl) ?_
  first
    | refine ev_s (is_iadd _ rfl (nI_add _ _)) ?_
    | refine ev_s (is_iadd _ rfl rfl) ?_
  refine ev_s (is_ialoadS (i + 1) rfl J.2.1 (Nat.ble_eq.mpr (by omega)) rfl (by omega) (J.2.2.1 _)) ?_
  refine ev_s (is_aload_n rfl rfl) ?_
  refine ev_s (is_iload_n rfl rfl) ?_
  refine ev_s (is_iconst (nI 2) rfl rfl) ?_
  first
    | refine ev_s (is_iadd _ rfl (nI_add _ _)) ?_
    | refine ev_s (is_iadd _ rfl rfl) ?_
  refine ev_s (is_ialoadS (i + 2) rfl J.2.1 (Nat.ble_eq.mpr (by omega)) rfl (by omega) (J.2.2.1 _)) ?_
  refine ev_s (is_aload_n rfl rfl) ?_
  refine ev_s (is_iload_n rfl rfl) ?_
  refine ev_s (is_iconst (nI 3) rfl rfl) ?_
  first
    | refine ev_s (is_iadd _ rfl (nI_add _ _)) ?_
    | refine ev_s (is_iadd _ rfl rfl) ?_
  refine ev_s (is_ialoadS (i + 3) rfl J.2.1 (Nat.ble_eq.mpr (by omega)) rfl (by omega) (J.2.2.1 _)) ?_
  refine ev_s (is_aload_n rfl rfl) ?_
  refine ev_s (is_iload_n rfl rfl) ?_
  refine ev_s (is_iconst (nI 4) rfl rfl) ?_
  first
    | refine ev_s (is_iadd _ rfl (nI_add _ _)) ?_
    | refine ev_s (is_iadd _ rfl rfl) ?_
  refine ev_s (is_ialoadS (i + 4) rfl J.2.1 (Nat.ble_eq.mpr (by omega)) rfl (by omega) (J.2.2.1 _)) ?_
  refine ev_q1 (is_callR 5 [_, _, _, _] [] rfl rfl rfl rfl rfl (Nat.le_of_ble_eq_true rfl) rfl rfl rfl (pu_s J.1 29 rfl rfl)) rfl rfl (x_menBy J.1 J.2.2.2.1 J.2.2.2.2.1 _ _ _ _) (fun r_1424 mi mr hq_1424 => ?_)
  obtain ⟨rfl, M⟩ := mx_k J hq_1424
  refine ev_s (is_aload_n rfl rfl) ?_
  refine ev_s (is_aload_n rfl rfl) ?_
  refine ev_s (is_iload_n rfl rfl) ?_
  refine ev_s (is_iconst (nI 1) rfl rfl) ?_
  first
    | refine ev_s (is_iadd _ rfl (nI_add _ _)) ?_
    | refine ev_s (is_iadd _ rfl rfl) ?_
  refine ev_s (is_ialoadS (i + 1) rfl M.2.1 (Nat.ble_eq.mpr (by omega)) rfl (by omega) (M.2.2.1 _)) ?_
  refine ev_s (is_aload_n rfl rfl) ?_
  refine ev_s (is_iload_n rfl rfl) ?_
  refine ev_s (is_iconst (nI 2) rfl rfl) ?_
  first
    | refine ev_s (is_iadd _ rfl (nI_add _ _)) ?_
    | refine ev_s (is_iadd _ rfl rfl) ?_
  refine ev_s (is_ialoadS (i + 2) rfl M.2.1 (Nat.ble_eq.mpr (by omega)) rfl (by omega) (M.2.2.1 _)) ?_
  refine ev_s (is_aload_n rfl rfl) ?_
  refine ev_s (is_iload_n rfl rfl) ?_
  refine ev_s (is_iconst (nI 3) rfl rfl) ?_
  first
    | refine ev_s (is_iadd _ rfl (nI_add _ _)) ?_
    | refine ev_s (is_iadd _ rfl rfl) ?_
  refine ev_s (is_ialoadS (i + 3) rfl M.2.1 (Nat.ble_eq.mpr (by omega)) rfl (by omega) (M.2.2.1 _)) ?_
  refine ev_s (is_aload_n rfl rfl) ?_
  refine ev_s (is_iload_n rfl rfl) ?_
  refine ev_s (is_iconst (nI 4) rfl rfl) ?_
  first
    | refine ev_s (is_iadd _ rfl (nI_add _ _)) ?_
    | refine ev_s (is_iadd _ rfl rfl) ?_
  refine ev_s (is_ialoadS (i + 4) rfl M.2.1 (Nat.ble_eq.mpr (by omega)) rfl (by omega) (M.2.2.1 _)) ?_
  refine ev_q1 (is_callR 5 [_, _, _, _] [_] rfl rfl rfl rfl rfl (Nat.le_of_ble_eq_true rfl) rfl rfl rfl (pu_s M.1 110 rfl rfl)) rfl rfl (r_menBy M.1 (rz_rf M.2.2.2.2.2.2.2.1 M.2.2.2.2.2.2.2.2) _ _ _ _) (fun r_1448 mi mr hq_1448 => ?_)
  obtain ⟨rfl, N⟩ := mr_z M hq_1448
  refine ev_s (is_icmp_eq_t rfl rfl) ?_
  exact k _ _ _ _ _ N
theorem lw_c37 {d LL i : Nat} {xs : Nat → Int32} {H K : ho_T} {G : ho_G} {sh : im_Sh} {mi : im_MI} {mr : im_MR} {Q : ev_Q} (J : lw_M LL xs H K G H K G sh mi mr) (hi : i + 7 ≤ LL) (hLL : LL ≤ 3584) (k : ∀ H K G m3 r3, lw_M LL xs H K G H K G sh m3 r3 → Ev (d + 58) 221 1489 [.ref 0, .ref 29, .ref 110, .int (nI i)] [] sh m3 r3 Q) : Ev (d + 58) 221 1456 [.ref 0, .ref 29, .ref 110, .int (nI i)] [] sh mi mr Q := by
  refine ev_s (is_aload_n rfl rfl) ?_
  refine ev_s (is_aload_n rfl rfl) ?_
  refine ev_s (is_iload_n rfl rfl) ?_
  refine ev_s (is_iconst (nI 1) rfl rfl) ?_
  first
    | refine ev_s (is_iadd _ rfl (nI_add _ _)) ?_
    | refine ev_s (is_iadd _ rfl rfl) ?_
  refine ev_s (is_ialoadS (i + 1) rfl J.2.1 (Nat.ble_eq.mpr (by omega)) rfl (by omega) (J.2.2.1 _)) ?_
  refine ev_s (is_aload_n rfl rfl) ?_
  refine ev_s (is_iload_n rfl rfl) ?_
  refine ev_s (is_iconst (nI 2) rfl rfl) ?_
  first
    | refine ev_s (is_iadd _ rfl (nI_add _ _)) ?_
    | refine ev_s (is_iadd _ rfl rfl) ?_
  refine ev_s (is_ialoadS (i + 2) rfl J.2.1 (Nat.ble_eq.mpr (by omega)) rfl (by omega) (J.2.2.1 _)) ?_
  refine ev_c1 (is_callR 3 [_, _] [] rfl rfl rfl rfl rfl (Nat.le_of_ble_eq_true rfl) rfl rfl rfl (pu_s J.1 29 rfl rfl)) rfl rfl (x_taken J.1 J.2.2.2.1 J.2.2.2.2.2.2.1 _ _) ?_
  have M := J
  refine ev_s (is_aload_n rfl rfl) ?_
  refine ev_s (is_aload_n rfl rfl) ?_
  refine ev_s (is_iload_n rfl rfl) ?_
  refine ev_s (is_iconst (nI 1) rfl rfl) ?_
  first
    | refine ev_s (is_iadd _ rfl (nI_add _ _)) ?_
    | refine ev_s (is_iadd _ rfl rfl) ?_
  refine ev_s (is_ialoadS (i + 1) rfl M.2.1 (Nat.ble_eq.mpr (by omega)) rfl (by omega) (M.2.2.1 _)) ?_
  refine ev_s (is_aload_n rfl rfl) ?_
  refine ev_s (is_iload_n rfl rfl) ?_
  refine ev_s (is_iconst (nI 2) rfl rfl) ?_
  first
    | refine ev_s (is_iadd _ rfl (nI_add _ _)) ?_
    | refine ev_s (is_iadd _ rfl rfl) ?_
  refine ev_s (is_ialoadS (i + 2) rfl M.2.1 (Nat.ble_eq.mpr (by omega)) rfl (by omega) (M.2.2.1 _)) ?_
  refine ev_q1 (is_callR 3 [_, _] [_] rfl rfl rfl rfl rfl (Nat.le_of_ble_eq_true rfl) rfl rfl rfl (pu_s M.1 110 rfl rfl)) rfl rfl (r_taken M.1 (rz_rf M.2.2.2.2.2.2.2.1 M.2.2.2.2.2.2.2.2) _ _) (fun r_1481 mi mr hq_1481 => ?_)
  obtain ⟨rfl, N⟩ := mr_z M hq_1481
  refine ev_s (is_icmp_eq_t rfl rfl) ?_
  exact k _ _ _ _ _ N
