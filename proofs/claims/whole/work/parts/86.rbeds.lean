/-! ===== PURE, the reference: tells, beds ===== -/

theorem r_tells {d : Nat} {sh : im_Sh} {mi : im_MI} {mr : im_MR} (hC : pu_C sh mr) {H K : ho_T} {G : ho_G} {m0 : im_MI} (hz : rz_ H K G m0 mi) (gp : pq_ H G mi) {A : Nat} (hA : A < 2 ^ 31) (h0 : 0 < H 0 0) : EvM (d) 174 [.ref 110, .int (nI A)] sh mi mr (fun r sh2 m2 r2 => sh2 = sh ∧ (r = .int (pu_b (tl_ok (H 0 0) A = true)) ∧ r2 = mr ∧ rz_ H K G m0 m2 ∧ pq_ H G m2 ∧ m2 110 32 = nI (tl_g (H 0 0) A (H 0 0)) ∧ m2 110 33 = nI (tl_m (pw_ H G) (H 0 0) A (H 0 0 / 2)))) := by
  show Ev (d) 174 0 [.ref 110, .int (nI A), im_bad, im_bad, im_bad, im_bad] [] sh mi mr _
  have hn6 := rz_n hz
  have second : ∀ (w2 : Value) (w4 : Int32) (ma : im_MI), rz_ H K G m0 ma → pq_ H G ma → ma 110 32 = nI (tl_g (H 0 0) A (H 0 0)) → ma 110 33 = nI 0 → (∀ k, k < H 0 0 → ma 130 k = nI (tl_d (H 0 0) A (H 0 0 - 1 - k))) → Ev (d) 174 99 [.ref 110, .int (nI A), w2, .int (nI (tl_s (H 0 0) A (H 0 0))), .int w4, .int (nI 0)] [] sh ma mr (fun r sh2 m2 r2 => sh2 = sh ∧ (r = .int (pu_b (tl_ok (H 0 0) A = true)) ∧ r2 = mr ∧ rz_ H K G m0 m2 ∧ pq_ H G m2 ∧ m2 110 32 = nI (tl_g (H 0 0) A (H 0 0)) ∧ m2 110 33 = nI (tl_m (pw_ H G) (H 0 0) A (H 0 0 / 2)))) := by
    intro w2 w4 ma hz gp gd gm hl
    have loop2 : ∀ (j t : Nat) (ma : im_MI), H 0 0 ≤ 2 * t + j → 2 * t ≤ H 0 0 → rz_ H K G m0 ma → pq_ H G ma → ma 110 32 = nI (tl_g (H 0 0) A (H 0 0)) → ma 110 33 = nI (tl_m (pw_ H G) (H 0 0) A t) → (∀ k, k < H 0 0 → ma 130 k = nI (tl_d (H 0 0) A (H 0 0 - 1 - k))) → Ev (d) 174 99 [.ref 110, .int (nI A), w2, .int (nI (tl_s (H 0 0) A (H 0 0))), .int w4, .int (nI (2 * t))] [] sh ma mr (fun r sh2 m2 r2 => sh2 = sh ∧ (r = .int (pu_b (tl_ok (H 0 0) A = true)) ∧ r2 = mr ∧ rz_ H K G m0 m2 ∧ pq_ H G m2 ∧ m2 110 32 = nI (tl_g (H 0 0) A (H 0 0)) ∧ m2 110 33 = nI (tl_m (pw_ H G) (H 0 0) A (H 0 0 / 2)))) := by
      intro j
      induction j with
      | zero =>
        intro t ma hj ht2 hz gp gd gm hl
        refine ev_s (is_iload rfl rfl) ?_
        refine ev_s (is_iconst (nI 1) rfl rfl) ?_
        first
          | refine ev_s (is_iadd _ rfl (nI_add _ _)) ?_
          | refine ev_s (is_iadd _ rfl rfl) ?_
        refine ev_s (is_aload_n rfl rfl) ?_
        refine ev_s (is_getI' rfl (pu_s hC 110 rfl rfl) rfl rfl hz.1.1) ?_
        refine ev_s (is_icmp_ge_t rfl (nI_le (by omega) (by omega))) ?_
        refine ev_s (is_iload_n rfl rfl) ?_
        refine ev_s (is_iconst (nI 1) rfl rfl) ?_
        refine ev_s (is_aload_n rfl rfl) ?_
        refine ev_s (is_getI' rfl (pu_s hC 110 rfl rfl) rfl rfl hz.1.1) ?_
        refine ev_s (is_ishl _ rfl (pu_shl1 (by omega))) ?_
        refine ev_s (is_iconst (nI 1) rfl rfl) ?_
        refine ev_s (is_isub _ rfl (pk_sub (Nat.one_le_two_pow))) ?_
        have hsl := tl_s_lt A h0 hn6 (H 0 0)
        have h2n : 2 ^ H 0 0 ≤ 2 ^ 6 := Nat.pow_le_pow_right (by decide) hn6
        have h26 : 2 ^ 6 = 64 := by decide
        refine ev_icmpN_ne rfl (by omega) (by omega) (fun h_182 => ?_) (fun h_182 => ?_)
        · refine ev_s (is_iconst (nI 0) rfl rfl) ?_
          refine ev_ret (is_ireturn rfl rfl (by first | rfl | exact pu_b_nar | decide)) ?_
          have ht : t = H 0 0 / 2 := by omega
          rw [ht] at gm
          first
            | exact ⟨rfl, pu_b_t (decide_eq_true h_182), rfl, hz, gp, gd, gm⟩
            | exact ⟨rfl, pu_b_f (fun q => h_182 (of_decide_eq_true q)), rfl, hz, gp, gd, gm⟩
        · refine ev_s (is_iconst (nI 1) rfl rfl) ?_
          refine ev_s (is_goto rfl) ?_
          refine ev_ret (is_ireturn rfl rfl (by first | rfl | exact pu_b_nar | decide)) ?_
          have ht : t = H 0 0 / 2 := by omega
          rw [ht] at gm
          first
            | exact ⟨rfl, pu_b_t (decide_eq_true h_182), rfl, hz, gp, gd, gm⟩
            | exact ⟨rfl, pu_b_f (fun q => h_182 (of_decide_eq_true q)), rfl, hz, gp, gd, gm⟩
      | succ j ih =>
        intro t ma hj ht2 hz gp gd gm hl
        refine ev_s (is_iload rfl rfl) ?_
        refine ev_s (is_iconst (nI 1) rfl rfl) ?_
        first
          | refine ev_s (is_iadd _ rfl (nI_add _ _)) ?_
          | refine ev_s (is_iadd _ rfl rfl) ?_
        refine ev_s (is_aload_n rfl rfl) ?_
        refine ev_s (is_getI' rfl (pu_s hC 110 rfl rfl) rfl rfl hz.1.1) ?_
        refine ev_icmpN_ge rfl (by omega) (by omega) (fun h_107 => ?_) (fun h_107 => ?_)
        · refine ev_s (is_iload_n rfl rfl) ?_
          refine ev_s (is_iconst (nI 1) rfl rfl) ?_
          refine ev_s (is_aload_n rfl rfl) ?_
          refine ev_s (is_getI' rfl (pu_s hC 110 rfl rfl) rfl rfl hz.1.1) ?_
          refine ev_s (is_ishl _ rfl (pu_shl1 (by omega))) ?_
          refine ev_s (is_iconst (nI 1) rfl rfl) ?_
          refine ev_s (is_isub _ rfl (pk_sub (Nat.one_le_two_pow))) ?_
          have hsl := tl_s_lt A h0 hn6 (H 0 0)
          have h2n : 2 ^ H 0 0 ≤ 2 ^ 6 := Nat.pow_le_pow_right (by decide) hn6
          have h26 : 2 ^ 6 = 64 := by decide
          refine ev_icmpN_ne rfl (by omega) (by omega) (fun h_182 => ?_) (fun h_182 => ?_)
          · refine ev_s (is_iconst (nI 0) rfl rfl) ?_
            refine ev_ret (is_ireturn rfl rfl (by first | rfl | exact pu_b_nar | decide)) ?_
            have ht : t = H 0 0 / 2 := by omega
            rw [ht] at gm
            first
              | exact ⟨rfl, pu_b_t (decide_eq_true h_182), rfl, hz, gp, gd, gm⟩
              | exact ⟨rfl, pu_b_f (fun q => h_182 (of_decide_eq_true q)), rfl, hz, gp, gd, gm⟩
          · refine ev_s (is_iconst (nI 1) rfl rfl) ?_
            refine ev_s (is_goto rfl) ?_
            refine ev_ret (is_ireturn rfl rfl (by first | rfl | exact pu_b_nar | decide)) ?_
            have ht : t = H 0 0 / 2 := by omega
            rw [ht] at gm
            first
              | exact ⟨rfl, pu_b_t (decide_eq_true h_182), rfl, hz, gp, gd, gm⟩
              | exact ⟨rfl, pu_b_f (fun q => h_182 (of_decide_eq_true q)), rfl, hz, gp, gd, gm⟩
        · have hl1 : ma 130 (2 * t + 1) = nI (tl_d (H 0 0) A (H 0 0 - 2 - 2 * t)) := by rw [hl (2 * t + 1) (by omega), show H 0 0 - 1 - (2 * t + 1) = H 0 0 - 2 - 2 * t by omega]
          have hdx := tl_d_lt A (H 0 0 - 1 - 2 * t) h0
          have hdy := tl_d_lt A (H 0 0 - 2 - 2 * t) h0
          refine ev_s (is_aload_n rfl rfl) ?_
          refine ev_s (is_dup rfl rfl) ?_
          refine ev_s (is_getI' rfl (pu_s hC 110 rfl rfl) rfl rfl gm) ?_
          refine ev_s (is_aload_n rfl rfl) ?_
          refine ev_s (is_getR rfl (pu_s hC 110 rfl rfl) rfl rfl (pu_r hC 110 34 rfl rfl)) ?_
          refine ev_s (is_iload rfl rfl) ?_
          refine ev_s (is_iaload' (2 * t) rfl (pu_s hC 130 rfl rfl) rfl rfl (by omega) (hl (2 * t) (by omega))) ?_
          refine ev_s (is_aload_n rfl rfl) ?_
          refine ev_s (is_getR rfl (pu_s hC 110 rfl rfl) rfl rfl (pu_r hC 110 34 rfl rfl)) ?_
          refine ev_s (is_iload rfl rfl) ?_
          refine ev_s (is_iconst (nI 1) rfl rfl) ?_
          first
            | refine ev_s (is_iadd _ rfl (nI_add _ _)) ?_
            | refine ev_s (is_iadd _ rfl rfl) ?_
          refine ev_s (is_iaload' (2 * t + 1) rfl (pu_s hC 130 rfl rfl) rfl rfl (by omega) hl1) ?_
          refine ev_icmpN_ne rfl (by omega) (by omega) (fun h_131 => ?_) (fun h_131 => ?_)
          · refine ev_s (is_aload_n rfl rfl) ?_
            refine ev_s (is_getR rfl (pu_s hC 110 rfl rfl) rfl rfl (pu_r hC 110 30 rfl rfl)) ?_
            refine ev_s (is_bipush (nI 6) rfl rfl) ?_
            refine ev_s (is_aload_n rfl rfl) ?_
            refine ev_s (is_getR rfl (pu_s hC 110 rfl rfl) rfl rfl (pu_r hC 110 34 rfl rfl)) ?_
            refine ev_s (is_iload rfl rfl) ?_
            refine ev_s (is_iaload' (2 * t) rfl (pu_s hC 130 rfl rfl) rfl rfl (by omega) (hl (2 * t) (by omega))) ?_
            first
              | refine ev_s (is_imul _ rfl (pk_mul _ _)) ?_
              | refine ev_s (is_imul _ rfl rfl) ?_
            refine ev_s (is_aload_n rfl rfl) ?_
            refine ev_s (is_getR rfl (pu_s hC 110 rfl rfl) rfl rfl (pu_r hC 110 34 rfl rfl)) ?_
            refine ev_s (is_iload rfl rfl) ?_
            refine ev_s (is_iconst (nI 1) rfl rfl) ?_
            first
              | refine ev_s (is_iadd _ rfl (nI_add _ _)) ?_
              | refine ev_s (is_iadd _ rfl rfl) ?_
            refine ev_s (is_iaload' (2 * t + 1) rfl (pu_s hC 130 rfl rfl) rfl rfl (by omega) hl1) ?_
            first
              | refine ev_s (is_iadd _ rfl (nI_add _ _)) ?_
              | refine ev_s (is_iadd _ rfl rfl) ?_
            refine ev_s (is_iaload' (6 * (tl_d (H 0 0) A (H 0 0 - 1 - 2 * t)) + (tl_d (H 0 0) A (H 0 0 - 2 - 2 * t))) rfl (pu_s hC 128 rfl rfl) rfl rfl (by omega) (gp _ _ hdx hdy h_131)) ?_
            refine ev_s (is_iadd _ rfl (nI_add _ _)) ?_
            refine ev_s (is_putI rfl (pu_s hC 110 rfl rfl) rfl rfl rfl) ?_
            refine ev_s (st_iinc_5 (nI (2 * (t + 1))) rfl rfl (by show nI (2 * t) + nI 2 = _; rw [nI_add]; rfl)) ?_
            refine ev_s (is_goto rfl) ?_
            refine ih (t + 1) _ (by omega) (by omega) (rz_s hz (Or.inr ⟨rfl, by decide⟩)) (fun x y h1 h2 h3 => by rw [im_u_k _ _ _ _ (by decide)]; exact gp x y h1 h2 h3) (by rw [im_u_j _ _ _ _ (by decide)]; exact gd) ?_ (fun k hk => by rw [im_u_k _ _ _ _ (by decide)]; exact hl k hk)
            rw [im_u_s]
            show _ = nI (tl_m (pw_ H G) (H 0 0) A t + tl_p (pw_ H G) (tl_d (H 0 0) A (H 0 0 - 1 - 2 * t)) (tl_d (H 0 0) A (H 0 0 - 2 - 2 * t)))
            unfold tl_p
            first
              | rw [if_pos h_131]
              | rw [if_neg h_131]
          · refine ev_s (is_iconst (nI 0) rfl rfl) ?_
            refine ev_s (is_goto rfl) ?_
            refine ev_s (is_iadd _ rfl (nI_add _ _)) ?_
            refine ev_s (is_putI rfl (pu_s hC 110 rfl rfl) rfl rfl rfl) ?_
            refine ev_s (st_iinc_5 (nI (2 * (t + 1))) rfl rfl (by show nI (2 * t) + nI 2 = _; rw [nI_add]; rfl)) ?_
            refine ev_s (is_goto rfl) ?_
            refine ih (t + 1) _ (by omega) (by omega) (rz_s hz (Or.inr ⟨rfl, by decide⟩)) (fun x y h1 h2 h3 => by rw [im_u_k _ _ _ _ (by decide)]; exact gp x y h1 h2 h3) (by rw [im_u_j _ _ _ _ (by decide)]; exact gd) ?_ (fun k hk => by rw [im_u_k _ _ _ _ (by decide)]; exact hl k hk)
            rw [im_u_s]
            show _ = nI (tl_m (pw_ H G) (H 0 0) A t + tl_p (pw_ H G) (tl_d (H 0 0) A (H 0 0 - 1 - 2 * t)) (tl_d (H 0 0) A (H 0 0 - 2 - 2 * t)))
            unfold tl_p
            first
              | rw [if_pos h_131]
              | rw [if_neg h_131]
    exact loop2 (H 0 0) 0 ma (by omega) (by omega) hz gp gd gm hl
  have loop1 : ∀ (j i : Nat) (v5 : Int32) (ma : im_MI), i + j = H 0 0 → (i < H 0 0 → v5 = nI (H 0 0 - 1 - i)) → (i = H 0 0 → v5 = -1) → rz_ H K G m0 ma → pq_ H G ma → ma 110 32 = nI (tl_g (H 0 0) A i) → ma 110 33 = nI 0 → (∀ q, q < i → ma 130 (H 0 0 - 1 - q) = nI (tl_d (H 0 0) A q)) → Ev (d) 174 25 [.ref 110, .int (nI A), .int (nI (A / H 0 0 ^ i)), .int (nI (tl_s (H 0 0) A i)), .int (nI (10 ^ i)), .int v5] [] sh ma mr (fun r sh2 m2 r2 => sh2 = sh ∧ (r = .int (pu_b (tl_ok (H 0 0) A = true)) ∧ r2 = mr ∧ rz_ H K G m0 m2 ∧ pq_ H G m2 ∧ m2 110 32 = nI (tl_g (H 0 0) A (H 0 0)) ∧ m2 110 33 = nI (tl_m (pw_ H G) (H 0 0) A (H 0 0 / 2)))) := by
    intro j
    induction j with
    | zero =>
      intro i v5 ma hi h5a h5b hz gp gd gm hl
      have h6 : i = H 0 0 := by omega
      have h5 := h5b h6
      subst h5
      rw [h6] at gd hl
      rw [h6]
      refine ev_s (is_iload rfl rfl) ?_
      refine ev_s (is_if_lt_t rfl (by decide)) ?_
      refine ev_s (is_iconst (nI 0) rfl rfl) ?_
      refine ev_s (st_istore_5 rfl rfl) ?_
      exact second _ _ _ hz gp gd gm (fun k hk => by have := hl (H 0 0 - 1 - k) (by omega); rw [show H 0 0 - 1 - (H 0 0 - 1 - k) = k by omega] at this; exact this)
    | succ j ih =>
      intro i v5 ma hi h5a h5b hz gp gd gm hl
      have h5 := h5a (by omega)
      subst h5
      have hAd : A / H 0 0 ^ i ≤ A := Nat.div_le_self _ _
      have hdl := tl_d_lt A i h0
      refine ev_s (is_iload rfl rfl) ?_
      refine ev_s (is_if_lt_f rfl (nI_pos (by omega))) ?_
      refine ev_s (is_aload_n rfl rfl) ?_
      refine ev_s (is_getR rfl (pu_s hC 110 rfl rfl) rfl rfl (pu_r hC 110 34 rfl rfl)) ?_
      refine ev_s (is_iload rfl rfl) ?_
      refine ev_s (is_iload_n rfl rfl) ?_
      refine ev_s (is_aload_n rfl rfl) ?_
      refine ev_s (is_getI' rfl (pu_s hC 110 rfl rfl) rfl rfl hz.1.1) ?_
      refine ev_s (is_irem (nI (tl_d (H 0 0) A i)) rfl (nI_ne0 h0 (by omega)) (pk_rem (by omega) h0 (by omega))) ?_
      refine ev_s (is_iastore (H 0 0 - 1 - i) rfl (pu_s hC 130 rfl rfl) rfl rfl (by omega)) ?_
      refine ev_s (is_iload_n rfl rfl) ?_
      refine ev_s (is_aload_n rfl rfl) ?_
      refine ev_s (is_getI' rfl (pu_s hC 110 rfl rfl) rfl rfl ((im_u_k _ _ _ _ (by decide)).trans hz.1.1)) ?_
      refine ev_s (is_idiv (nI (A / H 0 0 ^ (i + 1))) rfl (nI_ne0 h0 (by omega)) (by rw [pk_div (by omega) h0 (by omega), tl_div])) ?_
      refine ev_s (st_istore_n_2 rfl rfl) ?_
      refine ev_s (is_iload_n rfl rfl) ?_
      refine ev_s (is_iconst (nI 1) rfl rfl) ?_
      refine ev_s (is_aload_n rfl rfl) ?_
      refine ev_s (is_getR rfl (pu_s hC 110 rfl rfl) rfl rfl (pu_r hC 110 34 rfl rfl)) ?_
      refine ev_s (is_iload rfl rfl) ?_
      refine ev_s (is_iaload' (H 0 0 - 1 - i) rfl (pu_s hC 130 rfl rfl) rfl rfl (by omega) (im_u_s _ _ _ _)) ?_
      refine ev_s (is_ishl _ rfl (pu_shl1 (by omega))) ?_
      refine ev_s (is_ior _ rfl (nI_or _ _)) ?_
      refine ev_s (st_istore_n_3 rfl rfl) ?_
      refine ev_s (is_aload_n rfl rfl) ?_
      refine ev_s (is_dup rfl rfl) ?_
      refine ev_s (is_getI' rfl (pu_s hC 110 rfl rfl) rfl rfl ((im_u_k _ _ _ _ (by decide)).trans gd)) ?_
      refine ev_s (is_iload rfl rfl) ?_
      refine ev_s (is_aload_n rfl rfl) ?_
      refine ev_s (is_getR rfl (pu_s hC 110 rfl rfl) rfl rfl (pu_r hC 110 34 rfl rfl)) ?_
      refine ev_s (is_iload rfl rfl) ?_
      refine ev_s (is_iaload' (H 0 0 - 1 - i) rfl (pu_s hC 130 rfl rfl) rfl rfl (by omega) (im_u_s _ _ _ _)) ?_
      refine ev_s (is_iconst (nI 1) rfl rfl) ?_
      refine ev_s (is_iadd _ rfl (nI_add _ _)) ?_
      first
        | refine ev_s (is_imul _ rfl (pk_mul _ _)) ?_
        | refine ev_s (is_imul _ rfl rfl) ?_
      refine ev_s (is_iadd _ rfl (nI_add _ _)) ?_
      refine ev_s (is_putI rfl (pu_s hC 110 rfl rfl) rfl rfl rfl) ?_
      refine ev_s (is_iload rfl rfl) ?_
      refine ev_s (is_bipush (nI 10) rfl rfl) ?_
      refine ev_s (is_imul (nI (10 ^ (i + 1))) rfl (by rw [pk_mul, Nat.pow_succ])) ?_
      refine ev_s (st_istore_4 rfl rfl) ?_
      refine ev_s (st_iinc_5 (nI (H 0 0 - 1 - i) + (-1)) rfl rfl rfl) ?_
      refine ev_s (is_goto rfl) ?_
      refine ih (i + 1) _ _ (by omega) (fun hc => ?_) (fun hc => ?_) (rz_s (rz_s hz (Or.inl (by decide))) (Or.inr ⟨rfl, by decide⟩)) (fun x y h1 h2 h3 => by rw [im_u_k _ _ _ _ (by decide), im_u_k _ _ _ _ (by decide)]; exact gp x y h1 h2 h3) (im_u_s _ _ _ _) (by rw [im_u_j _ _ _ _ (by decide), im_u_k _ _ _ _ (by decide)]; exact gm) (fun q hq => ?_)
      · rw [show H 0 0 - 1 - i = (H 0 0 - 1 - (i + 1)) + 1 by omega, pk_m1]
      · rw [show H 0 0 - 1 - i = 0 by omega]; rfl
      · rw [im_u_k _ _ _ _ (by decide)]
        by_cases c : q = i
        · rw [c, im_u_s]
        · rw [im_u_j _ _ _ _ (by omega)]; exact hl q (by omega)
  refine ev_s (is_iload_n rfl rfl) ?_
  refine ev_s (st_istore_n_2 rfl rfl) ?_
  refine ev_s (is_iconst (nI 0) rfl rfl) ?_
  refine ev_s (st_istore_n_3 rfl rfl) ?_
  refine ev_s (is_iconst (nI 1) rfl rfl) ?_
  refine ev_s (st_istore_4 rfl rfl) ?_
  refine ev_s (is_aload_n rfl rfl) ?_
  refine ev_s (is_iconst (nI 0) rfl rfl) ?_
  refine ev_s (is_putI rfl (pu_s hC 110 rfl rfl) rfl rfl rfl) ?_
  refine ev_s (is_aload_n rfl rfl) ?_
  refine ev_s (is_iconst (nI 0) rfl rfl) ?_
  refine ev_s (is_putI rfl (pu_s hC 110 rfl rfl) rfl rfl rfl) ?_
  refine ev_s (is_aload_n rfl rfl) ?_
  refine ev_s (is_getI' rfl (pu_s hC 110 rfl rfl) rfl rfl ((im_u_j _ _ _ _ (by decide)).trans ((im_u_j _ _ _ _ (by decide)).trans hz.1.1))) ?_
  refine ev_s (is_iconst (nI 1) rfl rfl) ?_
  refine ev_s (is_isub _ rfl (pk_sub (by omega))) ?_
  refine ev_s (st_istore_5 rfl rfl) ?_
  have := loop1 (H 0 0) 0 (nI (H 0 0 - 1)) (im_u (im_u mi 110 32 (nI 0)) 110 33 (nI 0)) (by omega) (fun _ => rfl) (fun q => by omega) (rz_s (rz_s hz (Or.inr ⟨rfl, by decide⟩)) (Or.inr ⟨rfl, by decide⟩)) (fun x y h1 h2 h3 => by rw [im_u_k _ _ _ _ (by decide), im_u_k _ _ _ _ (by decide)]; exact gp x y h1 h2 h3) (by rw [im_u_j _ _ _ _ (by decide), im_u_s]; rfl) (im_u_s _ _ _ _) (fun q hq => by omega)
  rw [Nat.pow_zero, Nat.pow_zero, Nat.div_one] at this
  exact this

theorem bs_le {pw : Nat → Nat → Nat} (hp : ∀ x y, pw x y ≤ 2376) {n : Nat} (h0 : 0 < n) (hn : n ≤ 6) (N : Nat) : (lo_fold (bs_f pw n) N (0, 0)).1 < 1000000 ∧ (lo_fold (bs_f pw n) N (0, 0)).2 ≤ 7128 := by
  refine lo_fold_P (P := fun q : Nat × Nat => q.1 < 1000000 ∧ q.2 ≤ 7128) N (0, 0) ⟨by decide, by decide⟩ fun a q _ hq => ?_
  unfold bs_f
  have h1 := tl_g_lt a h0 hn n
  have h2 := tl_m_le hp n a (n / 2)
  have h3 : 10 ^ n ≤ 10 ^ 6 := Nat.pow_le_pow_right (by decide) hn
  have h4 : 10 ^ 6 = 1000000 := by decide
  split
  · split
    · exact ⟨by show tl_g n a n < 1000000; omega, by show tl_m pw n a (n / 2) ≤ 7128; omega⟩
    · exact hq
  · exact hq
theorem nn_le {n : Nat} (hn : n ≤ 6) : n ^ n ≤ 46656 := by
  rcases (show n = 0 ∨ n = 1 ∨ n = 2 ∨ n = 3 ∨ n = 4 ∨ n = 5 ∨ n = 6 by omega) with rfl | rfl | rfl | rfl | rfl | rfl | rfl <;> decide
theorem nk_le {n k : Nat} (hn : n ≤ 6) (h0 : 0 < n) (hk : k ≤ n) : n ^ k ≤ 46656 := Nat.le_trans (Nat.pow_le_pow_right h0 hk) (nn_le hn)

theorem bs_f_0 {pw : Nat → Nat → Nat} {n a : Nat} {p : Nat × Nat} (h : ¬ tl_ok n a = true) : bs_f pw n a p = p := if_neg h
theorem bs_f_1 {pw : Nat → Nat → Nat} {n a : Nat} {p : Nat × Nat} (h : tl_ok n a = true) (h2 : p.1 = 0 ∨ tl_m pw n a (n / 2) < p.2) : bs_f pw n a p = (tl_g n a n, tl_m pw n a (n / 2)) := by unfold bs_f; rw [if_pos h, if_pos h2]
theorem bs_f_2 {pw : Nat → Nat → Nat} {n a : Nat} {p : Nat × Nat} (h2 : ¬ (p.1 = 0 ∨ tl_m pw n a (n / 2) < p.2)) : bs_f pw n a p = p := by
  unfold bs_f
  by_cases c : tl_ok n a = true
  · rw [if_pos c, if_neg h2]
  · rw [if_neg c]
theorem bs_keep {pw : Nat → Nat → Nat} {n : Nat} (h0 : 0 < n) : ∀ (N a : Nat), a < N → tl_ok n a = true → (lo_fold (bs_f pw n) N (0, 0)).1 ≠ 0
  | 0, a, h, _ => by omega
  | N + 1, a, h, ho => by
    have hg : ∀ b, tl_g n b n ≠ 0 := fun b => by
      rw [tl_g_T]
      obtain ⟨u, rfl⟩ : ∃ u, n = u + 1 := ⟨n - 1, by omega⟩
      exact Nat.pos_iff_ne_zero.mp (T_dg_pos _ _ _)
    show (bs_f pw n N (lo_fold (bs_f pw n) N (0, 0))).1 ≠ 0
    by_cases c : (lo_fold (bs_f pw n) N (0, 0)).1 = 0 ∨ tl_m pw n N (n / 2) < (lo_fold (bs_f pw n) N (0, 0)).2
    · by_cases c2 : tl_ok n N = true
      · rw [bs_f_1 c2 c]
        exact hg N
      · rw [bs_f_0 c2]
        rcases Nat.eq_or_lt_of_le (Nat.le_of_lt_succ h) with q | q
        · subst q; exact absurd ho c2
        · exact bs_keep h0 N a q ho
    · rw [bs_f_2 c]
      exact fun e => c (Or.inl e)
theorem tl_one : ∀ n, n < 7 → 0 < n → ∃ a, a < n ^ n ∧ tl_ok n a = true := by
  intro n hn h0
  rcases (show n = 1 ∨ n = 2 ∨ n = 3 ∨ n = 4 ∨ n = 5 ∨ n = 6 by omega) with rfl | rfl | rfl | rfl | rfl | rfl
  · exact ⟨0, by decide, by decide⟩
  · exact ⟨1, by decide, by decide⟩
  · exact ⟨5, by decide, by decide⟩
  · exact ⟨27, by decide, by decide⟩
  · exact ⟨194, by decide, by decide⟩
  · exact ⟨1865, by decide, by decide⟩
theorem bs_nz {pw : Nat → Nat → Nat} (_hp : ∀ x y, pw x y ≤ 2376) {n : Nat} (h0 : 0 < n) (hn : n ≤ 6) : (lo_fold (bs_f pw n) (n ^ n) (0, 0)).1 ≠ 0 := by
  obtain ⟨a, h1, h2⟩ := tl_one n (by omega) h0
  exact bs_keep h0 (n ^ n) a h1 h2

theorem bs_ans (H : ho_T) (G : ho_G) (w : Int32) (h0 : 0 < H 0 0) (hn : H 0 0 ≤ 6) : (if w = nI 0 then nI (bd_all H G).2 else nI (bd_all H G).1) = (if w = nI 0 then nI (lo_fold (bs_f (pw_ H G) (H 0 0)) (H 0 0 ^ H 0 0) (0, 0)).1 else nI (lo_fold (bs_f (pw_ H G) (H 0 0)) (H 0 0 ^ H 0 0) (0, 0)).2) := by
  have h := bs_all h0 hn (pw_le H G)
  unfold bd_all
  rcases h with ⟨h1, h2⟩ | ⟨h1, h2⟩
  · exfalso
    have := bs_nz (pw_le H G) h0 hn
    exact this h1
  · rw [h2]

theorem r_beds {d : Nat} {sh : im_Sh} {mi : im_MI} {mr : im_MR} (hC : pu_C sh mr) {H K : ho_T} {G : ho_G} (hz : rz_ H K G mi mi) (w : Int32) : EvM (d + 7) 175 [.ref 110, .int w] sh mi mr (fun r sh2 m2 r2 => sh2 = sh ∧ (r = .int (an_beds H G w) ∧ r2 = mr ∧ rz_ (H) (K) G mi m2)) := by
  show Ev (d + 7) 175 0 [.ref 110, .int w, im_bad, im_bad, im_bad, im_bad] [] sh mi mr _
  have hn6 := rz_n hz
  refine ev_s (is_iload_n rfl rfl) ?_
  refine ev_s (is_iconst (nI 0) rfl rfl) ?_
  refine ev_s (is_iconst (nI 1) rfl rfl) ?_
  refine ev_c1 (is_call0 3 [_, _, _] [] rfl rfl rfl rfl rfl (Nat.le_of_ble_eq_true rfl) rfl rfl rfl) rfl rfl (r_in' _ _ _) ?_
  refine ev_ifB_ne rfl (fun h_6 => ?_) (fun h_6 => ?_)
  · refine ev_s (is_iconst (nI 0) rfl rfl) ?_
    refine ev_s (st_istore_n_2 rfl rfl) ?_
    refine ev_s (is_iconst (nI 0) rfl rfl) ?_
    refine ev_s (st_istore_n_3 rfl rfl) ?_
    refine ev_s (is_aload_n rfl rfl) ?_
    refine ev_s (is_getI' rfl (pu_s hC 110 rfl rfl) rfl rfl hz.1.1) ?_
    refine ev_ifN_ne rfl (by omega) (fun h_20 => ?_) (fun h_20 => ?_)
    · have h0 : 0 < H 0 0 := by omega
      have hnn := nn_le hn6
      rw [show an_beds H G w = (if w = nI 0 then nI (lo_fold (bs_f (pw_ H G) (H 0 0)) (H 0 0 ^ H 0 0) (0, 0)).1 else nI (lo_fold (bs_f (pw_ H G) (H 0 0)) (H 0 0 ^ H 0 0) (0, 0)).2) by rw [an_beds, if_pos h_6]; exact bs_ans H G w h0 hn6]
      have loopb : ∀ (j i : Nat) (ma : im_MI), i + j = H 0 0 ^ H 0 0 → rz_ H K G mi ma → pq_ H G ma → Ev (d + 7) 175 64 [.ref 110, .int w, .int (nI (lo_fold (bs_f (pw_ H G) (H 0 0)) i (0, 0)).1), .int (nI (lo_fold (bs_f (pw_ H G) (H 0 0)) i (0, 0)).2), .int (nI (H 0 0 ^ H 0 0)), .int (nI i)] [] sh ma mr (fun r sh2 m2 r2 => sh2 = sh ∧ (r = .int (if w = nI 0 then nI (lo_fold (bs_f (pw_ H G) (H 0 0)) (H 0 0 ^ H 0 0) (0, 0)).1 else nI (lo_fold (bs_f (pw_ H G) (H 0 0)) (H 0 0 ^ H 0 0) (0, 0)).2) ∧ r2 = mr ∧ rz_ (H) (K) G mi m2)) := by
        intro j
        induction j with
        | zero =>
          intro i ma hi hz gp
          have hbs := bs_le (pw_le H G) h0 hn6 i
          refine ev_s (is_iload rfl rfl) ?_
          refine ev_s (is_iload rfl rfl) ?_
          refine ev_s (is_icmp_ge_t rfl (nI_le (by omega) (by omega))) ?_
          refine ev_s (is_iload_n rfl rfl) ?_
          refine ev_if_ne rfl (fun h_109 => ?_) (fun h_109 => ?_)
          · refine ev_s (is_iload_n rfl rfl) ?_
            refine ev_ret (is_ireturn rfl rfl (by first | rfl | exact pu_b_nar | decide)) ?_
            have h6 : i = H 0 0 ^ H 0 0 := by omega
            rw [h6]
            first
              | (have e : w = nI 0 := Decidable.of_not_not h_109
                 exact ⟨rfl, by rw [if_pos e], rfl, hz⟩)
              | (have e : ¬ w = nI 0 := h_109
                 exact ⟨rfl, by rw [if_neg e], rfl, hz⟩)
          · refine ev_s (is_iload_n rfl rfl) ?_
            refine ev_s (is_goto rfl) ?_
            refine ev_ret (is_ireturn rfl rfl (by first | rfl | exact pu_b_nar | decide)) ?_
            have h6 : i = H 0 0 ^ H 0 0 := by omega
            rw [h6]
            first
              | (have e : w = nI 0 := Decidable.of_not_not h_109
                 exact ⟨rfl, by rw [if_pos e], rfl, hz⟩)
              | (have e : ¬ w = nI 0 := h_109
                 exact ⟨rfl, by rw [if_neg e], rfl, hz⟩)
        | succ j ih =>
          intro i ma hi hz gp
          have hbs := bs_le (pw_le H G) h0 hn6 i
          refine ev_s (is_iload rfl rfl) ?_
          refine ev_s (is_iload rfl rfl) ?_
          refine ev_s (is_icmp_ge_f rfl (nI_ge (by omega) (by omega))) ?_
          refine ev_s (is_aload_n rfl rfl) ?_
          refine ev_s (is_iload rfl rfl) ?_
          refine ev_q1 (is_callR 2 [_] [] rfl rfl rfl rfl rfl (Nat.le_of_ble_eq_true rfl) rfl rfl rfl (pu_s hC 110 rfl rfl)) rfl rfl (r_tells hC hz gp (A := i) (by omega) h0) (fun r_74 mi mr hq_74 => ?_)
          obtain ⟨rfl, hmr, hz, gp, gd, gm⟩ := hq_74
          have hmr := hmr.symm
          subst hmr
          have hgl := tl_g_lt i h0 hn6 (H 0 0)
          have hml := tl_m_le (pw_le H G) (H 0 0) i (H 0 0 / 2)
          have h3 : 10 ^ (H 0 0) ≤ 10 ^ 6 := Nat.pow_le_pow_right (by decide) hn6
          have h4 : 10 ^ 6 = 1000000 := by decide
          refine ev_ifB_eq rfl (fun h_77 => ?_) (fun h_77 => ?_)
          · refine ev_s (st_iinc_5 _ rfl rfl (nI_inc _)) ?_
            refine ev_s (is_goto rfl) ?_
            first
              | (have hf : (lo_fold (bs_f (pw_ H G) (H 0 0)) (i + 1) (0, 0)) = (lo_fold (bs_f (pw_ H G) (H 0 0)) i (0, 0)) := by show bs_f (pw_ H G) (H 0 0) i (lo_fold (bs_f (pw_ H G) (H 0 0)) i (0, 0)) = _; exact bs_f_0 h_77
                 have := ih (i + 1) _ (by omega) hz gp
                 rw [hf] at this
                 exact this)
              | (have hf : (lo_fold (bs_f (pw_ H G) (H 0 0)) (i + 1) (0, 0)) = (tl_g (H 0 0) i (H 0 0), tl_m (pw_ H G) (H 0 0) i (H 0 0 / 2)) := by show bs_f (pw_ H G) (H 0 0) i (lo_fold (bs_f (pw_ H G) (H 0 0)) i (0, 0)) = _; exact bs_f_1 h_77 (by omega)
                 have := ih (i + 1) _ (by omega) hz gp
                 rw [hf] at this
                 exact this)
              | (have hf : (lo_fold (bs_f (pw_ H G) (H 0 0)) (i + 1) (0, 0)) = (lo_fold (bs_f (pw_ H G) (H 0 0)) i (0, 0)) := by show bs_f (pw_ H G) (H 0 0) i (lo_fold (bs_f (pw_ H G) (H 0 0)) i (0, 0)) = _; exact bs_f_2 (by omega)
                 have := ih (i + 1) _ (by omega) hz gp
                 rw [hf] at this
                 exact this)
          · refine ev_s (is_iload_n rfl rfl) ?_
            refine ev_ifN_eq rfl (by omega) (fun h_81 => ?_) (fun h_81 => ?_)
            · refine ev_s (is_aload_n rfl rfl) ?_
              refine ev_s (is_getI' rfl (pu_s hC 110 rfl rfl) rfl rfl gd) ?_
              refine ev_s (st_istore_n_2 rfl rfl) ?_
              refine ev_s (is_aload_n rfl rfl) ?_
              refine ev_s (is_getI' rfl (pu_s hC 110 rfl rfl) rfl rfl gm) ?_
              refine ev_s (st_istore_n_3 rfl rfl) ?_
              refine ev_s (st_iinc_5 _ rfl rfl (nI_inc _)) ?_
              refine ev_s (is_goto rfl) ?_
              first
                | (have hf : (lo_fold (bs_f (pw_ H G) (H 0 0)) (i + 1) (0, 0)) = (lo_fold (bs_f (pw_ H G) (H 0 0)) i (0, 0)) := by show bs_f (pw_ H G) (H 0 0) i (lo_fold (bs_f (pw_ H G) (H 0 0)) i (0, 0)) = _; exact bs_f_0 h_77
                   have := ih (i + 1) _ (by omega) hz gp
                   rw [hf] at this
                   exact this)
                | (have hf : (lo_fold (bs_f (pw_ H G) (H 0 0)) (i + 1) (0, 0)) = (tl_g (H 0 0) i (H 0 0), tl_m (pw_ H G) (H 0 0) i (H 0 0 / 2)) := by show bs_f (pw_ H G) (H 0 0) i (lo_fold (bs_f (pw_ H G) (H 0 0)) i (0, 0)) = _; exact bs_f_1 h_77 (by omega)
                   have := ih (i + 1) _ (by omega) hz gp
                   rw [hf] at this
                   exact this)
                | (have hf : (lo_fold (bs_f (pw_ H G) (H 0 0)) (i + 1) (0, 0)) = (lo_fold (bs_f (pw_ H G) (H 0 0)) i (0, 0)) := by show bs_f (pw_ H G) (H 0 0) i (lo_fold (bs_f (pw_ H G) (H 0 0)) i (0, 0)) = _; exact bs_f_2 (by omega)
                   have := ih (i + 1) _ (by omega) hz gp
                   rw [hf] at this
                   exact this)
            · refine ev_s (is_aload_n rfl rfl) ?_
              refine ev_s (is_getI' rfl (pu_s hC 110 rfl rfl) rfl rfl gm) ?_
              refine ev_s (is_iload_n rfl rfl) ?_
              refine ev_icmpN_ge rfl (by omega) (by omega) (fun h_89 => ?_) (fun h_89 => ?_)
              · refine ev_s (st_iinc_5 _ rfl rfl (nI_inc _)) ?_
                refine ev_s (is_goto rfl) ?_
                first
                  | (have hf : (lo_fold (bs_f (pw_ H G) (H 0 0)) (i + 1) (0, 0)) = (lo_fold (bs_f (pw_ H G) (H 0 0)) i (0, 0)) := by show bs_f (pw_ H G) (H 0 0) i (lo_fold (bs_f (pw_ H G) (H 0 0)) i (0, 0)) = _; exact bs_f_0 h_77
                     have := ih (i + 1) _ (by omega) hz gp
                     rw [hf] at this
                     exact this)
                  | (have hf : (lo_fold (bs_f (pw_ H G) (H 0 0)) (i + 1) (0, 0)) = (tl_g (H 0 0) i (H 0 0), tl_m (pw_ H G) (H 0 0) i (H 0 0 / 2)) := by show bs_f (pw_ H G) (H 0 0) i (lo_fold (bs_f (pw_ H G) (H 0 0)) i (0, 0)) = _; exact bs_f_1 h_77 (by omega)
                     have := ih (i + 1) _ (by omega) hz gp
                     rw [hf] at this
                     exact this)
                  | (have hf : (lo_fold (bs_f (pw_ H G) (H 0 0)) (i + 1) (0, 0)) = (lo_fold (bs_f (pw_ H G) (H 0 0)) i (0, 0)) := by show bs_f (pw_ H G) (H 0 0) i (lo_fold (bs_f (pw_ H G) (H 0 0)) i (0, 0)) = _; exact bs_f_2 (by omega)
                     have := ih (i + 1) _ (by omega) hz gp
                     rw [hf] at this
                     exact this)
              · refine ev_s (is_aload_n rfl rfl) ?_
                refine ev_s (is_getI' rfl (pu_s hC 110 rfl rfl) rfl rfl gd) ?_
                refine ev_s (st_istore_n_2 rfl rfl) ?_
                refine ev_s (is_aload_n rfl rfl) ?_
                refine ev_s (is_getI' rfl (pu_s hC 110 rfl rfl) rfl rfl gm) ?_
                refine ev_s (st_istore_n_3 rfl rfl) ?_
                refine ev_s (st_iinc_5 _ rfl rfl (nI_inc _)) ?_
                refine ev_s (is_goto rfl) ?_
                first
                  | (have hf : (lo_fold (bs_f (pw_ H G) (H 0 0)) (i + 1) (0, 0)) = (lo_fold (bs_f (pw_ H G) (H 0 0)) i (0, 0)) := by show bs_f (pw_ H G) (H 0 0) i (lo_fold (bs_f (pw_ H G) (H 0 0)) i (0, 0)) = _; exact bs_f_0 h_77
                     have := ih (i + 1) _ (by omega) hz gp
                     rw [hf] at this
                     exact this)
                  | (have hf : (lo_fold (bs_f (pw_ H G) (H 0 0)) (i + 1) (0, 0)) = (tl_g (H 0 0) i (H 0 0), tl_m (pw_ H G) (H 0 0) i (H 0 0 / 2)) := by show bs_f (pw_ H G) (H 0 0) i (lo_fold (bs_f (pw_ H G) (H 0 0)) i (0, 0)) = _; exact bs_f_1 h_77 (by omega)
                     have := ih (i + 1) _ (by omega) hz gp
                     rw [hf] at this
                     exact this)
                  | (have hf : (lo_fold (bs_f (pw_ H G) (H 0 0)) (i + 1) (0, 0)) = (lo_fold (bs_f (pw_ H G) (H 0 0)) i (0, 0)) := by show bs_f (pw_ H G) (H 0 0) i (lo_fold (bs_f (pw_ H G) (H 0 0)) i (0, 0)) = _; exact bs_f_2 (by omega)
                     have := ih (i + 1) _ (by omega) hz gp
                     rw [hf] at this
                     exact this)
      have loopn : ∀ (j i : Nat), i + j = H 0 0 → Ev (d + 7) 175 33 [.ref 110, .int w, .int (nI 0), .int (nI 0), .int (nI (H 0 0 ^ i)), .int (nI i)] [] sh mi mr (fun r sh2 m2 r2 => sh2 = sh ∧ (r = .int (if w = nI 0 then nI (lo_fold (bs_f (pw_ H G) (H 0 0)) (H 0 0 ^ H 0 0) (0, 0)).1 else nI (lo_fold (bs_f (pw_ H G) (H 0 0)) (H 0 0 ^ H 0 0) (0, 0)).2) ∧ r2 = mr ∧ rz_ (H) (K) G mi m2)) := by
        intro j
        induction j with
        | zero =>
          intro i  hi 
          refine ev_s (is_iload rfl rfl) ?_
          refine ev_s (is_aload_n rfl rfl) ?_
          refine ev_s (is_getI' rfl (pu_s hC 110 rfl rfl) rfl rfl hz.1.1) ?_
          refine ev_s (is_icmp_ge_t rfl (nI_le (by omega) (by omega))) ?_
          refine ev_s (is_aload_n rfl rfl) ?_
          refine ev_q0 (is_callR 1 [] [] rfl rfl rfl rfl rfl (Nat.le_of_ble_eq_true rfl) rfl rfl rfl (pu_s hC 110 rfl rfl)) rfl rfl (r_tellsP hC hz) (fun r_58 mi mr hq_58 => ?_)
          obtain ⟨hmr, hz, gp⟩ := hq_58
          have hmr := hmr.symm
          subst hmr
          refine ev_s (is_iconst (nI 0) rfl rfl) ?_
          refine ev_s (st_istore_5 rfl rfl) ?_
          have h6 : i = H 0 0 := by omega
          rw [h6]
          exact loopb (H 0 0 ^ H 0 0) 0 _ (by omega) hz gp
        | succ j ih =>
          intro i  hi 
          refine ev_s (is_iload rfl rfl) ?_
          refine ev_s (is_aload_n rfl rfl) ?_
          refine ev_s (is_getI' rfl (pu_s hC 110 rfl rfl) rfl rfl hz.1.1) ?_
          refine ev_s (is_icmp_ge_f rfl (nI_ge (by omega) (by omega))) ?_
          refine ev_s (is_iload rfl rfl) ?_
          refine ev_s (is_aload_n rfl rfl) ?_
          refine ev_s (is_getI' rfl (pu_s hC 110 rfl rfl) rfl rfl hz.1.1) ?_
          refine ev_s (is_imul (nI (H 0 0 ^ (i + 1))) rfl (by rw [pk_mul, Nat.pow_succ])) ?_
          refine ev_s (st_istore_4 rfl rfl) ?_
          refine ev_s (st_iinc_5 _ rfl rfl (nI_inc _)) ?_
          refine ev_s (is_goto rfl) ?_
          exact ih (i + 1) (by omega)
      refine ev_s (is_iconst (nI 1) rfl rfl) ?_
      refine ev_s (st_istore_4 rfl rfl) ?_
      refine ev_s (is_iconst (nI 0) rfl rfl) ?_
      refine ev_s (st_istore_5 rfl rfl) ?_
      exact loopn (H 0 0) 0 (by omega)
    · rw [show an_beds H G w = (if w = nI 0 then nI 0 else nI 0) by rw [an_beds, if_pos h_6]; unfold bd_all; rw [h_20]; rfl]
      refine ev_s (is_iconst (nI 0) rfl rfl) ?_
      refine ev_s (is_goto rfl) ?_
      refine ev_s (st_istore_4 rfl rfl) ?_
      refine ev_s (is_iconst (nI 0) rfl rfl) ?_
      refine ev_s (st_istore_5 rfl rfl) ?_
      refine ev_s (is_iload rfl rfl) ?_
      refine ev_s (is_aload_n rfl rfl) ?_
      refine ev_s (is_getI' rfl (pu_s hC 110 rfl rfl) rfl rfl (hz.1.1.trans (by rw [h_20]))) ?_
      refine ev_s (is_icmp_ge_t rfl (by decide)) ?_
      refine ev_s (is_aload_n rfl rfl) ?_
      refine ev_q0 (is_callR 1 [] [] rfl rfl rfl rfl rfl (Nat.le_of_ble_eq_true rfl) rfl rfl rfl (pu_s hC 110 rfl rfl)) rfl rfl (r_tellsP hC hz) (fun r_58 mi mr hq_58 => ?_)
      obtain ⟨hmr, hz, gp⟩ := hq_58
      have hmr := hmr.symm
      subst hmr
      refine ev_s (is_iconst (nI 0) rfl rfl) ?_
      refine ev_s (st_istore_5 rfl rfl) ?_
      refine ev_s (is_iload rfl rfl) ?_
      refine ev_s (is_iload rfl rfl) ?_
      refine ev_s (is_icmp_ge_t rfl (by decide)) ?_
      refine ev_s (is_iload_n rfl rfl) ?_
      refine ev_if_ne rfl (fun h_109 => ?_) (fun h_109 => ?_)
      · refine ev_s (is_iload_n rfl rfl) ?_
        refine ev_ret (is_ireturn rfl rfl (by first | rfl | exact pu_b_nar | decide)) ?_
        first
          | (have e : w = nI 0 := Decidable.of_not_not h_109
             exact ⟨rfl, by rw [if_pos e], rfl, hz⟩)
          | (have e : ¬ w = nI 0 := h_109
             exact ⟨rfl, by rw [if_neg e], rfl, hz⟩)
      · refine ev_s (is_iload_n rfl rfl) ?_
        refine ev_s (is_goto rfl) ?_
        refine ev_ret (is_ireturn rfl rfl (by first | rfl | exact pu_b_nar | decide)) ?_
        first
          | (have e : w = nI 0 := Decidable.of_not_not h_109
             exact ⟨rfl, by rw [if_pos e], rfl, hz⟩)
          | (have e : ¬ w = nI 0 := h_109
             exact ⟨rfl, by rw [if_neg e], rfl, hz⟩)
  · refine ev_s (is_bipush ((-2)) rfl rfl) ?_
    refine ev_ret (is_ireturn rfl rfl (by first | rfl | exact pu_b_nar | decide)) ?_
    rw [show an_beds H G w = -2 from if_neg h_6]
    exact ⟨rfl, rfl, rfl, hz⟩
