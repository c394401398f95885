/-! ===== PURE, the reference: beds ===== -/

theorem r_tellsP {d : Nat} {sh : im_Sh} {mi : im_MI} {mr : im_MR} (hC : pu_C sh mr) {H K : ho_T} {G : ho_G} {m0 : im_MI} (hz : rz_ H K G m0 mi) : EvM (d + 6) 173 [.ref 110] sh mi mr (fun r sh2 m2 r2 => sh2 = sh ∧ (r2 = mr ∧ rz_ H K G m0 m2 ∧ pq_ H G m2)) := by
  show Ev (d + 6) 173 0 [.ref 110, im_bad, im_bad, im_bad] [] sh mi mr _
  have hn6 := rz_n hz
  have hpb := (rz_bd hz).2.2.2.2.2.2.2.2.2
  have loop1 : ∀ (j i : Nat) (ma : im_MI), i + j = H 0 0 → rz_ H K G m0 ma → (∀ q, q < i → ma 129 q = nI (H (10 + q) 13)) → (∀ (w1 : Value) (ma : im_MI), rz_ H K G m0 ma → (∀ q, q < H 0 0 → ma 129 q = nI (H (10 + q) 13)) → Ev (d + 6) 173 34 [.ref 110, w1, im_bad, im_bad] [] sh ma mr (fun r sh2 m2 r2 => sh2 = sh ∧ (r2 = mr ∧ rz_ H K G m0 m2 ∧ pq_ H G m2))) → Ev (d + 6) 173 2 [.ref 110, .int (nI i), im_bad, im_bad] [] sh ma mr (fun r sh2 m2 r2 => sh2 = sh ∧ (r2 = mr ∧ rz_ H K G m0 m2 ∧ pq_ H G m2)) := by
    intro j
    induction j with
    | zero =>
      intro i ma hi hz g hk
      refine ev_s (is_iload_n rfl rfl) ?_
      refine ev_s (is_aload_n rfl rfl) ?_
      refine ev_s (is_getI' rfl (pu_s hC 110 rfl rfl) rfl rfl hz.1.1) ?_
      refine ev_s (is_icmp_ge_t rfl (nI_le (by omega) (by omega))) ?_
      exact hk _ _ hz (fun q hq => g q (by omega))
    | succ j ih =>
      intro i ma hi hz g hk
      refine ev_s (is_iload_n rfl rfl) ?_
      refine ev_s (is_aload_n rfl rfl) ?_
      refine ev_s (is_getI' rfl (pu_s hC 110 rfl rfl) rfl rfl hz.1.1) ?_
      refine ev_s (is_icmp_ge_f rfl (nI_ge (by omega) (by omega))) ?_
      refine ev_s (is_aload_n rfl rfl) ?_
      refine ev_s (is_getR rfl (pu_s hC 110 rfl rfl) rfl rfl (pu_r hC 110 31 rfl rfl)) ?_
      refine ev_s (is_iload_n rfl rfl) ?_
      refine ev_s (is_aload_n rfl rfl) ?_
      refine ev_s (is_getR rfl (pu_s hC 110 rfl rfl) rfl rfl (pu_r hC 110 3 rfl rfl)) ?_
      refine ev_s (is_bipush (nI 14) rfl rfl) ?_
      refine ev_s (is_iload_n rfl rfl) ?_
      first
        | refine ev_s (is_imul _ rfl (pk_mul _ _)) ?_
        | refine ev_s (is_imul _ rfl rfl) ?_
      refine ev_s (is_bipush (nI 13) rfl rfl) ?_
      first
        | refine ev_s (is_iadd _ rfl (nI_add _ _)) ?_
        | refine ev_s (is_iadd _ rfl rfl) ?_
      refine ev_s (is_iaload' (14 * i + 13) rfl (pu_s hC 113 rfl rfl) rfl rfl (by omega) (rz_at hz (by omega) (by decide))) ?_
      refine ev_s (is_iastore (i) rfl (pu_s hC 129 rfl rfl) rfl rfl (by omega)) ?_
      refine ev_s (st_iinc_1 _ rfl rfl (nI_inc _)) ?_
      refine ev_s (is_goto rfl) ?_
      refine ih (i + 1) _ (by omega) (rz_s hz (Or.inl (by decide))) (fun q hq => ?_) hk
      by_cases c : q = i
      · rw [c, im_u_s]
      · rw [im_u_j _ _ _ _ c]; exact g q (by omega)
  have inner : ∀ (a b : Nat), a < H 0 0 → b < H 0 0 → a ≠ b → ∀ (f : Nat → Nat) (ma : im_MI), rz_ (pl_ H f) K G m0 ma → (∀ q, q < H 0 0 → ma 129 q = nI (H (10 + q) 13)) → (∀ x y, x < H 0 0 → y < H 0 0 → x ≠ y → (x < a ∨ (x = a ∧ y < b)) → ma 128 (6 * x + y) = nI (pw_ H G x y)) → (∀ (ma : im_MI), rz_ (pl_ H (tg_ a b)) K G m0 ma → (∀ q, q < H 0 0 → ma 129 q = nI (H (10 + q) 13)) → (∀ x y, x < H 0 0 → y < H 0 0 → x ≠ y → (x < a ∨ (x = a ∧ y < b)) → ma 128 (6 * x + y) = nI (pw_ H G x y)) → Ev (d + 6) 173 111 [.ref 110, .int (nI a), .int (nI b), .int (nI (H 0 0))] [] sh ma mr (fun r sh2 m2 r2 => sh2 = sh ∧ (r2 = mr ∧ rz_ H K G m0 m2 ∧ pq_ H G m2))) → Ev (d + 6) 173 61 [.ref 110, .int (nI a), .int (nI b), .int (nI 0)] [] sh ma mr (fun r sh2 m2 r2 => sh2 = sh ∧ (r2 = mr ∧ rz_ H K G m0 m2 ∧ pq_ H G m2)) := by
    intro a b ha hb hab f ma hz g gp hk
    have loopp : ∀ (j i : Nat) (f : Nat → Nat) (ma : im_MI), i + j = H 0 0 → rz_ (pl_ H f) K G m0 ma → (∀ q, q < i → f q = tg_ a b q) → (∀ q, q < H 0 0 → ma 129 q = nI (H (10 + q) 13)) → (∀ x y, x < H 0 0 → y < H 0 0 → x ≠ y → (x < a ∨ (x = a ∧ y < b)) → ma 128 (6 * x + y) = nI (pw_ H G x y)) → (∀ (ma : im_MI), rz_ (pl_ H (tg_ a b)) K G m0 ma → (∀ q, q < H 0 0 → ma 129 q = nI (H (10 + q) 13)) → (∀ x y, x < H 0 0 → y < H 0 0 → x ≠ y → (x < a ∨ (x = a ∧ y < b)) → ma 128 (6 * x + y) = nI (pw_ H G x y)) → Ev (d + 6) 173 111 [.ref 110, .int (nI a), .int (nI b), .int (nI (H 0 0))] [] sh ma mr (fun r sh2 m2 r2 => sh2 = sh ∧ (r2 = mr ∧ rz_ H K G m0 m2 ∧ pq_ H G m2))) → Ev (d + 6) 173 61 [.ref 110, .int (nI a), .int (nI b), .int (nI i)] [] sh ma mr (fun r sh2 m2 r2 => sh2 = sh ∧ (r2 = mr ∧ rz_ H K G m0 m2 ∧ pq_ H G m2)) := by
      intro j
      induction j with
      | zero =>
        intro i f ma hi hz hf g gp hk
        have h6 : i = H 0 0 := by omega
        subst h6
        refine ev_s (is_iload_n rfl rfl) ?_
        refine ev_s (is_aload_n rfl rfl) ?_
        refine ev_s (is_getI' rfl (pu_s hC 110 rfl rfl) rfl rfl (hz.1.1.trans (by rw [pl_lo _ _ (by decide)]))) ?_
        refine ev_s (is_icmp_ge_t rfl (nI_le (by omega) (by omega))) ?_
        have e : pl_ H f = pl_ H (tg_ a b) := pl_eq (fun q hq => hf q (by omega))
        rw [e] at hz
        exact hk _ hz g gp
      | succ j ih =>
        intro i f ma hi hz hf g gp hk
        refine ev_s (is_iload_n rfl rfl) ?_
        refine ev_s (is_aload_n rfl rfl) ?_
        refine ev_s (is_getI' rfl (pu_s hC 110 rfl rfl) rfl rfl (hz.1.1.trans (by rw [pl_lo _ _ (by decide)]))) ?_
        refine ev_s (is_icmp_ge_f rfl (nI_ge (by omega) (by omega))) ?_
        refine ev_s (is_aload_n rfl rfl) ?_
        refine ev_s (is_getR rfl (pu_s hC 110 rfl rfl) rfl rfl (pu_r hC 110 3 rfl rfl)) ?_
        refine ev_s (is_bipush (nI 14) rfl rfl) ?_
        refine ev_s (is_iload_n rfl rfl) ?_
        first
          | refine ev_s (is_imul _ rfl (pk_mul _ _)) ?_
          | refine ev_s (is_imul _ rfl rfl) ?_
        refine ev_s (is_bipush (nI 13) rfl rfl) ?_
        first
          | refine ev_s (is_iadd _ rfl (nI_add _ _)) ?_
          | refine ev_s (is_iadd _ rfl rfl) ?_
        refine ev_s (is_iload_n rfl rfl) ?_
        refine ev_s (is_iload_n rfl rfl) ?_
        refine ev_icmpN_ne rfl (by omega) (by omega) (fun h_82 => ?_) (fun h_82 => ?_)
        · refine ev_s (is_iload_n rfl rfl) ?_
          refine ev_s (is_iload_n rfl rfl) ?_
          refine ev_icmpN_ne rfl (by omega) (by omega) (fun h_91 => ?_) (fun h_91 => ?_)
          · refine ev_s (is_bipush (nI 100) rfl rfl) ?_
            refine ev_s (is_iconst (nI 2) rfl rfl) ?_
            refine ev_s (is_iload_n rfl rfl) ?_
            first
              | refine ev_s (is_imul _ rfl (pk_mul _ _)) ?_
              | refine ev_s (is_imul _ rfl rfl) ?_
            first
              | refine ev_s (is_iadd _ rfl (nI_add _ _)) ?_
              | refine ev_s (is_iadd _ rfl rfl) ?_
            refine ev_s (is_iastore (14 * i + 13) rfl (pu_s hC 113 rfl rfl) rfl rfl (by omega)) ?_
            refine ev_s (st_iinc_3 _ rfl rfl (nI_inc _)) ?_
            refine ev_s (is_goto rfl) ?_
            first
              | (exfalso; omega)
              | (have hv : tg_ a b i = 100 + 2 * i := by unfold tg_; first | rw [if_pos (by omega)] | rw [if_neg (by omega), if_pos (by omega)] | rw [if_neg (by omega), if_neg (by omega)]
                 have hz := rz_row hz (m := i) (w := 13) (v := tg_ a b i) (by omega) (by decide) (ho_bd_put (rz_bd hz) (Or.inr (Or.inr ⟨rfl, tg_lt (by omega)⟩)))
                 rw [hv, pl_set H f (by omega)] at hz
                 refine ih (i + 1) (fun q => if q = i then 100 + 2 * i else f q) _ (by omega) hz (fun q hq => ?_) (fun q hq => by rw [im_u_k _ _ _ _ (by decide)]; exact g q hq) (fun x y h1 h2 h3 h4 => by rw [im_u_k _ _ _ _ (by decide)]; exact gp x y h1 h2 h3 h4) hk
                 show (if q = i then 100 + 2 * i else f q) = tg_ a b q
                 by_cases c : q = i
                 · rw [if_pos c, c, hv]
                 · rw [if_neg c]; exact hf q (by omega))
          · refine ev_s (is_iconst (nI 1) rfl rfl) ?_
            refine ev_s (is_goto rfl) ?_
            refine ev_s (is_iastore (14 * i + 13) rfl (pu_s hC 113 rfl rfl) rfl rfl (by omega)) ?_
            refine ev_s (st_iinc_3 _ rfl rfl (nI_inc _)) ?_
            refine ev_s (is_goto rfl) ?_
            first
              | (exfalso; omega)
              | (have hv : tg_ a b i = 1 := by unfold tg_; first | rw [if_pos (by omega)] | rw [if_neg (by omega), if_pos (by omega)] | rw [if_neg (by omega), if_neg (by omega)]
                 have hz := rz_row hz (m := i) (w := 13) (v := tg_ a b i) (by omega) (by decide) (ho_bd_put (rz_bd hz) (Or.inr (Or.inr ⟨rfl, tg_lt (by omega)⟩)))
                 rw [hv, pl_set H f (by omega)] at hz
                 refine ih (i + 1) (fun q => if q = i then 1 else f q) _ (by omega) hz (fun q hq => ?_) (fun q hq => by rw [im_u_k _ _ _ _ (by decide)]; exact g q hq) (fun x y h1 h2 h3 h4 => by rw [im_u_k _ _ _ _ (by decide)]; exact gp x y h1 h2 h3 h4) hk
                 show (if q = i then 1 else f q) = tg_ a b q
                 by_cases c : q = i
                 · rw [if_pos c, c, hv]
                 · rw [if_neg c]; exact hf q (by omega))
        · refine ev_s (is_iconst (nI 0) rfl rfl) ?_
          refine ev_s (is_goto rfl) ?_
          refine ev_s (is_iastore (14 * i + 13) rfl (pu_s hC 113 rfl rfl) rfl rfl (by omega)) ?_
          refine ev_s (st_iinc_3 _ rfl rfl (nI_inc _)) ?_
          refine ev_s (is_goto rfl) ?_
          first
            | (exfalso; omega)
            | (have hv : tg_ a b i = 0 := by unfold tg_; first | rw [if_pos (by omega)] | rw [if_neg (by omega), if_pos (by omega)] | rw [if_neg (by omega), if_neg (by omega)]
               have hz := rz_row hz (m := i) (w := 13) (v := tg_ a b i) (by omega) (by decide) (ho_bd_put (rz_bd hz) (Or.inr (Or.inr ⟨rfl, tg_lt (by omega)⟩)))
               rw [hv, pl_set H f (by omega)] at hz
               refine ih (i + 1) (fun q => if q = i then 0 else f q) _ (by omega) hz (fun q hq => ?_) (fun q hq => by rw [im_u_k _ _ _ _ (by decide)]; exact g q hq) (fun x y h1 h2 h3 h4 => by rw [im_u_k _ _ _ _ (by decide)]; exact gp x y h1 h2 h3 h4) hk
               show (if q = i then 0 else f q) = tg_ a b q
               by_cases c : q = i
               · rw [if_pos c, c, hv]
               · rw [if_neg c]; exact hf q (by omega))
    exact loopp (H 0 0) 0 f ma (by omega) hz (fun q hq => by omega) g gp hk
  have loopb : ∀ (a : Nat), a < H 0 0 → ∀ (j b : Nat) (w3 : Value) (f : Nat → Nat) (ma : im_MI), b + j = H 0 0 → rz_ (pl_ H f) K G m0 ma → (∀ q, q < H 0 0 → ma 129 q = nI (H (10 + q) 13)) → (∀ x y, x < H 0 0 → y < H 0 0 → x ≠ y → (x < a ∨ (x = a ∧ y < b)) → ma 128 (6 * x + y) = nI (pw_ H G x y)) → (∀ (w3 : Value) (f : Nat → Nat) (ma : im_MI), rz_ (pl_ H f) K G m0 ma → (∀ q, q < H 0 0 → ma 129 q = nI (H (10 + q) 13)) → (∀ x y, x < H 0 0 → y < H 0 0 → x ≠ y → (x < a ∨ (x = a ∧ y < (H 0 0))) → ma 128 (6 * x + y) = nI (pw_ H G x y)) → Ev (d + 6) 173 139 [.ref 110, .int (nI a), .int (nI (H 0 0)), w3] [] sh ma mr (fun r sh2 m2 r2 => sh2 = sh ∧ (r2 = mr ∧ rz_ H K G m0 m2 ∧ pq_ H G m2))) → Ev (d + 6) 173 46 [.ref 110, .int (nI a), .int (nI b), w3] [] sh ma mr (fun r sh2 m2 r2 => sh2 = sh ∧ (r2 = mr ∧ rz_ H K G m0 m2 ∧ pq_ H G m2)) := by
    intro a ha j
    induction j with
    | zero =>
      intro b w3 f ma hi hz g gp hk
      refine ev_s (is_iload_n rfl rfl) ?_
      refine ev_s (is_aload_n rfl rfl) ?_
      refine ev_s (is_getI' rfl (pu_s hC 110 rfl rfl) rfl rfl (hz.1.1.trans (by rw [pl_lo _ _ (by decide)]))) ?_
      refine ev_s (is_icmp_ge_t rfl (nI_le (by omega) (by omega))) ?_
      have h6 : b = H 0 0 := by omega
      subst h6
      exact hk _ _ _ hz g gp
    | succ j ih =>
      intro b w3 f ma hi hz g gp hk
      refine ev_s (is_iload_n rfl rfl) ?_
      refine ev_s (is_aload_n rfl rfl) ?_
      refine ev_s (is_getI' rfl (pu_s hC 110 rfl rfl) rfl rfl (hz.1.1.trans (by rw [pl_lo _ _ (by decide)]))) ?_
      refine ev_s (is_icmp_ge_f rfl (nI_ge (by omega) (by omega))) ?_
      refine ev_s (is_iload_n rfl rfl) ?_
      refine ev_s (is_iload_n rfl rfl) ?_
      refine ev_icmpN_eq rfl (by omega) (by omega) (fun h_56 => ?_) (fun h_56 => ?_)
      · refine ev_s (st_iinc_2 _ rfl rfl (nI_inc _)) ?_
        refine ev_s (is_goto rfl) ?_
        exact ih (b + 1) _ f _ (by omega) hz g (fun x y h1 h2 h3 h4 => gp x y h1 h2 h3 (by omega)) hk
      · refine ev_s (is_iconst (nI 0) rfl rfl) ?_
        refine ev_s (st_istore_n_3 rfl rfl) ?_
        have hab : a ≠ b := h_56
        refine inner a b ha (by omega) hab f _ hz g gp (fun ma hz g gp => ?_)
        refine ev_s (is_aload_n rfl rfl) ?_
        refine ev_s (is_getR rfl (pu_s hC 110 rfl rfl) rfl rfl (pu_r hC 110 30 rfl rfl)) ?_
        refine ev_s (is_bipush (nI 6) rfl rfl) ?_
        refine ev_s (is_iload_n rfl rfl) ?_
        first
          | refine ev_s (is_imul _ rfl (pk_mul _ _)) ?_
          | refine ev_s (is_imul _ rfl rfl) ?_
        refine ev_s (is_iload_n rfl rfl) ?_
        first
          | refine ev_s (is_iadd _ rfl (nI_add _ _)) ?_
          | refine ev_s (is_iadd _ rfl rfl) ?_
        refine ev_s (is_aload_n rfl rfl) ?_
        refine ev_s (is_iload_n rfl rfl) ?_
        refine ev_q1 (is_callR 2 [_] [_, _] rfl rfl rfl rfl rfl (Nat.le_of_ble_eq_true rfl) rfl rfl rfl (pu_s hC 110 rfl rfl)) rfl rfl (r_dayOf hC hz.1 (m := a) (by omega)) (fun r_123 mi mr hq_123 => ?_)
        obtain ⟨rfl, hmr, hsc⟩ := hq_123
        have hmr := hmr.symm
        subst hmr
        have g : ∀ q, q < H 0 0 → mi 129 q = nI (H (10 + q) 13) := fun q hq => by rw [hsc 129 rfl]; exact g q hq
        have gp : ∀ x y, x < H 0 0 → y < H 0 0 → x ≠ y → (x < a ∨ (x = a ∧ y < b)) → mi 128 (6 * x + y) = nI (pw_ H G x y) := fun x y h1 h2 h3 h4 => by rw [hsc 128 rfl]; exact gp x y h1 h2 h3 h4
        have hz := rz_sS hz hsc
        refine ev_s (is_aload_n rfl rfl) ?_
        refine ev_s (is_iload_n rfl rfl) ?_
        refine ev_q1 (is_callR 2 [_] [_, _, _] rfl rfl rfl rfl rfl (Nat.le_of_ble_eq_true rfl) rfl rfl rfl (pu_s hC 110 rfl rfl)) rfl rfl (r_dayOf hC hz.1 (m := b) (by omega)) (fun r_128 mi mr hq_128 => ?_)
        obtain ⟨rfl, hmr, hsc⟩ := hq_128
        have hmr := hmr.symm
        subst hmr
        have g : ∀ q, q < H 0 0 → mi 129 q = nI (H (10 + q) 13) := fun q hq => by rw [hsc 129 rfl]; exact g q hq
        have gp : ∀ x y, x < H 0 0 → y < H 0 0 → x ≠ y → (x < a ∨ (x = a ∧ y < b)) → mi 128 (6 * x + y) = nI (pw_ H G x y) := fun x y h1 h2 h3 h4 => by rw [hsc 128 rfl]; exact gp x y h1 h2 h3 h4
        have hz := rz_sS hz hsc
        refine ev_s (is_iadd _ rfl (by rw [nI_add, tg_day G ha (by omega) hab])) ?_
        refine ev_s (is_iastore (6 * a + b) rfl (pu_s hC 128 rfl rfl) rfl rfl (by omega)) ?_
        refine ev_s (st_iinc_2 _ rfl rfl (nI_inc _)) ?_
        refine ev_s (is_goto rfl) ?_
        refine ih (b + 1) _ (tg_ a b) _ (by omega) (rz_s hz (Or.inl (by decide))) (fun q hq => by rw [im_u_k _ _ _ _ (by decide)]; exact g q hq) (fun x y h1 h2 h3 h4 => ?_) hk
        by_cases c : x = a ∧ y = b
        · rw [c.1, c.2, im_u_s]
        · rw [im_u_j _ _ _ _ (by omega)]; exact gp x y h1 h2 h3 (by omega)
  have loopa : ∀ (j a : Nat) (w2 w3 : Value) (f : Nat → Nat) (ma : im_MI), a + j = H 0 0 → rz_ (pl_ H f) K G m0 ma → (∀ q, q < H 0 0 → ma 129 q = nI (H (10 + q) 13)) → (∀ x y, x < H 0 0 → y < H 0 0 → x ≠ y → (x < a ∨ (x = a ∧ y < 0)) → ma 128 (6 * x + y) = nI (pw_ H G x y)) → (∀ (w1 w2 w3 : Value) (f : Nat → Nat) (ma : im_MI), rz_ (pl_ H f) K G m0 ma → (∀ q, q < H 0 0 → ma 129 q = nI (H (10 + q) 13)) → pq_ H G ma → Ev (d + 6) 173 145 [.ref 110, w1, w2, w3] [] sh ma mr (fun r sh2 m2 r2 => sh2 = sh ∧ (r2 = mr ∧ rz_ H K G m0 m2 ∧ pq_ H G m2))) → Ev (d + 6) 173 36 [.ref 110, .int (nI a), w2, w3] [] sh ma mr (fun r sh2 m2 r2 => sh2 = sh ∧ (r2 = mr ∧ rz_ H K G m0 m2 ∧ pq_ H G m2)) := by
    intro j
    induction j with
    | zero =>
      intro a w2 w3 f ma hi hz g gp hk
      refine ev_s (is_iload_n rfl rfl) ?_
      refine ev_s (is_aload_n rfl rfl) ?_
      refine ev_s (is_getI' rfl (pu_s hC 110 rfl rfl) rfl rfl (hz.1.1.trans (by rw [pl_lo _ _ (by decide)]))) ?_
      refine ev_s (is_icmp_ge_t rfl (nI_le (by omega) (by omega))) ?_
      exact hk _ _ _ _ _ hz g (fun x y h1 h2 h3 => gp x y h1 h2 h3 (by omega))
    | succ j ih =>
      intro a w2 w3 f ma hi hz g gp hk
      refine ev_s (is_iload_n rfl rfl) ?_
      refine ev_s (is_aload_n rfl rfl) ?_
      refine ev_s (is_getI' rfl (pu_s hC 110 rfl rfl) rfl rfl (hz.1.1.trans (by rw [pl_lo _ _ (by decide)]))) ?_
      refine ev_s (is_icmp_ge_f rfl (nI_ge (by omega) (by omega))) ?_
      refine ev_s (is_iconst (nI 0) rfl rfl) ?_
      refine ev_s (st_istore_n_2 rfl rfl) ?_
      refine loopb a (by omega) (H 0 0) 0 _ f _ (by omega) hz g (fun x y h1 h2 h3 h4 => gp x y h1 h2 h3 (by omega)) (fun w3 f ma hz g gp => ?_)
      refine ev_s (st_iinc_1 _ rfl rfl (nI_inc _)) ?_
      refine ev_s (is_goto rfl) ?_
      exact ih (a + 1) _ _ f _ (by omega) hz g (fun x y h1 h2 h3 h4 => gp x y h1 h2 h3 (by omega)) hk
  have loopr : ∀ (j i : Nat) (w2 w3 : Value) (f : Nat → Nat) (ma : im_MI), i + j = H 0 0 → rz_ (pl_ H f) K G m0 ma → (∀ q, q < i → f q = H (10 + q) 13) → (∀ q, q < H 0 0 → ma 129 q = nI (H (10 + q) 13)) → pq_ H G ma → Ev (d + 6) 173 147 [.ref 110, .int (nI i), w2, w3] [] sh ma mr (fun r sh2 m2 r2 => sh2 = sh ∧ (r2 = mr ∧ rz_ H K G m0 m2 ∧ pq_ H G m2)) := by
    intro j
    induction j with
    | zero =>
      intro i w2 w3 f ma hi hz hf g gp
      refine ev_s (is_iload_n rfl rfl) ?_
      refine ev_s (is_aload_n rfl rfl) ?_
      refine ev_s (is_getI' rfl (pu_s hC 110 rfl rfl) rfl rfl (hz.1.1.trans (by rw [pl_lo _ _ (by decide)]))) ?_
      refine ev_s (is_icmp_ge_t rfl (nI_le (by omega) (by omega))) ?_
      refine ev_ret (is_return rfl) ?_
      have e : pl_ H f = H := by rw [pl_eq (g := fun m => H (10 + m) 13) (fun q hq => hf q (by omega)), pl_own]
      rw [e] at hz
      exact ⟨rfl, rfl, hz, gp⟩
    | succ j ih =>
      intro i w2 w3 f ma hi hz hf g gp
      refine ev_s (is_iload_n rfl rfl) ?_
      refine ev_s (is_aload_n rfl rfl) ?_
      refine ev_s (is_getI' rfl (pu_s hC 110 rfl rfl) rfl rfl (hz.1.1.trans (by rw [pl_lo _ _ (by decide)]))) ?_
      refine ev_s (is_icmp_ge_f rfl (nI_ge (by omega) (by omega))) ?_
      refine ev_s (is_aload_n rfl rfl) ?_
      refine ev_s (is_getR rfl (pu_s hC 110 rfl rfl) rfl rfl (pu_r hC 110 3 rfl rfl)) ?_
      refine ev_s (is_bipush (nI 14) rfl rfl) ?_
      refine ev_s (is_iload_n rfl rfl) ?_
      first
        | refine ev_s (is_imul _ rfl (pk_mul _ _)) ?_
        | refine ev_s (is_imul _ rfl rfl) ?_
      refine ev_s (is_bipush (nI 13) rfl rfl) ?_
      first
        | refine ev_s (is_iadd _ rfl (nI_add _ _)) ?_
        | refine ev_s (is_iadd _ rfl rfl) ?_
      refine ev_s (is_aload_n rfl rfl) ?_
      refine ev_s (is_getR rfl (pu_s hC 110 rfl rfl) rfl rfl (pu_r hC 110 31 rfl rfl)) ?_
      refine ev_s (is_iload_n rfl rfl) ?_
      refine ev_s (is_iaload' (i) rfl (pu_s hC 129 rfl rfl) rfl rfl (by omega) (g i (by omega))) ?_
      refine ev_s (is_iastore (14 * i + 13) rfl (pu_s hC 113 rfl rfl) rfl rfl (by omega)) ?_
      refine ev_s (st_iinc_1 _ rfl rfl (nI_inc _)) ?_
      refine ev_s (is_goto rfl) ?_
      have hz := rz_row hz (m := i) (w := 13) (v := H (10 + i) 13) (by omega) (by decide) (ho_bd_put (rz_bd hz) (Or.inr (Or.inr ⟨rfl, hpb i⟩)))
      rw [pl_set H f (by omega)] at hz
      refine ih (i + 1) w2 w3 (fun q => if q = i then H (10 + i) 13 else f q) _ (by omega) hz (fun q hq => ?_) (fun q hq => by rw [im_u_k _ _ _ _ (by decide)]; exact g q hq) (fun x y h1 h2 h3 => by rw [im_u_k _ _ _ _ (by decide)]; exact gp x y h1 h2 h3)
      show (if q = i then H (10 + i) 13 else f q) = H (10 + q) 13
      by_cases c : q = i
      · rw [if_pos c, c]
      · rw [if_neg c]; exact hf q (by omega)
  refine ev_s (is_iconst (nI 0) rfl rfl) ?_
  refine ev_s (st_istore_n_1 rfl rfl) ?_
  refine loop1 (H 0 0) 0 mi (by omega) hz (fun q hq => by omega) (fun w1 ma hz g => ?_)
  refine ev_s (is_iconst (nI 0) rfl rfl) ?_
  refine ev_s (st_istore_n_1 rfl rfl) ?_
  refine loopa (H 0 0) 0 _ _ (fun m => H (10 + m) 13) ma (by omega) (by rw [pl_own]; exact hz) g (fun x y h1 h2 h3 h4 => by omega) (fun w1 w2 w3 f ma hz g gp => ?_)
  refine ev_s (is_iconst (nI 0) rfl rfl) ?_
  refine ev_s (st_istore_n_1 rfl rfl) ?_
  exact loopr (H 0 0) 0 _ _ f ma (by omega) hz (fun q hq => by omega) g gp
