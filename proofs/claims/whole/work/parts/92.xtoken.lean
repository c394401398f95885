/-! ===== PURE, the class: the reader's tokens ===== -/
theorem wm_ff {tb : Nat → Nat} {f t w : Nat} (h : ¬ t = f + (wl_ w).length) : ¬ wm_ tb f t w = true := fun q => h (of_decide_eq_true q).1
theorem wm_fj {tb : Nat → Nat} {f t w j : Nat} (hj : j < (wl_ w).length) (h : ¬ tb (f + j) = (wl_ w).getD j 0) : ¬ wm_ tb f t w = true := fun q => h ((of_decide_eq_true q).2 j hj)
theorem xt_spells {d : Nat} {sh : im_Sh} {mi : im_MI} {mr : im_MR} {t z : Nat} {tb : Nat → Nat} (hC : xs_C sh mr t) (hT : xs_M mi tb z) {w : Nat} (hw : w < 12) {f e : Nat} (hf : f ≤ e) (hz : e ≤ z) : EvM (d + 4) 36 [.ref 33, .int (nI f), .int (nI e), .ref (4 + w)] sh mi mr (ev_R sh (.int (pu_b (wm_ tb f e w = true))) mi mr) := by
  show Ev (d + 4) 36 0 [.ref 33, .int (nI f), .int (nI e), .ref (4 + w), im_bad] [] sh mi mr _
  have hz1 := hT.2.2.1
  have hwl := wl_len w hw
  by_cases he : e = f + (wl_ w).length
  · have loop : ∀ (j i : Nat), i + j = (wl_ w).length → (∀ q, q < i → tb (f + q) = (wl_ w).getD q 0) → Ev (d + 4) 36 15 [.ref 33, .int (nI f), .int (nI e), .ref (4 + w), .int (nI (f + i))] [] sh mi mr (ev_R sh (.int (pu_b (wm_ tb f e w = true))) mi mr) := by
      intro j
      induction j with
      | zero =>
        intro i  hi hl
        refine ev_s (is_iload rfl rfl) ?_
        refine ev_s (is_iload_n rfl rfl) ?_
        refine ev_s (is_icmp_ge_t rfl (nI_le (by omega) (by omega))) ?_
        refine ev_s (is_iconst (nI 1) rfl rfl) ?_
        refine ev_ret (is_ireturn rfl rfl (by first | rfl | exact pu_b_nar | decide)) ?_
        exact ⟨pu_b_t (decide_eq_true ⟨he, fun q hq => hl q (by omega)⟩), rfl, rfl, rfl⟩
      | succ j ih =>
        intro i  hi hl
        have hb := hT.2.2.2.1 (f + i)
        have hc := wl_lt w hw i (by omega)
        refine ev_s (is_iload rfl rfl) ?_
        refine ev_s (is_iload_n rfl rfl) ?_
        refine ev_s (is_icmp_ge_f rfl (nI_ge (by omega) (by omega))) ?_
        refine ev_s (is_iload rfl rfl) ?_
        refine ev_s (is_aload_n rfl rfl) ?_
        refine ev_s (is_getI' rfl hC.1.1 rfl rfl hT.1) ?_
        refine ev_s (is_icmp_ge_f rfl (nI_ge (by omega) (by omega))) ?_
        refine ev_s (is_aload_n rfl rfl) ?_
        refine ev_s (is_getR rfl hC.1.1 rfl rfl hC.1.2) ?_
        refine ev_s (is_iload rfl rfl) ?_
        refine ev_s (is_caload' (f + i) rfl hC.2.1 rfl rfl (by omega) (hT.2.1 (f + i) (by omega))) ?_
        refine ev_s (is_aload_n rfl rfl) ?_
        refine ev_s (is_iload rfl rfl) ?_
        refine ev_s (is_iload_n rfl rfl) ?_
        refine ev_s (is_isub (nI i) rfl (by rw [pk_sub (by omega), Nat.add_sub_cancel_left])) ?_
        refine ev_c1 (is_callR 2 [_] [_] rfl rfl rfl rfl rfl (Nat.le_of_ble_eq_true rfl) rfl rfl rfl (hC.2.2.2.2.2.2 w hw).1) rfl rfl (xj_charAt hC hT hw (j := i) (by omega)) ?_
        refine ev_icmpN_eq rfl (by omega) (by omega) (fun h_45 => ?_) (fun h_45 => ?_)
        · refine ev_s (st_iinc_4 _ rfl rfl (nI_inc _)) ?_
          refine ev_s (is_goto rfl) ?_
          refine ih (i + 1) (by omega) (fun q hq => ?_)
          rcases Nat.eq_or_lt_of_le (Nat.le_of_lt_succ hq) with c | c
          · rw [c]; exact h_45
          · exact hl q c
        · refine ev_s (is_iconst (nI 0) rfl rfl) ?_
          refine ev_ret (is_ireturn rfl rfl (by first | rfl | exact pu_b_nar | decide)) ?_
          exact ⟨pu_b_f (wm_fj (by omega) h_45), rfl, rfl, rfl⟩
    refine ev_s (is_iload_n rfl rfl) ?_
    refine ev_s (is_iload_n rfl rfl) ?_
    refine ev_s (is_isub (nI (e - f)) rfl (pk_sub (by omega))) ?_
    refine ev_s (is_aload_n rfl rfl) ?_
    refine ev_c1 (is_callR 1 [] [_] rfl rfl rfl rfl rfl (Nat.le_of_ble_eq_true rfl) rfl rfl rfl (hC.2.2.2.2.2.2 w hw).1) rfl rfl (xj_length hC hT hw) ?_
    refine ev_s (is_icmp_eq_t rfl (by rw [he, Nat.add_sub_cancel_left])) ?_
    refine ev_s (is_iload_n rfl rfl) ?_
    refine ev_s (st_istore_4 rfl rfl) ?_
    exact loop (wl_ w).length 0 (Nat.zero_add _) (fun q hq => by omega)
  · refine ev_s (is_iload_n rfl rfl) ?_
    refine ev_s (is_iload_n rfl rfl) ?_
    refine ev_s (is_isub (nI (e - f)) rfl (pk_sub (by omega))) ?_
    refine ev_s (is_aload_n rfl rfl) ?_
    refine ev_c1 (is_callR 1 [] [_] rfl rfl rfl rfl rfl (Nat.le_of_ble_eq_true rfl) rfl rfl rfl (hC.2.2.2.2.2.2 w hw).1) rfl rfl (xj_length hC hT hw) ?_
    refine ev_s (is_icmp_eq_f rfl (fun q => he (by have := (nI_eq32 (by omega) (by omega)).mp q; omega))) ?_
    refine ev_s (is_iconst (nI 0) rfl rfl) ?_
    refine ev_ret (is_ireturn rfl rfl (by first | rfl | exact pu_b_nar | decide)) ?_
    exact ⟨pu_b_f (wm_ff he), rfl, rfl, rfl⟩
theorem xk_word {d : Nat} {sh : im_Sh} {mi : im_MI} {mr : im_MR} {w : Nat} (hw : w < 12) : EvM (d) 63 [.int (nI w)] sh mi mr (ev_R sh (.ref (4 + w)) mi mr) := by
  show Ev (d) 63 0 [.int (nI w)] [] sh mi mr _
  rcases (show w = 0 ∨ w = 1 ∨ w = 2 ∨ w = 3 ∨ w = 4 ∨ w = 5 ∨ w = 6 ∨ w = 7 ∨ w = 8 ∨ w = 9 ∨ w = 10 ∨ w = 11 from by omega) with rfl | rfl | rfl | rfl | rfl | rfl | rfl | rfl | rfl | rfl | rfl | rfl
  · refine ev_s (is_iload_n rfl rfl) ?_
    refine ev_s (is_tsw 60 rfl (by decide)) ?_
    refine ev_s (is_ldcS rfl) ?_
    refine ev_ret (is_areturn rfl) ?_
    exact ⟨rfl, rfl, rfl, rfl⟩
  · refine ev_s (is_iload_n rfl rfl) ?_
    refine ev_s (is_tsw 63 rfl (by decide)) ?_
    refine ev_s (is_ldcS rfl) ?_
    refine ev_ret (is_areturn rfl) ?_
    exact ⟨rfl, rfl, rfl, rfl⟩
  · refine ev_s (is_iload_n rfl rfl) ?_
    refine ev_s (is_tsw 66 rfl (by decide)) ?_
    refine ev_s (is_ldcS rfl) ?_
    refine ev_ret (is_areturn rfl) ?_
    exact ⟨rfl, rfl, rfl, rfl⟩
  · refine ev_s (is_iload_n rfl rfl) ?_
    refine ev_s (is_tsw 69 rfl (by decide)) ?_
    refine ev_s (is_ldcS rfl) ?_
    refine ev_ret (is_areturn rfl) ?_
    exact ⟨rfl, rfl, rfl, rfl⟩
  · refine ev_s (is_iload_n rfl rfl) ?_
    refine ev_s (is_tsw 72 rfl (by decide)) ?_
    refine ev_s (is_ldcS rfl) ?_
    refine ev_ret (is_areturn rfl) ?_
    exact ⟨rfl, rfl, rfl, rfl⟩
  · refine ev_s (is_iload_n rfl rfl) ?_
    refine ev_s (is_tsw 75 rfl (by decide)) ?_
    refine ev_s (is_ldcS rfl) ?_
    refine ev_ret (is_areturn rfl) ?_
    exact ⟨rfl, rfl, rfl, rfl⟩
  · refine ev_s (is_iload_n rfl rfl) ?_
    refine ev_s (is_tsw 78 rfl (by decide)) ?_
    refine ev_s (is_ldcS rfl) ?_
    refine ev_ret (is_areturn rfl) ?_
    exact ⟨rfl, rfl, rfl, rfl⟩
  · refine ev_s (is_iload_n rfl rfl) ?_
    refine ev_s (is_tsw 81 rfl (by decide)) ?_
    refine ev_s (is_ldcS rfl) ?_
    refine ev_ret (is_areturn rfl) ?_
    exact ⟨rfl, rfl, rfl, rfl⟩
  · refine ev_s (is_iload_n rfl rfl) ?_
    refine ev_s (is_tsw 84 rfl (by decide)) ?_
    refine ev_s (is_ldcS rfl) ?_
    refine ev_ret (is_areturn rfl) ?_
    exact ⟨rfl, rfl, rfl, rfl⟩
  · refine ev_s (is_iload_n rfl rfl) ?_
    refine ev_s (is_tsw 87 rfl (by decide)) ?_
    refine ev_s (is_ldcS rfl) ?_
    refine ev_ret (is_areturn rfl) ?_
    exact ⟨rfl, rfl, rfl, rfl⟩
  · refine ev_s (is_iload_n rfl rfl) ?_
    refine ev_s (is_tsw 90 rfl (by decide)) ?_
    refine ev_s (is_ldcS rfl) ?_
    refine ev_ret (is_areturn rfl) ?_
    exact ⟨rfl, rfl, rfl, rfl⟩
  · refine ev_s (is_iload_n rfl rfl) ?_
    refine ev_s (is_tswD 93 rfl (by decide) (by decide)) ?_
    refine ev_s (is_ldcS rfl) ?_
    refine ev_ret (is_areturn rfl) ?_
    exact ⟨rfl, rfl, rfl, rfl⟩
