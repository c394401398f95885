/-! ===== PURE, the class: strings, the tape's tests ===== -/
theorem is_caload' {y pc nx a b c : Nat} {L st : List Value} {sh : im_Sh} {mi : im_MI} {mr : im_MR} {r n : Nat} {i v : Int32} (j : Nat) (hi : im_ins y pc = some (nx, .caload, a, b, c)) (hs : sh[r]? = some (101, n)) (hn : Nat.ble n 100000 = true) (hj : i = nI j) (h : j < n) (hv : mi r j = v) : im_step y pc L (.int i :: .ref r :: st) sh mi mr = im_nx nx L (.int v :: st) sh mi mr := by rw [← hv]; exact is_caload j hi hs hn hj h
/-- the cells that the reader reaches -/
def xs_C (sh : im_Sh) (mr : im_MR) (t : Nat) : Prop := (sh[33]? = some (5, 2) ∧ mr 33 0 = some 34) ∧ sh[34]? = some (101, 160) ∧ (sh[35]? = some (7, 7) ∧ mr 35 0 = some 33 ∧ mr 35 1 = some (78 + 3 * t)) ∧ (sh[78 + 3 * t]? = some (6, 3) ∧ mr (78 + 3 * t) 0 = some (79 + 3 * t) ∧ mr (78 + 3 * t) 1 = some (80 + 3 * t)) ∧ sh[79 + 3 * t]? = some (100, 160) ∧ sh[80 + 3 * t]? = some (100, 3) ∧ ∀ w, w < 12 → sh[4 + w]? = some (20, 2) ∧ sh[17 + w]? = some (204, (wl_ w).length) ∧ mr (4 + w) 0 = some (17 + w)
/-- the words' letters, the tape -/
def xs_M (mi : im_MI) (tb : Nat → Nat) (z : Nat) : Prop := mi 33 1 = nI z ∧ (∀ j, j < z → mi 34 j = nI (tb j)) ∧ z ≤ 160 ∧ (∀ j, tb j < 256) ∧ ∀ w, w < 12 → mi (4 + w) 1 = nI 0 ∧ ∀ j, j < (wl_ w).length → mi (17 + w) j = nI ((wl_ w).getD j 0)
theorem wl_lt : ∀ w, w < 12 → ∀ j, j < (wl_ w).length → (wl_ w).getD j 0 < 128 := by decide
theorem wl_len : ∀ w, w < 12 → (wl_ w).length ≤ 7 := by decide
theorem nI_shr0 {a : Nat} (h : a < 2 ^ 31) : nI a >>> (nI 0 &&& 31) = nI a := by
  have := nI_shr (h := 0) h (by decide)
  rw [this, Nat.pow_zero, Nat.div_one]
theorem lx_c {tb : Nat → Nat} {z i a b : Nat} (h : ∀ j, tb j < 256) (hb : b < 256) (ha : a < 256) : ho_rng (nI a) (nI (tb i)) (nI b) = true ↔ a ≤ tb i ∧ tb i ≤ b := by
  have := h i
  unfold ho_rng
  rw [decide_eq_true_iff, nI_leI (by omega) (by omega), nI_leI (by omega) (by omega)]
theorem xj_coder {d : Nat} {sh : im_Sh} {mi : im_MI} {mr : im_MR} {t z : Nat} {tb : Nat → Nat} (hC : xs_C sh mr t) (hT : xs_M mi tb z) {w : Nat} (hw : w < 12) : EvM (d) 212 [.ref (4 + w)] sh mi mr (ev_R sh (.int (nI 0)) mi mr) := by
  show Ev (d) 212 0 [.ref (4 + w)] [] sh mi mr _
  refine ev_s (is_getsC rfl) ?_
  refine ev_s (is_if_eq_f rfl (by decide)) ?_
  refine ev_s (is_aload_n rfl rfl) ?_
  refine ev_s (is_getI' rfl (hC.2.2.2.2.2.2 w hw).1 rfl rfl (hT.2.2.2.2 w hw).1) ?_
  refine ev_s (is_goto rfl) ?_
  refine ev_ret (is_ireturn rfl rfl (by first | rfl | exact pu_b_nar | decide)) ?_
  exact ⟨rfl, rfl, rfl, rfl⟩
theorem xj_latin {d : Nat} {sh : im_Sh} {mi : im_MI} {mr : im_MR} {t z : Nat} {tb : Nat → Nat} (hC : xs_C sh mr t) (hT : xs_M mi tb z) {w : Nat} (hw : w < 12) : EvM (d) 213 [.ref (4 + w)] sh mi mr (ev_R sh (.int (nI 1)) mi mr) := by
  show Ev (d) 213 0 [.ref (4 + w)] [] sh mi mr _
  refine ev_s (is_getsC rfl) ?_
  refine ev_s (is_if_eq_f rfl (by decide)) ?_
  refine ev_s (is_aload_n rfl rfl) ?_
  refine ev_s (is_getI' rfl (hC.2.2.2.2.2.2 w hw).1 rfl rfl (hT.2.2.2.2 w hw).1) ?_
  refine ev_s (is_if_ne_f rfl (by decide)) ?_
  refine ev_s (is_iconst (nI 1) rfl rfl) ?_
  refine ev_s (is_goto rfl) ?_
  refine ev_ret (is_ireturn rfl rfl (by first | rfl | exact pu_b_nar | decide)) ?_
  exact ⟨rfl, rfl, rfl, rfl⟩
theorem xj_length {d : Nat} {sh : im_Sh} {mi : im_MI} {mr : im_MR} {t z : Nat} {tb : Nat → Nat} (hC : xs_C sh mr t) (hT : xs_M mi tb z) {w : Nat} (hw : w < 12) : EvM (d + 1) 210 [.ref (4 + w)] sh mi mr (ev_R sh (.int (nI (wl_ w).length)) mi mr) := by
  show Ev (d + 1) 210 0 [.ref (4 + w)] [] sh mi mr _
  refine ev_s (is_aload_n rfl rfl) ?_
  refine ev_s (is_getR rfl (hC.2.2.2.2.2.2 w hw).1 rfl rfl (hC.2.2.2.2.2.2 w hw).2.2) ?_
  refine ev_s (is_alen rfl (hC.2.2.2.2.2.2 w hw).2.1 (by decide)) ?_
  refine ev_s (is_aload_n rfl rfl) ?_
  refine ev_c1 (is_callR 1 [] [_] rfl rfl rfl rfl rfl (Nat.le_of_ble_eq_true rfl) rfl rfl rfl (hC.2.2.2.2.2.2 w hw).1) rfl rfl (xj_coder hC hT hw) ?_
  refine ev_s (is_ishr _ rfl (nI_shr0 (by have := wl_len w hw; omega))) ?_
  refine ev_ret (is_ireturn rfl rfl (by first | rfl | exact pu_b_nar | decide)) ?_
  exact ⟨rfl, rfl, rfl, rfl⟩
theorem xj_chk3 {d : Nat} {sh : im_Sh} {mi : im_MI} {mr : im_MR} {i n : Nat} (hi : i < n) (hn : n ≤ 160) : EvM (d) 220 [.int (nI i), .int (nI n), .ref 2] sh mi mr (ev_R sh (.int (nI i)) mi mr) := by
  show Ev (d) 220 0 [.int (nI i), .int (nI n), .ref 2] [] sh mi mr _
  refine ev_s (is_iload_n rfl rfl) ?_
  refine ev_s (is_if_lt_f rfl (fun q => absurd ((nI_ltI (b := 0) (by omega) (by decide)).mp q) (by omega))) ?_
  refine ev_s (is_iload_n rfl rfl) ?_
  refine ev_s (is_iload_n rfl rfl) ?_
  refine ev_s (is_icmp_lt_t rfl (nI_ltI (by omega) (by omega) |>.mpr hi)) ?_
  refine ev_s (is_iload_n rfl rfl) ?_
  refine ev_ret (is_ireturn rfl rfl (by first | rfl | exact pu_b_nar | decide)) ?_
  exact ⟨rfl, rfl, rfl, rfl⟩
theorem xj_chk0 {d : Nat} {sh : im_Sh} {mi : im_MI} {mr : im_MR} {i n : Nat} (hi : i < n) (hn : n ≤ 160) : EvM (d + 1) 214 [.int (nI i), .int (nI n)] sh mi mr (fun r sh2 m2 r2 => sh2 = sh ∧ (m2 = mi ∧ r2 = mr)) := by
  show Ev (d + 1) 214 0 [.int (nI i), .int (nI n)] [] sh mi mr _
  refine ev_s (is_iload_n rfl rfl) ?_
  refine ev_s (is_iload_n rfl rfl) ?_
  refine ev_s (is_getsF rfl) ?_
  refine ev_c1 (is_call0 3 [_, _, _] [] rfl rfl rfl rfl rfl (Nat.le_of_ble_eq_true rfl) rfl rfl rfl) rfl rfl (xj_chk3 hi hn) ?_
  refine ev_s (is_pop rfl rfl) ?_
  refine ev_ret (is_return rfl) ?_
  exact ⟨rfl, rfl, rfl⟩
theorem xj_char1 {d : Nat} {sh : im_Sh} {mi : im_MI} {mr : im_MR} {t z : Nat} {tb : Nat → Nat} (hC : xs_C sh mr t) (hT : xs_M mi tb z) {w : Nat} (hw : w < 12) {j : Nat} (hj : j < (wl_ w).length) : EvM (d + 2) 215 [.ref (17 + w), .int (nI j)] sh mi mr (ev_R sh (.int (nI ((wl_ w).getD j 0))) mi mr) := by
  show Ev (d + 2) 215 0 [.ref (17 + w), .int (nI j)] [] sh mi mr _
  refine ev_s (is_iload_n rfl rfl) ?_
  refine ev_s (is_aload_n rfl rfl) ?_
  refine ev_s (is_alen rfl (hC.2.2.2.2.2.2 w hw).2.1 (by decide)) ?_
  refine ev_q0 (is_call0 2 [_, _] [] rfl rfl rfl rfl rfl (Nat.le_of_ble_eq_true rfl) rfl rfl rfl) rfl rfl (xj_chk0 hj (by have := wl_len w hw; omega)) (fun r_3 mi mr hq_3 => ?_)
  obtain ⟨hm_3, hr_3⟩ := hq_3
  subst hm_3
  subst hr_3
  refine ev_s (is_aload_n rfl rfl) ?_
  refine ev_s (is_iload_n rfl rfl) ?_
  refine ev_s (is_baload j rfl (hC.2.2.2.2.2.2 w hw).2.1 (Nat.ble_eq.mpr (by have := wl_len w hw; omega)) rfl hj) ?_
  rw [(hT.2.2.2.2 w hw).2 j hj]
  refine ev_s (is_sipush (nI 255) rfl rfl) ?_
  have hc := wl_lt w hw j hj
  refine ev_s (is_iand (nI ((wl_ w).getD j 0)) rfl ((pk_andN (by omega) 8 (by decide)).trans (by rw [Nat.mod_eq_of_lt (by omega)]))) ?_
  refine ev_s (is_i2c _ rfl (pu_i2c (by omega))) ?_
  refine ev_ret (is_ireturn rfl rfl (congrArg Value.int (pu_nc (by have := wl_lt w hw j hj; omega)))) ?_
  exact ⟨rfl, rfl, rfl, rfl⟩
theorem xj_charAt {d : Nat} {sh : im_Sh} {mi : im_MI} {mr : im_MR} {t z : Nat} {tb : Nat → Nat} (hC : xs_C sh mr t) (hT : xs_M mi tb z) {w : Nat} (hw : w < 12) {j : Nat} (hj : j < (wl_ w).length) : EvM (d + 3) 211 [.ref (4 + w), .int (nI j)] sh mi mr (ev_R sh (.int (nI ((wl_ w).getD j 0))) mi mr) := by
  show Ev (d + 3) 211 0 [.ref (4 + w), .int (nI j)] [] sh mi mr _
  refine ev_s (is_aload_n rfl rfl) ?_
  refine ev_c1 (is_callR 1 [] [] rfl rfl rfl rfl rfl (Nat.le_of_ble_eq_true rfl) rfl rfl rfl (hC.2.2.2.2.2.2 w hw).1) rfl rfl (xj_latin hC hT hw) ?_
  refine ev_s (is_if_eq_f rfl (by decide)) ?_
  refine ev_s (is_aload_n rfl rfl) ?_
  refine ev_s (is_getR rfl (hC.2.2.2.2.2.2 w hw).1 rfl rfl (hC.2.2.2.2.2.2 w hw).2.2) ?_
  refine ev_s (is_iload_n rfl rfl) ?_
  refine ev_c1 (is_call0 2 [_, _] [] rfl rfl rfl rfl rfl (Nat.le_of_ble_eq_true rfl) rfl rfl rfl) rfl rfl (xj_char1 hC hT hw hj) ?_
  refine ev_ret (is_ireturn rfl rfl (congrArg Value.int (pu_nc (by have := wl_lt w hw j hj; omega)))) ?_
  exact ⟨rfl, rfl, rfl, rfl⟩
theorem xt_digit {d : Nat} {sh : im_Sh} {mi : im_MI} {mr : im_MR} {t z : Nat} {tb : Nat → Nat} (hC : xs_C sh mr t) (hT : xs_M mi tb z) {i : Nat} (hi : i ≤ 160) : EvM (d + 1) 32 [.ref 33, .int (nI i)] sh mi mr (ev_R sh (.int (pu_b (lx_dg tb z i = true))) mi mr) := by
  show Ev (d + 1) 32 0 [.ref 33, .int (nI i)] [] sh mi mr _
  have hz := hT.2.2.1
  refine ev_s (is_iload_n rfl rfl) ?_
  refine ev_s (is_aload_n rfl rfl) ?_
  refine ev_s (is_getI' rfl hC.1.1 rfl rfl hT.1) ?_
  refine ev_icmpN_ge rfl (by omega) (by omega) (fun h_5 => ?_) (fun h_5 => ?_)
  · refine ev_s (is_iconst (nI 0) rfl rfl) ?_
    refine ev_ret (is_ireturn rfl rfl (by first | rfl | exact pu_b_nar | decide)) ?_
    first
      | exact ⟨pu_b_t (decide_eq_true ⟨by omega, (lx_c (z := z) hT.2.2.2.1 (by decide) (by decide)).mp h_21⟩), rfl, rfl, rfl⟩
      | exact ⟨pu_b_f (fun q => h_21 ((lx_c (z := z) hT.2.2.2.1 (by decide) (by decide)).mpr (of_decide_eq_true q).2)), rfl, rfl, rfl⟩
      | exact ⟨pu_b_f (fun q => by have := (of_decide_eq_true q).1; omega), rfl, rfl, rfl⟩
  · refine ev_s (is_aload_n rfl rfl) ?_
    refine ev_s (is_getR rfl hC.1.1 rfl rfl hC.1.2) ?_
    refine ev_s (is_iload_n rfl rfl) ?_
    refine ev_s (is_caload' (i) rfl hC.2.1 rfl rfl (by omega) (hT.2.1 i (by omega))) ?_
    refine ev_s (is_bipush (nI 48) rfl rfl) ?_
    refine ev_s (is_bipush (nI 57) rfl rfl) ?_
    refine ev_c1 (is_call0 3 [_, _, _] [] rfl rfl rfl rfl rfl (Nat.le_of_ble_eq_true rfl) rfl rfl rfl) rfl rfl (x_within' _ _ _) ?_
    refine ev_ifB_eq rfl (fun h_21 => ?_) (fun h_21 => ?_)
    · refine ev_s (is_iconst (nI 0) rfl rfl) ?_
      refine ev_ret (is_ireturn rfl rfl (by first | rfl | exact pu_b_nar | decide)) ?_
      first
        | exact ⟨pu_b_t (decide_eq_true ⟨by omega, (lx_c (z := z) hT.2.2.2.1 (by decide) (by decide)).mp h_21⟩), rfl, rfl, rfl⟩
        | exact ⟨pu_b_f (fun q => h_21 ((lx_c (z := z) hT.2.2.2.1 (by decide) (by decide)).mpr (of_decide_eq_true q).2)), rfl, rfl, rfl⟩
        | exact ⟨pu_b_f (fun q => by have := (of_decide_eq_true q).1; omega), rfl, rfl, rfl⟩
    · refine ev_s (is_iconst (nI 1) rfl rfl) ?_
      refine ev_s (is_goto rfl) ?_
      refine ev_ret (is_ireturn rfl rfl (by first | rfl | exact pu_b_nar | decide)) ?_
      first
        | exact ⟨pu_b_t (decide_eq_true ⟨by omega, (lx_c (z := z) hT.2.2.2.1 (by decide) (by decide)).mp h_21⟩), rfl, rfl, rfl⟩
        | exact ⟨pu_b_f (fun q => h_21 ((lx_c (z := z) hT.2.2.2.1 (by decide) (by decide)).mpr (of_decide_eq_true q).2)), rfl, rfl, rfl⟩
        | exact ⟨pu_b_f (fun q => by have := (of_decide_eq_true q).1; omega), rfl, rfl, rfl⟩
theorem xt_letter {d : Nat} {sh : im_Sh} {mi : im_MI} {mr : im_MR} {t z : Nat} {tb : Nat → Nat} (hC : xs_C sh mr t) (hT : xs_M mi tb z) {i : Nat} (hi : i ≤ 160) : EvM (d + 1) 33 [.ref 33, .int (nI i)] sh mi mr (ev_R sh (.int (pu_b (lx_lt tb z i = true))) mi mr) := by
  show Ev (d + 1) 33 0 [.ref 33, .int (nI i)] [] sh mi mr _
  have hz := hT.2.2.1
  refine ev_s (is_iload_n rfl rfl) ?_
  refine ev_s (is_aload_n rfl rfl) ?_
  refine ev_s (is_getI' rfl hC.1.1 rfl rfl hT.1) ?_
  refine ev_icmpN_ge rfl (by omega) (by omega) (fun h_5 => ?_) (fun h_5 => ?_)
  · refine ev_s (is_iconst (nI 0) rfl rfl) ?_
    refine ev_ret (is_ireturn rfl rfl (by first | rfl | exact pu_b_nar | decide)) ?_
    first
      | exact ⟨pu_b_t (decide_eq_true ⟨by omega, (lx_c (z := z) hT.2.2.2.1 (by decide) (by decide)).mp h_21⟩), rfl, rfl, rfl⟩
      | exact ⟨pu_b_f (fun q => h_21 ((lx_c (z := z) hT.2.2.2.1 (by decide) (by decide)).mpr (of_decide_eq_true q).2)), rfl, rfl, rfl⟩
      | exact ⟨pu_b_f (fun q => by have := (of_decide_eq_true q).1; omega), rfl, rfl, rfl⟩
  · refine ev_s (is_aload_n rfl rfl) ?_
    refine ev_s (is_getR rfl hC.1.1 rfl rfl hC.1.2) ?_
    refine ev_s (is_iload_n rfl rfl) ?_
    refine ev_s (is_caload' (i) rfl hC.2.1 rfl rfl (by omega) (hT.2.1 i (by omega))) ?_
    refine ev_s (is_bipush (nI 97) rfl rfl) ?_
    refine ev_s (is_bipush (nI 122) rfl rfl) ?_
    refine ev_c1 (is_call0 3 [_, _, _] [] rfl rfl rfl rfl rfl (Nat.le_of_ble_eq_true rfl) rfl rfl rfl) rfl rfl (x_within' _ _ _) ?_
    refine ev_ifB_eq rfl (fun h_21 => ?_) (fun h_21 => ?_)
    · refine ev_s (is_iconst (nI 0) rfl rfl) ?_
      refine ev_ret (is_ireturn rfl rfl (by first | rfl | exact pu_b_nar | decide)) ?_
      first
        | exact ⟨pu_b_t (decide_eq_true ⟨by omega, (lx_c (z := z) hT.2.2.2.1 (by decide) (by decide)).mp h_21⟩), rfl, rfl, rfl⟩
        | exact ⟨pu_b_f (fun q => h_21 ((lx_c (z := z) hT.2.2.2.1 (by decide) (by decide)).mpr (of_decide_eq_true q).2)), rfl, rfl, rfl⟩
        | exact ⟨pu_b_f (fun q => by have := (of_decide_eq_true q).1; omega), rfl, rfl, rfl⟩
    · refine ev_s (is_iconst (nI 1) rfl rfl) ?_
      refine ev_s (is_goto rfl) ?_
      refine ev_ret (is_ireturn rfl rfl (by first | rfl | exact pu_b_nar | decide)) ?_
      first
        | exact ⟨pu_b_t (decide_eq_true ⟨by omega, (lx_c (z := z) hT.2.2.2.1 (by decide) (by decide)).mp h_21⟩), rfl, rfl, rfl⟩
        | exact ⟨pu_b_f (fun q => h_21 ((lx_c (z := z) hT.2.2.2.1 (by decide) (by decide)).mpr (of_decide_eq_true q).2)), rfl, rfl, rfl⟩
        | exact ⟨pu_b_f (fun q => by have := (of_decide_eq_true q).1; omega), rfl, rfl, rfl⟩
theorem xt_blank {d : Nat} {sh : im_Sh} {mi : im_MI} {mr : im_MR} {t z : Nat} {tb : Nat → Nat} (hC : xs_C sh mr t) (hT : xs_M mi tb z) {i : Nat} (hi : i ≤ 160) : EvM (d) 34 [.ref 33, .int (nI i)] sh mi mr (ev_R sh (.int (pu_b (lx_bl tb z i = true))) mi mr) := by
  show Ev (d) 34 0 [.ref 33, .int (nI i)] [] sh mi mr _
  have hz := hT.2.2.1
  have hb := hT.2.2.2.1 i
  refine ev_s (is_iload_n rfl rfl) ?_
  refine ev_s (is_aload_n rfl rfl) ?_
  refine ev_s (is_getI' rfl hC.1.1 rfl rfl hT.1) ?_
  refine ev_icmpN_ge rfl (by omega) (by omega) (fun h_5 => ?_) (fun h_5 => ?_)
  · refine ev_s (is_iconst (nI 0) rfl rfl) ?_
    refine ev_ret (is_ireturn rfl rfl (by first | rfl | exact pu_b_nar | decide)) ?_
    first
      | exact ⟨pu_b_t (decide_eq_true (by omega)), rfl, rfl, rfl⟩
      | exact ⟨pu_b_f (fun q => by have := of_decide_eq_true q; omega), rfl, rfl, rfl⟩
  · refine ev_s (is_aload_n rfl rfl) ?_
    refine ev_s (is_getR rfl hC.1.1 rfl rfl hC.1.2) ?_
    refine ev_s (is_iload_n rfl rfl) ?_
    refine ev_s (is_caload' (i) rfl hC.2.1 rfl rfl (by omega) (hT.2.1 i (by omega))) ?_
    refine ev_s (is_bipush (nI 32) rfl rfl) ?_
    refine ev_icmpN_eq rfl (by omega) (by omega) (fun h_16 => ?_) (fun h_16 => ?_)
    · refine ev_s (is_iconst (nI 1) rfl rfl) ?_
      refine ev_s (is_goto rfl) ?_
      refine ev_ret (is_ireturn rfl rfl (by first | rfl | exact pu_b_nar | decide)) ?_
      first
        | exact ⟨pu_b_t (decide_eq_true (by omega)), rfl, rfl, rfl⟩
        | exact ⟨pu_b_f (fun q => by have := of_decide_eq_true q; omega), rfl, rfl, rfl⟩
    · refine ev_s (is_aload_n rfl rfl) ?_
      refine ev_s (is_getR rfl hC.1.1 rfl rfl hC.1.2) ?_
      refine ev_s (is_iload_n rfl rfl) ?_
      refine ev_s (is_caload' (i) rfl hC.2.1 rfl rfl (by omega) (hT.2.1 i (by omega))) ?_
      refine ev_s (is_bipush (nI 10) rfl rfl) ?_
      refine ev_icmpN_ne rfl (by omega) (by omega) (fun h_27 => ?_) (fun h_27 => ?_)
      · refine ev_s (is_iconst (nI 0) rfl rfl) ?_
        refine ev_ret (is_ireturn rfl rfl (by first | rfl | exact pu_b_nar | decide)) ?_
        first
          | exact ⟨pu_b_t (decide_eq_true (by omega)), rfl, rfl, rfl⟩
          | exact ⟨pu_b_f (fun q => by have := of_decide_eq_true q; omega), rfl, rfl, rfl⟩
      · refine ev_s (is_iconst (nI 1) rfl rfl) ?_
        refine ev_s (is_goto rfl) ?_
        refine ev_ret (is_ireturn rfl rfl (by first | rfl | exact pu_b_nar | decide)) ?_
        first
          | exact ⟨pu_b_t (decide_eq_true (by omega)), rfl, rfl, rfl⟩
          | exact ⟨pu_b_f (fun q => by have := of_decide_eq_true q; omega), rfl, rfl, rfl⟩
theorem xt_sign {d : Nat} {sh : im_Sh} {mi : im_MI} {mr : im_MR} {t z : Nat} {tb : Nat → Nat} (hC : xs_C sh mr t) (hT : xs_M mi tb z) {i : Nat} (hi : i < z) : EvM (d) 35 [.ref 33, .int (nI i)] sh mi mr (ev_R sh (.int (pu_b (lx_sg (tb i) = true))) mi mr) := by
  show Ev (d) 35 0 [.ref 33, .int (nI i)] [] sh mi mr _
  have hz := hT.2.2.1
  have hb := hT.2.2.2.1 i
  refine ev_s (is_iload_n rfl rfl) ?_
  refine ev_s (is_aload_n rfl rfl) ?_
  refine ev_s (is_getI' rfl hC.1.1 rfl rfl hT.1) ?_
  refine ev_s (is_icmp_lt_t rfl ((nI_ltI (by omega) (by omega)).mpr hi)) ?_
  refine ev_s (is_aload_n rfl rfl) ?_
  refine ev_s (is_getR rfl hC.1.1 rfl rfl hC.1.2) ?_
  refine ev_s (is_iload_n rfl rfl) ?_
  refine ev_s (is_caload' (i) rfl hC.2.1 rfl rfl (by omega) (hT.2.1 i (by omega))) ?_
  by_cases hs : lx_sg (tb i) = true
  · rcases (show tb i = 40 ∨ tb i = 41 ∨ tb i = 42 ∨ tb i = 43 ∨ tb i = 45 ∨ tb i = 59 ∨ tb i = 60 ∨ tb i = 61 from by have := of_decide_eq_true hs; omega) with e | e | e | e | e | e | e | e
    · rw [e] at hs ⊢
      refine ev_s (is_tsw 120 rfl (by decide)) ?_
      refine ev_s (is_iconst (nI 1) rfl rfl) ?_
      refine ev_ret (is_ireturn rfl rfl (by first | rfl | exact pu_b_nar | decide)) ?_
      exact ⟨pu_b_t hs, rfl, rfl, rfl⟩
    · rw [e] at hs ⊢
      refine ev_s (is_tsw 120 rfl (by decide)) ?_
      refine ev_s (is_iconst (nI 1) rfl rfl) ?_
      refine ev_ret (is_ireturn rfl rfl (by first | rfl | exact pu_b_nar | decide)) ?_
      exact ⟨pu_b_t hs, rfl, rfl, rfl⟩
    · rw [e] at hs ⊢
      refine ev_s (is_tsw 120 rfl (by decide)) ?_
      refine ev_s (is_iconst (nI 1) rfl rfl) ?_
      refine ev_ret (is_ireturn rfl rfl (by first | rfl | exact pu_b_nar | decide)) ?_
      exact ⟨pu_b_t hs, rfl, rfl, rfl⟩
    · rw [e] at hs ⊢
      refine ev_s (is_tsw 120 rfl (by decide)) ?_
      refine ev_s (is_iconst (nI 1) rfl rfl) ?_
      refine ev_ret (is_ireturn rfl rfl (by first | rfl | exact pu_b_nar | decide)) ?_
      exact ⟨pu_b_t hs, rfl, rfl, rfl⟩
    · rw [e] at hs ⊢
      refine ev_s (is_tsw 120 rfl (by decide)) ?_
      refine ev_s (is_iconst (nI 1) rfl rfl) ?_
      refine ev_ret (is_ireturn rfl rfl (by first | rfl | exact pu_b_nar | decide)) ?_
      exact ⟨pu_b_t hs, rfl, rfl, rfl⟩
    · rw [e] at hs ⊢
      refine ev_s (is_tsw 120 rfl (by decide)) ?_
      refine ev_s (is_iconst (nI 1) rfl rfl) ?_
      refine ev_ret (is_ireturn rfl rfl (by first | rfl | exact pu_b_nar | decide)) ?_
      exact ⟨pu_b_t hs, rfl, rfl, rfl⟩
    · rw [e] at hs ⊢
      refine ev_s (is_tsw 120 rfl (by decide)) ?_
      refine ev_s (is_iconst (nI 1) rfl rfl) ?_
      refine ev_ret (is_ireturn rfl rfl (by first | rfl | exact pu_b_nar | decide)) ?_
      exact ⟨pu_b_t hs, rfl, rfl, rfl⟩
    · rw [e] at hs ⊢
      refine ev_s (is_tsw 120 rfl (by decide)) ?_
      refine ev_s (is_iconst (nI 1) rfl rfl) ?_
      refine ev_ret (is_ireturn rfl rfl (by first | rfl | exact pu_b_nar | decide)) ?_
      exact ⟨pu_b_t hs, rfl, rfl, rfl⟩
  · have hns : tb i ≠ 40 ∧ tb i ≠ 41 ∧ tb i ≠ 42 ∧ tb i ≠ 43 ∧ tb i ≠ 45 ∧ tb i ≠ 59 ∧ tb i ≠ 60 ∧ tb i ≠ 61 := by have h40 := Bool.eq_false_iff.mpr hs; have := of_decide_eq_false h40; omega
    by_cases hr : 40 ≤ tb i ∧ tb i ≤ 61
    · rcases (show tb i = 44 ∨ tb i = 46 ∨ tb i = 47 ∨ tb i = 48 ∨ tb i = 49 ∨ tb i = 50 ∨ tb i = 51 ∨ tb i = 52 ∨ tb i = 53 ∨ tb i = 54 ∨ tb i = 55 ∨ tb i = 56 ∨ tb i = 57 ∨ tb i = 58 from by omega) with e | e | e | e | e | e | e | e | e | e | e | e | e | e
      · rw [e] at hs ⊢
        refine ev_s (is_tsw 122 rfl (by decide)) ?_
        refine ev_s (is_iconst (nI 0) rfl rfl) ?_
        refine ev_ret (is_ireturn rfl rfl (by first | rfl | exact pu_b_nar | decide)) ?_
        exact ⟨pu_b_f hs, rfl, rfl, rfl⟩
      · rw [e] at hs ⊢
        refine ev_s (is_tsw 122 rfl (by decide)) ?_
        refine ev_s (is_iconst (nI 0) rfl rfl) ?_
        refine ev_ret (is_ireturn rfl rfl (by first | rfl | exact pu_b_nar | decide)) ?_
        exact ⟨pu_b_f hs, rfl, rfl, rfl⟩
      · rw [e] at hs ⊢
        refine ev_s (is_tsw 122 rfl (by decide)) ?_
        refine ev_s (is_iconst (nI 0) rfl rfl) ?_
        refine ev_ret (is_ireturn rfl rfl (by first | rfl | exact pu_b_nar | decide)) ?_
        exact ⟨pu_b_f hs, rfl, rfl, rfl⟩
      · rw [e] at hs ⊢
        refine ev_s (is_tsw 122 rfl (by decide)) ?_
        refine ev_s (is_iconst (nI 0) rfl rfl) ?_
        refine ev_ret (is_ireturn rfl rfl (by first | rfl | exact pu_b_nar | decide)) ?_
        exact ⟨pu_b_f hs, rfl, rfl, rfl⟩
      · rw [e] at hs ⊢
        refine ev_s (is_tsw 122 rfl (by decide)) ?_
        refine ev_s (is_iconst (nI 0) rfl rfl) ?_
        refine ev_ret (is_ireturn rfl rfl (by first | rfl | exact pu_b_nar | decide)) ?_
        exact ⟨pu_b_f hs, rfl, rfl, rfl⟩
      · rw [e] at hs ⊢
        refine ev_s (is_tsw 122 rfl (by decide)) ?_
        refine ev_s (is_iconst (nI 0) rfl rfl) ?_
        refine ev_ret (is_ireturn rfl rfl (by first | rfl | exact pu_b_nar | decide)) ?_
        exact ⟨pu_b_f hs, rfl, rfl, rfl⟩
      · rw [e] at hs ⊢
        refine ev_s (is_tsw 122 rfl (by decide)) ?_
        refine ev_s (is_iconst (nI 0) rfl rfl) ?_
        refine ev_ret (is_ireturn rfl rfl (by first | rfl | exact pu_b_nar | decide)) ?_
        exact ⟨pu_b_f hs, rfl, rfl, rfl⟩
      · rw [e] at hs ⊢
        refine ev_s (is_tsw 122 rfl (by decide)) ?_
        refine ev_s (is_iconst (nI 0) rfl rfl) ?_
        refine ev_ret (is_ireturn rfl rfl (by first | rfl | exact pu_b_nar | decide)) ?_
        exact ⟨pu_b_f hs, rfl, rfl, rfl⟩
      · rw [e] at hs ⊢
        refine ev_s (is_tsw 122 rfl (by decide)) ?_
        refine ev_s (is_iconst (nI 0) rfl rfl) ?_
        refine ev_ret (is_ireturn rfl rfl (by first | rfl | exact pu_b_nar | decide)) ?_
        exact ⟨pu_b_f hs, rfl, rfl, rfl⟩
      · rw [e] at hs ⊢
        refine ev_s (is_tsw 122 rfl (by decide)) ?_
        refine ev_s (is_iconst (nI 0) rfl rfl) ?_
        refine ev_ret (is_ireturn rfl rfl (by first | rfl | exact pu_b_nar | decide)) ?_
        exact ⟨pu_b_f hs, rfl, rfl, rfl⟩
      · rw [e] at hs ⊢
        refine ev_s (is_tsw 122 rfl (by decide)) ?_
        refine ev_s (is_iconst (nI 0) rfl rfl) ?_
        refine ev_ret (is_ireturn rfl rfl (by first | rfl | exact pu_b_nar | decide)) ?_
        exact ⟨pu_b_f hs, rfl, rfl, rfl⟩
      · rw [e] at hs ⊢
        refine ev_s (is_tsw 122 rfl (by decide)) ?_
        refine ev_s (is_iconst (nI 0) rfl rfl) ?_
        refine ev_ret (is_ireturn rfl rfl (by first | rfl | exact pu_b_nar | decide)) ?_
        exact ⟨pu_b_f hs, rfl, rfl, rfl⟩
      · rw [e] at hs ⊢
        refine ev_s (is_tsw 122 rfl (by decide)) ?_
        refine ev_s (is_iconst (nI 0) rfl rfl) ?_
        refine ev_ret (is_ireturn rfl rfl (by first | rfl | exact pu_b_nar | decide)) ?_
        exact ⟨pu_b_f hs, rfl, rfl, rfl⟩
      · rw [e] at hs ⊢
        refine ev_s (is_tsw 122 rfl (by decide)) ?_
        refine ev_s (is_iconst (nI 0) rfl rfl) ?_
        refine ev_ret (is_ireturn rfl rfl (by first | rfl | exact pu_b_nar | decide)) ?_
        exact ⟨pu_b_f hs, rfl, rfl, rfl⟩
    · refine ev_s (is_tswD 122 rfl (by rw [nI_toInt (by omega)]; omega) (by decide)) ?_
      refine ev_s (is_iconst (nI 0) rfl rfl) ?_
      refine ev_ret (is_ireturn rfl rfl (by first | rfl | exact pu_b_nar | decide)) ?_
      exact ⟨pu_b_f hs, rfl, rfl, rfl⟩
