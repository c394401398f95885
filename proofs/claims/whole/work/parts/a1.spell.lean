/-! ===== PURE, the class is made ===== -/
def lb_l : List Nat := [99, 111, 117, 110, 116, 115, 32, 109, 105, 110, 101, 32, 42, 32, 104, 105, 115, 32, 59, 32, 112, 97, 121, 115, 32, 57, 32, 59, 32, 115, 101, 101, 115, 32, 50, 48, 32, 59]
def lb_ (j : Nat) : Nat := lb_l.getD j 0
theorem lb_lt : ∀ j, j < 38 → lb_ j < 128 := by decide
/-- the law's own letters -/
def xl_C (sh : im_Sh) (mr : im_MR) : Prop := sh[3]? = some (20, 2) ∧ sh[16]? = some (204, 38) ∧ mr 3 0 = some 16
def xl_M (mi : im_MI) : Prop := mi 3 1 = nI 0 ∧ ∀ j, j < 38 → mi 16 j = nI (lb_ j)
theorem xl_coder {d : Nat} {sh : im_Sh} {mi : im_MI} {mr : im_MR} (hC : xl_C sh mr) (hT : xl_M mi) : EvM (d) 212 [.ref 3] sh mi mr (ev_R sh (.int (nI 0)) mi mr) := by
  show Ev (d) 212 0 [.ref 3] [] sh mi mr _
  refine ev_s (is_getsC rfl) ?_
  refine ev_s (is_if_eq_f rfl (by decide)) ?_
  refine ev_s (is_aload_n rfl rfl) ?_
  refine ev_s (is_getI' rfl hC.1 rfl rfl hT.1) ?_
  refine ev_s (is_goto rfl) ?_
  refine ev_ret (is_ireturn rfl rfl (by first | rfl | exact pu_b_nar | decide)) ?_
  exact ⟨rfl, rfl, rfl, rfl⟩
theorem xl_latin {d : Nat} {sh : im_Sh} {mi : im_MI} {mr : im_MR} (hC : xl_C sh mr) (hT : xl_M mi) : EvM (d) 213 [.ref 3] sh mi mr (ev_R sh (.int (nI 1)) mi mr) := by
  show Ev (d) 213 0 [.ref 3] [] sh mi mr _
  refine ev_s (is_getsC rfl) ?_
  refine ev_s (is_if_eq_f rfl (by decide)) ?_
  refine ev_s (is_aload_n rfl rfl) ?_
  refine ev_s (is_getI' rfl hC.1 rfl rfl hT.1) ?_
  refine ev_s (is_if_ne_f rfl (by decide)) ?_
  refine ev_s (is_iconst (nI 1) rfl rfl) ?_
  refine ev_s (is_goto rfl) ?_
  refine ev_ret (is_ireturn rfl rfl (by first | rfl | exact pu_b_nar | decide)) ?_
  exact ⟨rfl, rfl, rfl, rfl⟩
theorem xl_length {d : Nat} {sh : im_Sh} {mi : im_MI} {mr : im_MR} (hC : xl_C sh mr) (hT : xl_M mi) : EvM (d + 1) 210 [.ref 3] sh mi mr (ev_R sh (.int (nI 38)) mi mr) := by
  show Ev (d + 1) 210 0 [.ref 3] [] sh mi mr _
  refine ev_s (is_aload_n rfl rfl) ?_
  refine ev_s (is_getR rfl hC.1 rfl rfl hC.2.2) ?_
  refine ev_s (is_alen rfl hC.2.1 (by decide)) ?_
  refine ev_s (is_aload_n rfl rfl) ?_
  refine ev_c1 (is_callR 1 [] [_] rfl rfl rfl rfl rfl (Nat.le_of_ble_eq_true rfl) rfl rfl rfl hC.1) rfl rfl (xl_coder hC hT) ?_
  refine ev_s (is_ishr _ rfl (nI_shr0 (by decide))) ?_
  refine ev_ret (is_ireturn rfl rfl (by first | rfl | exact pu_b_nar | decide)) ?_
  exact ⟨rfl, rfl, rfl, rfl⟩
theorem xl_char1 {d : Nat} {sh : im_Sh} {mi : im_MI} {mr : im_MR} (hC : xl_C sh mr) (hT : xl_M mi) {j : Nat} (hj : j < 38) : EvM (d + 2) 215 [.ref 16, .int (nI j)] sh mi mr (ev_R sh (.int (nI (lb_ j))) mi mr) := by
  show Ev (d + 2) 215 0 [.ref 16, .int (nI j)] [] sh mi mr _
  refine ev_s (is_iload_n rfl rfl) ?_
  refine ev_s (is_aload_n rfl rfl) ?_
  refine ev_s (is_alen rfl hC.2.1 (by decide)) ?_
  refine ev_q0 (is_call0 2 [_, _] [] rfl rfl rfl rfl rfl (Nat.le_of_ble_eq_true rfl) rfl rfl rfl) rfl rfl (xj_chk0 hj (by decide)) (fun r_3 mi mr hq_3 => ?_)
  obtain ⟨hm_3, hr_3⟩ := hq_3
  subst hm_3
  subst hr_3
  refine ev_s (is_aload_n rfl rfl) ?_
  refine ev_s (is_iload_n rfl rfl) ?_
  refine ev_s (is_baload j rfl hC.2.1 (Nat.ble_eq.mpr (by decide)) rfl hj) ?_
  rw [hT.2 j hj]
  refine ev_s (is_sipush (nI 255) rfl rfl) ?_
  have hc := lb_lt j hj
  refine ev_s (is_iand (nI (lb_ j)) rfl ((pk_andN (by omega) 8 (by decide)).trans (by rw [Nat.mod_eq_of_lt (by omega)]))) ?_
  refine ev_s (is_i2c _ rfl (pu_i2c (by omega))) ?_
  refine ev_ret (is_ireturn rfl rfl (congrArg Value.int (pu_nc (by have := lb_lt j hj; omega)))) ?_
  exact ⟨rfl, rfl, rfl, rfl⟩
theorem xl_charAt {d : Nat} {sh : im_Sh} {mi : im_MI} {mr : im_MR} (hC : xl_C sh mr) (hT : xl_M mi) {j : Nat} (hj : j < 38) : EvM (d + 3) 211 [.ref 3, .int (nI j)] sh mi mr (ev_R sh (.int (nI (lb_ j))) mi mr) := by
  show Ev (d + 3) 211 0 [.ref 3, .int (nI j)] [] sh mi mr _
  refine ev_s (is_aload_n rfl rfl) ?_
  refine ev_c1 (is_callR 1 [] [] rfl rfl rfl rfl rfl (Nat.le_of_ble_eq_true rfl) rfl rfl rfl hC.1) rfl rfl (xl_latin hC hT) ?_
  refine ev_s (is_if_eq_f rfl (by decide)) ?_
  refine ev_s (is_aload_n rfl rfl) ?_
  refine ev_s (is_getR rfl hC.1 rfl rfl hC.2.2) ?_
  refine ev_s (is_iload_n rfl rfl) ?_
  refine ev_c1 (is_call0 2 [_, _] [] rfl rfl rfl rfl rfl (Nat.le_of_ble_eq_true rfl) rfl rfl rfl) rfl rfl (xl_char1 hC hT hj) ?_
  refine ev_ret (is_ireturn rfl rfl (congrArg Value.int (pu_nc (by have := lb_lt j hj; omega)))) ?_
  exact ⟨rfl, rfl, rfl, rfl⟩
theorem xl_add {d : Nat} {sh : im_Sh} {mi : im_MI} {mr : im_MR} (h33 : sh[33]? = some (5, 2)) (h34 : sh[34]? = some (101, 160)) (hr : mr 33 0 = some 34) {s v : Nat} (hsz : mi 33 1 = nI s) (hs : s < 160) (hv : v < 256) : EvM (d) 30 [.ref 33, .int (nI v)] sh mi mr (fun r sh2 m2 r2 => sh2 = sh ∧ (m2 = im_u (im_u mi 33 1 (nI (s + 1))) 34 s (nI v) ∧ r2 = mr)) := by
  show Ev (d) 30 0 [.ref 33, .int (nI v)] [] sh mi mr _
  refine ev_s (is_aload_n rfl rfl) ?_
  refine ev_s (is_getI' rfl h33 rfl rfl hsz) ?_
  refine ev_s (is_sipush (nI 160) rfl rfl) ?_
  refine ev_s (is_icmp_ge_f rfl (nI_ge (by omega) (by omega))) ?_
  refine ev_s (is_aload_n rfl rfl) ?_
  refine ev_s (is_getR rfl h33 rfl rfl hr) ?_
  refine ev_s (is_aload_n rfl rfl) ?_
  refine ev_s (is_dup rfl rfl) ?_
  refine ev_s (is_getI' rfl h33 rfl rfl hsz) ?_
  refine ev_s (is_dup_x1 rfl rfl rfl) ?_
  refine ev_s (is_iconst (nI 1) rfl rfl) ?_
  first
    | refine ev_s (is_iadd _ rfl (nI_add _ _)) ?_
    | refine ev_s (is_iadd _ rfl rfl) ?_
  refine ev_s (is_putI rfl h33 rfl rfl rfl) ?_
  refine ev_s (is_iload_n rfl rfl) ?_
  refine ev_s (is_i2c (nI v) rfl (pu_i2c (by omega))) ?_
  refine ev_s (is_castoreN s rfl h34 rfl rfl (by omega) (by omega)) ?_
  refine ev_ret (is_return rfl) ?_
  exact ⟨rfl, rfl, rfl⟩
/-- the tape spells the law -/
def sp_ : Nat → im_MI → im_MI
  | 0, mi => mi
  | i + 1, mi => im_u (im_u (sp_ i mi) 33 1 (nI (i + 1))) 34 i (nI (lb_ i))
theorem sp_row {mi : im_MI} {k : Nat} (h3 : k ≠ 33) (h4 : k ≠ 34) : ∀ i, sp_ i mi k = mi k
  | 0 => rfl
  | i + 1 => by
    show im_u (im_u (sp_ i mi) _ _ _) _ _ _ k = _
    rw [im_u_ne _ _ _ _ h4, im_u_ne _ _ _ _ h3]
    exact sp_row h3 h4 i
theorem sp_33 {mi : im_MI} (h : mi 33 1 = nI 0) : ∀ i, sp_ i mi 33 1 = nI i
  | 0 => h
  | i + 1 => by
    show im_u (im_u (sp_ i mi) _ _ _) _ _ _ 33 1 = _
    rw [im_u_k _ _ _ _ (by decide), im_u_s]
theorem sp_34 {mi : im_MI} : ∀ i j, j < i → sp_ i mi 34 j = nI (lb_ j)
  | 0, j, h => absurd h (Nat.not_lt_zero _)
  | i + 1, j, h => by
    show im_u (im_u (sp_ i mi) _ _ _) _ _ _ 34 j = _
    by_cases c : j = i
    · subst c; rw [im_u_s]
    · rw [im_u_j _ _ _ _ c, im_u_k _ _ _ _ (by decide)]
      exact sp_34 i j (by omega)
theorem xl_M_sp {mi : im_MI} (h : xl_M mi) (i : Nat) : xl_M (sp_ i mi) := by
  unfold xl_M
  rw [sp_row (by decide) (by decide), sp_row (by decide) (by decide)]
  exact h
theorem xl_spell {d : Nat} {sh : im_Sh} {mi0 : im_MI} {mr : im_MR} (hC : xl_C sh mr) (hT : xl_M mi0) (h33 : sh[33]? = some (5, 2)) (h34 : sh[34]? = some (101, 160)) (hr : mr 33 0 = some 34) (h0 : mi0 33 1 = nI 0) : EvM (d + 4) 31 [.ref 33, .ref 3] sh mi0 mr (fun r sh2 m2 r2 => sh2 = sh ∧ (m2 = sp_ 38 mi0 ∧ r2 = mr)) := by
  show Ev (d + 4) 31 0 [.ref 33, .ref 3, im_bad] [] sh mi0 mr _
  have loop : ∀ (j i : Nat), i + j = 38 → Ev (d + 4) 31 2 [.ref 33, .ref 3, .int (nI i)] [] sh (sp_ i mi0) mr (fun r sh2 m2 r2 => sh2 = sh ∧ (m2 = sp_ 38 mi0 ∧ r2 = mr)) := by
    intro j
    induction j with
    | zero =>
      intro i hi
      obtain rfl : i = 38 := hi
      refine ev_s (is_iload_n rfl rfl) ?_
      refine ev_s (is_aload_n rfl rfl) ?_
      refine ev_c1 (is_callR 1 [] [_] rfl rfl rfl rfl rfl (Nat.le_of_ble_eq_true rfl) rfl rfl rfl hC.1) rfl rfl (xl_length hC (xl_M_sp hT _)) ?_
      refine ev_s (is_icmp_ge_t rfl (nI_le (by omega) (by omega))) ?_
      refine ev_ret (is_return rfl) ?_
      exact ⟨rfl, rfl, rfl⟩
    | succ j ih =>
      intro i hi
      refine ev_s (is_iload_n rfl rfl) ?_
      refine ev_s (is_aload_n rfl rfl) ?_
      refine ev_c1 (is_callR 1 [] [_] rfl rfl rfl rfl rfl (Nat.le_of_ble_eq_true rfl) rfl rfl rfl hC.1) rfl rfl (xl_length hC (xl_M_sp hT _)) ?_
      refine ev_s (is_icmp_ge_f rfl (nI_ge (by omega) (by omega))) ?_
      refine ev_s (is_aload_n rfl rfl) ?_
      refine ev_s (is_aload_n rfl rfl) ?_
      refine ev_s (is_iload_n rfl rfl) ?_
      refine ev_c1 (is_callR 2 [_] [_] rfl rfl rfl rfl rfl (Nat.le_of_ble_eq_true rfl) rfl rfl rfl hC.1) rfl rfl (xl_charAt hC (xl_M_sp hT _) (j := i) (by omega)) ?_
      refine ev_q0 (is_callR 2 [_] [] rfl rfl rfl rfl rfl (Nat.le_of_ble_eq_true rfl) rfl rfl rfl h33) rfl rfl (xl_add h33 h34 hr (sp_33 h0 i) (by omega) (by have := lb_lt i (by omega); omega)) (fun r_16 mi mr hq_16 => ?_)
      obtain ⟨hm_16, hr_16⟩ := hq_16
      subst hm_16
      subst hr_16
      refine ev_s (st_iinc_2 _ rfl rfl (nI_inc _)) ?_
      refine ev_s (is_goto rfl) ?_
      exact ih (i + 1) (by omega)
  refine ev_s (is_iconst (nI 0) rfl rfl) ?_
  refine ev_s (st_istore_n_2 rfl rfl) ?_
  exact loop 38 0 rfl
