/-! ===== PURE, the reference: a part is read as the machine of signs reads it ===== -/
def bw_ (b : Bool) : Nat := if b = true then 1 else 0
/-- what reading a part ends with -/
def eq_ (t : Nat) (a : pd_R) (r : Value) (m2 : im_MI) : Prop := match a with
  | .inl f => r = .int (nI 0) ∧ m2 110 19 = nI f
  | .inr q => r = .int (nI 1) ∧ m2 110 18 = nI q.1 ∧ ro_ t m2 q.2
theorem nI_ne_m1 {x : Nat} (h : x < 2 ^ 31) : ¬ nI x = -1 := fun q => by
  have h1 : (-1 : Int32).toInt = -1 := by decide
  rw [← q, nI_toInt h] at h1
  omega
theorem ro_o {t : Nat} {mi m2 : im_MI} {C : List Nat} (h : ro_ t mi C) (h1 : m2 115 = mi 115) (h2 : m2 110 26 = mi 110 26) : ro_ t m2 C := ⟨by rw [h2]; exact h.1, fun k hk => by rw [h1]; exact h.2 k hk⟩
theorem rp_tr {a b c : im_MI} (h1 : rp_ a b) (h2 : rp_ b c) : rp_ a c := fun j q1 q2 => (h2 j q1 q2).trans (h1 j q1 q2)
theorem op_all_s {k : Nat} (h : op_all k ≠ 0) : op_all k = 11 ∨ op_all k = 12 ∨ op_all k = 14 ∨ op_all k = 15 ∨ op_all k = 16 ∨ op_all k = 17 ∨ op_all k = 18 := by
  unfold op_all at h ⊢
  revert h
  repeat' split
  all_goals simp
theorem ya_cn_le : ∀ S : List Nat, ya_cn S ≤ S.length
  | [] => Nat.le_refl _
  | x :: S => by
    have := ya_cn_le S
    show (if x = 0 ∨ x = 13 ∨ x = 19 then 1 else 0) + ya_cn S ≤ S.length + 1
    split <;> omega
theorem re_eReadL {d : Nat} {sh : im_Sh} {mr : im_MR} {mi0 : im_MI} (hC : pu_C sh mr) {tb : Nat → Nat} {z t : Nat} (hT : re_M mi0 tb z) (ht : t < 6) : ∀ (n p : Nat) (C S : List Nat) (w m : Bool) (a : pd_R) (mi : im_MI) (v3 : Value), ya_run (tk_k tb z) (tk_v tb z) (tk_f tb z) (tk_t tb z) n (p, C, S, w, m) = some a → rq_ t mi0 mi → p ≤ z → mi 110 18 = nI p → mi 110 9 = nI t → ro_ t mi C → rs_ mi S → C.length + S.length ≤ p → Ev (d + 3) 148 14 [.ref 110, .int (nI (bw_ w)), .int (nI (bw_ m)), v3] [] sh mi mr (fun r sh2 m2 r2 => sh2 = sh ∧ (r2 = mr ∧ rq_ t mi0 m2 ∧ eq_ t a r m2)) := by
  intro n
  induction n with
  | zero =>
    intro p C S w m a mi v3 hr
    cases hr
  | succ n ih =>
    intro p C S w m a mi v3 hr hq hp h18 h9 ho hs hlen
    have hz1 := hT.2.2.1
    have hcn : ya_cn S < 2 ^ 31 := by have := ya_cn_le S; omega
    cases w with
    | true =>
      cases m with
      | true =>
        by_cases c5 : ya_cn S = 5
        · refine ev_s (is_aload_n rfl rfl) ?_
          refine ev_q0 (is_callR 1 [] [] rfl rfl rfl rfl rfl (Nat.le_of_ble_eq_true rfl) rfl rfl rfl (pu_s hC 110 rfl rfl)) rfl rfl (re_next hC (re_M_q hT hq) hp h18) (fun r_15 mi mr hq_15 => ?_)
          obtain ⟨rfl, hn, hk⟩ := hq_15
          have hqn := rq_tr hq (rn_q (t := t) hn)
          have h9n : mi 110 9 = nI t := by rw [hn.2 9 (by decide)]; exact h9
          have hon := ro_n ho hn
          have hsn := rs_n hs hn
          have hTn := re_M_q hT hqn
          have hk256 := tk_lt (tb := tb) (z := z) hT.2.2.2.1 p
          refine ev_s (is_iload_n rfl rfl) ?_
          refine ev_s (is_if_eq_f rfl (by decide)) ?_
          refine ev_s (is_aload_n rfl rfl) ?_
          refine ev_s (is_getI' rfl (pu_s hC 110 rfl rfl) rfl rfl hk.2.2.1) ?_
          refine ev_s (is_iconst (nI 1) rfl rfl) ?_
          refine ev_tk_eq rfl (rt_e2 (by omega)) (fun h_27 => ?_) (fun h_27 => ?_)
          · have hT2 := tk_T (tb := tb) (z := z) hT.2.2.1 p hp (by omega)
            refine ev_s (is_aload_n rfl rfl) ?_
            refine ev_s (is_aload_n rfl rfl) ?_
            refine ev_s (is_getI' rfl (pu_s hC 110 rfl rfl) rfl rfl hk.2.2.1) ?_
            refine ev_s (is_iconst (nI 1) rfl rfl) ?_
            refine ev_tk_ne rfl (rt_e2 (by omega)) (fun h_44 => ?_) (fun h_44 => ?_)
            · first
                | (exfalso; omega)
                | (
                   refine ev_s (is_aload_n rfl rfl) ?_
                   refine ev_s (is_getI' rfl (pu_s hC 110 rfl rfl) rfl rfl (hk.2.2.2.1 (by omega))) ?_
                   refine ev_q0 (is_callR 2 [_] [] rfl rfl rfl rfl rfl (Nat.le_of_ble_eq_true rfl) rfl rfl rfl (pu_s hC 110 rfl rfl)) rfl rfl (re_puts hC ht h9n hon (by omega) _) (fun r_61 mi mr hq_61 => ?_)
                   obtain ⟨rfl, hq1, ho2, hp1, h124, h110⟩ := hq_61
                   have hcode : ro_ t mi (C ++ [pd_code (tk_k tb z) (tk_v tb z) p]) := by
                     first
                       | (rw [show pd_code (tk_k tb z) (tk_v tb z) p = 100000 + tk_v tb z p from if_pos (by omega)]; exact ho2)
                       | (rw [show pd_code (tk_k tb z) (tk_v tb z) p = tk_v tb z p from if_neg (by omega)]; exact ho2)
                   have h9b : mi 110 9 = nI t := by rw [hq1.2.1 9 (by decide)]; exact h9n
                   have hs3 : rs_ mi S := ⟨by rw [h110 24 (by decide)]; exact hsn.1, fun j hj => by rw [h124]; exact hsn.2.1 j hj, by rw [h110 25 (by decide)]; exact hsn.2.2.1, hsn.2.2.2⟩
                   refine ev_s (is_aload_n rfl rfl) ?_
                   refine ev_s (is_bipush (nI 7) rfl rfl) ?_
                   refine ev_q0 (is_callR 2 [_] [] rfl rfl rfl rfl rfl (Nat.le_of_ble_eq_true rfl) rfl rfl rfl (pu_s hC 110 rfl rfl)) rfl rfl (re_unw hC ht (L := 7) (by decide) (by decide) (by rw [List.length_append]; show C.length + 1 + S.length < 200; omega) h9b hcode hs3) (fun r_67 mi mr hq_67 => ?_)
                   obtain ⟨rfl, hq2, ho4, hs4, hp2⟩ := hq_67
                   refine ev_s (is_iconst (nI 0) rfl rfl) ?_
                   refine ev_s (st_istore_n_1 rfl rfl) ?_
                   refine ev_s (is_goto rfl) ?_
                   have hst : ya_step (tk_k tb z) (tk_v tb z) (tk_f tb z) (tk_t tb z) (p, C, S, true, true) = .inl (tk_t tb z p, (ya_unw 7 (C ++ [pd_code (tk_k tb z) (tk_v tb z) p]) S).1, (ya_unw 7 (C ++ [pd_code (tk_k tb z) (tk_v tb z) p]) S).2, false, true) := by
                     show ya_want (tk_k tb z) (tk_v tb z) (tk_f tb z) (tk_t tb z) p C S true = _
                     unfold ya_want
                     rw [if_pos (by omega)]
                   rw [run_s hst] at hr
                   exact ih _ _ _ _ _ a _ _ hr (rq_tr (rq_tr hqn hq1) hq2) hT2.2 ((rk_p (rk_p hk hp1) hp2).1) (by rw [hq2.2.1 9 (by decide)]; exact h9b) (ho4) (hs4) (by have := unw_len (L := 7) S (C ++ [pd_code (tk_k tb z) (tk_v tb z) p]); rw [List.length_append] at this; have h1 : [pd_code (tk_k tb z) (tk_v tb z) p].length = 1 := rfl; omega)
                  )
            · first
                | (exfalso; omega)
                | (
                   refine ev_s (is_ldcI (nI 100000) rfl rfl) ?_
                   refine ev_s (is_aload_n rfl rfl) ?_
                   refine ev_s (is_getI' rfl (pu_s hC 110 rfl rfl) rfl rfl (hk.2.2.2.1 (by omega))) ?_
                   first
                     | refine ev_s (is_iadd _ rfl (nI_add _ _)) ?_
                     | refine ev_s (is_iadd _ rfl rfl) ?_
                   refine ev_s (is_goto rfl) ?_
                   refine ev_q0 (is_callR 2 [_] [] rfl rfl rfl rfl rfl (Nat.le_of_ble_eq_true rfl) rfl rfl rfl (pu_s hC 110 rfl rfl)) rfl rfl (re_puts hC ht h9n hon (by omega) _) (fun r_61 mi mr hq_61 => ?_)
                   obtain ⟨rfl, hq1, ho2, hp1, h124, h110⟩ := hq_61
                   have hcode : ro_ t mi (C ++ [pd_code (tk_k tb z) (tk_v tb z) p]) := by
                     first
                       | (rw [show pd_code (tk_k tb z) (tk_v tb z) p = 100000 + tk_v tb z p from if_pos (by omega)]; exact ho2)
                       | (rw [show pd_code (tk_k tb z) (tk_v tb z) p = tk_v tb z p from if_neg (by omega)]; exact ho2)
                   have h9b : mi 110 9 = nI t := by rw [hq1.2.1 9 (by decide)]; exact h9n
                   have hs3 : rs_ mi S := ⟨by rw [h110 24 (by decide)]; exact hsn.1, fun j hj => by rw [h124]; exact hsn.2.1 j hj, by rw [h110 25 (by decide)]; exact hsn.2.2.1, hsn.2.2.2⟩
                   refine ev_s (is_aload_n rfl rfl) ?_
                   refine ev_s (is_bipush (nI 7) rfl rfl) ?_
                   refine ev_q0 (is_callR 2 [_] [] rfl rfl rfl rfl rfl (Nat.le_of_ble_eq_true rfl) rfl rfl rfl (pu_s hC 110 rfl rfl)) rfl rfl (re_unw hC ht (L := 7) (by decide) (by decide) (by rw [List.length_append]; show C.length + 1 + S.length < 200; omega) h9b hcode hs3) (fun r_67 mi mr hq_67 => ?_)
                   obtain ⟨rfl, hq2, ho4, hs4, hp2⟩ := hq_67
                   refine ev_s (is_iconst (nI 0) rfl rfl) ?_
                   refine ev_s (st_istore_n_1 rfl rfl) ?_
                   refine ev_s (is_goto rfl) ?_
                   have hst : ya_step (tk_k tb z) (tk_v tb z) (tk_f tb z) (tk_t tb z) (p, C, S, true, true) = .inl (tk_t tb z p, (ya_unw 7 (C ++ [pd_code (tk_k tb z) (tk_v tb z) p]) S).1, (ya_unw 7 (C ++ [pd_code (tk_k tb z) (tk_v tb z) p]) S).2, false, true) := by
                     show ya_want (tk_k tb z) (tk_v tb z) (tk_f tb z) (tk_t tb z) p C S true = _
                     unfold ya_want
                     rw [if_pos (by omega)]
                   rw [run_s hst] at hr
                   exact ih _ _ _ _ _ a _ _ hr (rq_tr (rq_tr hqn hq1) hq2) hT2.2 ((rk_p (rk_p hk hp1) hp2).1) (by rw [hq2.2.1 9 (by decide)]; exact h9b) (ho4) (hs4) (by have := unw_len (L := 7) S (C ++ [pd_code (tk_k tb z) (tk_v tb z) p]); rw [List.length_append] at this; have h1 : [pd_code (tk_k tb z) (tk_v tb z) p].length = 1 := rfl; omega)
                  )
          · refine ev_s (is_aload_n rfl rfl) ?_
            refine ev_s (is_getI' rfl (pu_s hC 110 rfl rfl) rfl rfl hk.2.2.1) ?_
            refine ev_s (is_iconst (nI 2) rfl rfl) ?_
            refine ev_tk_ne rfl (rt_e3 (by omega)) (fun h_35 => ?_) (fun h_35 => ?_)
            · refine ev_s (is_aload_n rfl rfl) ?_
              refine ev_s (is_getI' rfl (pu_s hC 110 rfl rfl) rfl rfl hk.2.2.1) ?_
              refine ev_s (is_bipush (nI 6) rfl rfl) ?_
              refine ev_tk_ne rfl (rt_e9 (by omega)) (fun h_81 => ?_) (fun h_81 => ?_)
              · refine ev_s (is_aload_n rfl rfl) ?_
                refine ev_s (is_getI' rfl (pu_s hC 110 rfl rfl) rfl rfl hk.2.2.1) ?_
                refine ev_s (is_bipush (nI 45) rfl rfl) ?_
                refine ev_tk_ne rfl (rt_x (q := 45) (by decide) (by omega)) (fun h_105 => ?_) (fun h_105 => ?_)
                · refine ev_s (is_aload_n rfl rfl) ?_
                  refine ev_s (is_getI' rfl (pu_s hC 110 rfl rfl) rfl rfl hk.2.2.1) ?_
                  refine ev_s (is_bipush (nI 40) rfl rfl) ?_
                  refine ev_tk_ne rfl (rt_x (q := 40) (by decide) (by omega)) (fun h_130 => ?_) (fun h_130 => ?_)
                  · refine ev_s (is_iconst (nI 0) rfl rfl) ?_
                    refine ev_ret (is_ireturn rfl rfl (by first | rfl | exact pu_b_nar | decide)) ?_
                    have hst : ya_step (tk_k tb z) (tk_v tb z) (tk_f tb z) (tk_t tb z) (p, C, S, true, true) = .inr (.inl (tk_f tb z p)) := by
                      show ya_want (tk_k tb z) (tk_v tb z) (tk_f tb z) (tk_t tb z) p C S true = _
                      unfold ya_want
                      rw [if_neg (by omega), if_neg (fun q => by omega), if_neg (by omega), if_neg (by omega)]
                    rw [run_e hst] at hr
                    obtain rfl := Option.some.inj hr
                    exact ⟨rfl, rfl, hqn, rfl, hk.2.1⟩
                  · have hT2 := tk_T (tb := tb) (z := z) hT.2.2.1 p hp (by omega)
                    refine ev_s (is_aload_n rfl rfl) ?_
                    refine ev_s (is_iconst (nI 0) rfl rfl) ?_
                    refine ev_c1 (is_callR 2 [_] [] rfl rfl rfl rfl rfl (Nat.le_of_ble_eq_true rfl) rfl rfl rfl (pu_s hC 110 rfl rfl)) rfl rfl (re_openN hC hsn c5 0) ?_
                    refine ev_s (is_if_ne_f rfl (by decide)) ?_
                    refine ev_s (is_iconst (nI 0) rfl rfl) ?_
                    refine ev_ret (is_ireturn rfl rfl (by first | rfl | exact pu_b_nar | decide)) ?_
                    have hst : ya_step (tk_k tb z) (tk_v tb z) (tk_f tb z) (tk_t tb z) (p, C, S, true, true) = .inr (.inl (tk_f tb z p)) := by
                      show ya_want (tk_k tb z) (tk_v tb z) (tk_f tb z) (tk_t tb z) p C S true = _
                      unfold ya_want
                      rw [if_neg (by omega), if_neg (fun q => by omega), if_neg (by omega), if_pos (by omega), opn_no c5]
                    rw [run_e hst] at hr
                    obtain rfl := Option.some.inj hr
                    exact ⟨rfl, rfl, hqn, rfl, hk.2.1⟩
                · have hT2 := tk_T (tb := tb) (z := z) hT.2.2.1 p hp (by omega)
                  refine ev_s (is_aload_n rfl rfl) ?_
                  refine ev_s (is_bipush (nI 19) rfl rfl) ?_
                  refine ev_c1 (is_callR 2 [_] [] rfl rfl rfl rfl rfl (Nat.le_of_ble_eq_true rfl) rfl rfl rfl (pu_s hC 110 rfl rfl)) rfl rfl (re_openN hC hsn c5 19) ?_
                  refine ev_s (is_if_ne_f rfl (by decide)) ?_
                  refine ev_s (is_iconst (nI 0) rfl rfl) ?_
                  refine ev_ret (is_ireturn rfl rfl (by first | rfl | exact pu_b_nar | decide)) ?_
                  have hst : ya_step (tk_k tb z) (tk_v tb z) (tk_f tb z) (tk_t tb z) (p, C, S, true, true) = .inr (.inl (tk_f tb z p)) := by
                    show ya_want (tk_k tb z) (tk_v tb z) (tk_f tb z) (tk_t tb z) p C S true = _
                    unfold ya_want
                    rw [if_neg (by omega), if_neg (fun q => by omega), if_pos (by omega), opn_no c5]
                  rw [run_e hst] at hr
                  obtain rfl := Option.some.inj hr
                  exact ⟨rfl, rfl, hqn, rfl, hk.2.1⟩
              · refine ev_s (is_iload_n rfl rfl) ?_
                refine ev_s (is_if_eq_f rfl (by decide)) ?_
                have hT2 := tk_T (tb := tb) (z := z) hT.2.2.1 p hp (by omega)
                refine ev_s (is_aload_n rfl rfl) ?_
                refine ev_s (is_bipush (nI 13) rfl rfl) ?_
                refine ev_c1 (is_callR 2 [_] [] rfl rfl rfl rfl rfl (Nat.le_of_ble_eq_true rfl) rfl rfl rfl (pu_s hC 110 rfl rfl)) rfl rfl (re_openN hC hsn c5 13) ?_
                refine ev_s (is_if_ne_f rfl (by decide)) ?_
                refine ev_s (is_iconst (nI 0) rfl rfl) ?_
                refine ev_ret (is_ireturn rfl rfl (by first | rfl | exact pu_b_nar | decide)) ?_
                have hst : ya_step (tk_k tb z) (tk_v tb z) (tk_f tb z) (tk_t tb z) (p, C, S, true, true) = .inr (.inl (tk_f tb z p)) := by
                  show ya_want (tk_k tb z) (tk_v tb z) (tk_f tb z) (tk_t tb z) p C S true = _
                  unfold ya_want
                  rw [if_neg (by omega), if_pos ⟨by omega, rfl⟩, opn_no c5]
                rw [run_e hst] at hr
                obtain rfl := Option.some.inj hr
                exact ⟨rfl, rfl, hqn, rfl, hk.2.1⟩
            · have hT2 := tk_T (tb := tb) (z := z) hT.2.2.1 p hp (by omega)
              refine ev_s (is_aload_n rfl rfl) ?_
              refine ev_s (is_aload_n rfl rfl) ?_
              refine ev_s (is_getI' rfl (pu_s hC 110 rfl rfl) rfl rfl hk.2.2.1) ?_
              refine ev_s (is_iconst (nI 1) rfl rfl) ?_
              refine ev_tk_ne rfl (rt_e2 (by omega)) (fun h_44 => ?_) (fun h_44 => ?_)
              · first
                  | (exfalso; omega)
                  | (
                     refine ev_s (is_aload_n rfl rfl) ?_
                     refine ev_s (is_getI' rfl (pu_s hC 110 rfl rfl) rfl rfl (hk.2.2.2.1 (by omega))) ?_
                     refine ev_q0 (is_callR 2 [_] [] rfl rfl rfl rfl rfl (Nat.le_of_ble_eq_true rfl) rfl rfl rfl (pu_s hC 110 rfl rfl)) rfl rfl (re_puts hC ht h9n hon (by omega) _) (fun r_61 mi mr hq_61 => ?_)
                     obtain ⟨rfl, hq1, ho2, hp1, h124, h110⟩ := hq_61
                     have hcode : ro_ t mi (C ++ [pd_code (tk_k tb z) (tk_v tb z) p]) := by
                       first
                         | (rw [show pd_code (tk_k tb z) (tk_v tb z) p = 100000 + tk_v tb z p from if_pos (by omega)]; exact ho2)
                         | (rw [show pd_code (tk_k tb z) (tk_v tb z) p = tk_v tb z p from if_neg (by omega)]; exact ho2)
                     have h9b : mi 110 9 = nI t := by rw [hq1.2.1 9 (by decide)]; exact h9n
                     have hs3 : rs_ mi S := ⟨by rw [h110 24 (by decide)]; exact hsn.1, fun j hj => by rw [h124]; exact hsn.2.1 j hj, by rw [h110 25 (by decide)]; exact hsn.2.2.1, hsn.2.2.2⟩
                     refine ev_s (is_aload_n rfl rfl) ?_
                     refine ev_s (is_bipush (nI 7) rfl rfl) ?_
                     refine ev_q0 (is_callR 2 [_] [] rfl rfl rfl rfl rfl (Nat.le_of_ble_eq_true rfl) rfl rfl rfl (pu_s hC 110 rfl rfl)) rfl rfl (re_unw hC ht (L := 7) (by decide) (by decide) (by rw [List.length_append]; show C.length + 1 + S.length < 200; omega) h9b hcode hs3) (fun r_67 mi mr hq_67 => ?_)
                     obtain ⟨rfl, hq2, ho4, hs4, hp2⟩ := hq_67
                     refine ev_s (is_iconst (nI 0) rfl rfl) ?_
                     refine ev_s (st_istore_n_1 rfl rfl) ?_
                     refine ev_s (is_goto rfl) ?_
                     have hst : ya_step (tk_k tb z) (tk_v tb z) (tk_f tb z) (tk_t tb z) (p, C, S, true, true) = .inl (tk_t tb z p, (ya_unw 7 (C ++ [pd_code (tk_k tb z) (tk_v tb z) p]) S).1, (ya_unw 7 (C ++ [pd_code (tk_k tb z) (tk_v tb z) p]) S).2, false, true) := by
                       show ya_want (tk_k tb z) (tk_v tb z) (tk_f tb z) (tk_t tb z) p C S true = _
                       unfold ya_want
                       rw [if_pos (by omega)]
                     rw [run_s hst] at hr
                     exact ih _ _ _ _ _ a _ _ hr (rq_tr (rq_tr hqn hq1) hq2) hT2.2 ((rk_p (rk_p hk hp1) hp2).1) (by rw [hq2.2.1 9 (by decide)]; exact h9b) (ho4) (hs4) (by have := unw_len (L := 7) S (C ++ [pd_code (tk_k tb z) (tk_v tb z) p]); rw [List.length_append] at this; have h1 : [pd_code (tk_k tb z) (tk_v tb z) p].length = 1 := rfl; omega)
                    )
              · first
                  | (exfalso; omega)
                  | (
                     refine ev_s (is_ldcI (nI 100000) rfl rfl) ?_
                     refine ev_s (is_aload_n rfl rfl) ?_
                     refine ev_s (is_getI' rfl (pu_s hC 110 rfl rfl) rfl rfl (hk.2.2.2.1 (by omega))) ?_
                     first
                       | refine ev_s (is_iadd _ rfl (nI_add _ _)) ?_
                       | refine ev_s (is_iadd _ rfl rfl) ?_
                     refine ev_s (is_goto rfl) ?_
                     refine ev_q0 (is_callR 2 [_] [] rfl rfl rfl rfl rfl (Nat.le_of_ble_eq_true rfl) rfl rfl rfl (pu_s hC 110 rfl rfl)) rfl rfl (re_puts hC ht h9n hon (by omega) _) (fun r_61 mi mr hq_61 => ?_)
                     obtain ⟨rfl, hq1, ho2, hp1, h124, h110⟩ := hq_61
                     have hcode : ro_ t mi (C ++ [pd_code (tk_k tb z) (tk_v tb z) p]) := by
                       first
                         | (rw [show pd_code (tk_k tb z) (tk_v tb z) p = 100000 + tk_v tb z p from if_pos (by omega)]; exact ho2)
                         | (rw [show pd_code (tk_k tb z) (tk_v tb z) p = tk_v tb z p from if_neg (by omega)]; exact ho2)
                     have h9b : mi 110 9 = nI t := by rw [hq1.2.1 9 (by decide)]; exact h9n
                     have hs3 : rs_ mi S := ⟨by rw [h110 24 (by decide)]; exact hsn.1, fun j hj => by rw [h124]; exact hsn.2.1 j hj, by rw [h110 25 (by decide)]; exact hsn.2.2.1, hsn.2.2.2⟩
                     refine ev_s (is_aload_n rfl rfl) ?_
                     refine ev_s (is_bipush (nI 7) rfl rfl) ?_
                     refine ev_q0 (is_callR 2 [_] [] rfl rfl rfl rfl rfl (Nat.le_of_ble_eq_true rfl) rfl rfl rfl (pu_s hC 110 rfl rfl)) rfl rfl (re_unw hC ht (L := 7) (by decide) (by decide) (by rw [List.length_append]; show C.length + 1 + S.length < 200; omega) h9b hcode hs3) (fun r_67 mi mr hq_67 => ?_)
                     obtain ⟨rfl, hq2, ho4, hs4, hp2⟩ := hq_67
                     refine ev_s (is_iconst (nI 0) rfl rfl) ?_
                     refine ev_s (st_istore_n_1 rfl rfl) ?_
                     refine ev_s (is_goto rfl) ?_
                     have hst : ya_step (tk_k tb z) (tk_v tb z) (tk_f tb z) (tk_t tb z) (p, C, S, true, true) = .inl (tk_t tb z p, (ya_unw 7 (C ++ [pd_code (tk_k tb z) (tk_v tb z) p]) S).1, (ya_unw 7 (C ++ [pd_code (tk_k tb z) (tk_v tb z) p]) S).2, false, true) := by
                       show ya_want (tk_k tb z) (tk_v tb z) (tk_f tb z) (tk_t tb z) p C S true = _
                       unfold ya_want
                       rw [if_pos (by omega)]
                     rw [run_s hst] at hr
                     exact ih _ _ _ _ _ a _ _ hr (rq_tr (rq_tr hqn hq1) hq2) hT2.2 ((rk_p (rk_p hk hp1) hp2).1) (by rw [hq2.2.1 9 (by decide)]; exact h9b) (ho4) (hs4) (by have := unw_len (L := 7) S (C ++ [pd_code (tk_k tb z) (tk_v tb z) p]); rw [List.length_append] at this; have h1 : [pd_code (tk_k tb z) (tk_v tb z) p].length = 1 := rfl; omega)
                    )
        · refine ev_s (is_aload_n rfl rfl) ?_
          refine ev_q0 (is_callR 1 [] [] rfl rfl rfl rfl rfl (Nat.le_of_ble_eq_true rfl) rfl rfl rfl (pu_s hC 110 rfl rfl)) rfl rfl (re_next hC (re_M_q hT hq) hp h18) (fun r_15 mi mr hq_15 => ?_)
          obtain ⟨rfl, hn, hk⟩ := hq_15
          have hqn := rq_tr hq (rn_q (t := t) hn)
          have h9n : mi 110 9 = nI t := by rw [hn.2 9 (by decide)]; exact h9
          have hon := ro_n ho hn
          have hsn := rs_n hs hn
          have hTn := re_M_q hT hqn
          have hk256 := tk_lt (tb := tb) (z := z) hT.2.2.2.1 p
          refine ev_s (is_iload_n rfl rfl) ?_
          refine ev_s (is_if_eq_f rfl (by decide)) ?_
          refine ev_s (is_aload_n rfl rfl) ?_
          refine ev_s (is_getI' rfl (pu_s hC 110 rfl rfl) rfl rfl hk.2.2.1) ?_
          refine ev_s (is_iconst (nI 1) rfl rfl) ?_
          refine ev_tk_eq rfl (rt_e2 (by omega)) (fun h_27 => ?_) (fun h_27 => ?_)
          · have hT2 := tk_T (tb := tb) (z := z) hT.2.2.1 p hp (by omega)
            refine ev_s (is_aload_n rfl rfl) ?_
            refine ev_s (is_aload_n rfl rfl) ?_
            refine ev_s (is_getI' rfl (pu_s hC 110 rfl rfl) rfl rfl hk.2.2.1) ?_
            refine ev_s (is_iconst (nI 1) rfl rfl) ?_
            refine ev_tk_ne rfl (rt_e2 (by omega)) (fun h_44 => ?_) (fun h_44 => ?_)
            · first
                | (exfalso; omega)
                | (
                   refine ev_s (is_aload_n rfl rfl) ?_
                   refine ev_s (is_getI' rfl (pu_s hC 110 rfl rfl) rfl rfl (hk.2.2.2.1 (by omega))) ?_
                   refine ev_q0 (is_callR 2 [_] [] rfl rfl rfl rfl rfl (Nat.le_of_ble_eq_true rfl) rfl rfl rfl (pu_s hC 110 rfl rfl)) rfl rfl (re_puts hC ht h9n hon (by omega) _) (fun r_61 mi mr hq_61 => ?_)
                   obtain ⟨rfl, hq1, ho2, hp1, h124, h110⟩ := hq_61
                   have hcode : ro_ t mi (C ++ [pd_code (tk_k tb z) (tk_v tb z) p]) := by
                     first
                       | (rw [show pd_code (tk_k tb z) (tk_v tb z) p = 100000 + tk_v tb z p from if_pos (by omega)]; exact ho2)
                       | (rw [show pd_code (tk_k tb z) (tk_v tb z) p = tk_v tb z p from if_neg (by omega)]; exact ho2)
                   have h9b : mi 110 9 = nI t := by rw [hq1.2.1 9 (by decide)]; exact h9n
                   have hs3 : rs_ mi S := ⟨by rw [h110 24 (by decide)]; exact hsn.1, fun j hj => by rw [h124]; exact hsn.2.1 j hj, by rw [h110 25 (by decide)]; exact hsn.2.2.1, hsn.2.2.2⟩
                   refine ev_s (is_aload_n rfl rfl) ?_
                   refine ev_s (is_bipush (nI 7) rfl rfl) ?_
                   refine ev_q0 (is_callR 2 [_] [] rfl rfl rfl rfl rfl (Nat.le_of_ble_eq_true rfl) rfl rfl rfl (pu_s hC 110 rfl rfl)) rfl rfl (re_unw hC ht (L := 7) (by decide) (by decide) (by rw [List.length_append]; show C.length + 1 + S.length < 200; omega) h9b hcode hs3) (fun r_67 mi mr hq_67 => ?_)
                   obtain ⟨rfl, hq2, ho4, hs4, hp2⟩ := hq_67
                   refine ev_s (is_iconst (nI 0) rfl rfl) ?_
                   refine ev_s (st_istore_n_1 rfl rfl) ?_
                   refine ev_s (is_goto rfl) ?_
                   have hst : ya_step (tk_k tb z) (tk_v tb z) (tk_f tb z) (tk_t tb z) (p, C, S, true, true) = .inl (tk_t tb z p, (ya_unw 7 (C ++ [pd_code (tk_k tb z) (tk_v tb z) p]) S).1, (ya_unw 7 (C ++ [pd_code (tk_k tb z) (tk_v tb z) p]) S).2, false, true) := by
                     show ya_want (tk_k tb z) (tk_v tb z) (tk_f tb z) (tk_t tb z) p C S true = _
                     unfold ya_want
                     rw [if_pos (by omega)]
                   rw [run_s hst] at hr
                   exact ih _ _ _ _ _ a _ _ hr (rq_tr (rq_tr hqn hq1) hq2) hT2.2 ((rk_p (rk_p hk hp1) hp2).1) (by rw [hq2.2.1 9 (by decide)]; exact h9b) (ho4) (hs4) (by have := unw_len (L := 7) S (C ++ [pd_code (tk_k tb z) (tk_v tb z) p]); rw [List.length_append] at this; have h1 : [pd_code (tk_k tb z) (tk_v tb z) p].length = 1 := rfl; omega)
                  )
            · first
                | (exfalso; omega)
                | (
                   refine ev_s (is_ldcI (nI 100000) rfl rfl) ?_
                   refine ev_s (is_aload_n rfl rfl) ?_
                   refine ev_s (is_getI' rfl (pu_s hC 110 rfl rfl) rfl rfl (hk.2.2.2.1 (by omega))) ?_
                   first
                     | refine ev_s (is_iadd _ rfl (nI_add _ _)) ?_
                     | refine ev_s (is_iadd _ rfl rfl) ?_
                   refine ev_s (is_goto rfl) ?_
                   refine ev_q0 (is_callR 2 [_] [] rfl rfl rfl rfl rfl (Nat.le_of_ble_eq_true rfl) rfl rfl rfl (pu_s hC 110 rfl rfl)) rfl rfl (re_puts hC ht h9n hon (by omega) _) (fun r_61 mi mr hq_61 => ?_)
                   obtain ⟨rfl, hq1, ho2, hp1, h124, h110⟩ := hq_61
                   have hcode : ro_ t mi (C ++ [pd_code (tk_k tb z) (tk_v tb z) p]) := by
                     first
                       | (rw [show pd_code (tk_k tb z) (tk_v tb z) p = 100000 + tk_v tb z p from if_pos (by omega)]; exact ho2)
                       | (rw [show pd_code (tk_k tb z) (tk_v tb z) p = tk_v tb z p from if_neg (by omega)]; exact ho2)
                   have h9b : mi 110 9 = nI t := by rw [hq1.2.1 9 (by decide)]; exact h9n
                   have hs3 : rs_ mi S := ⟨by rw [h110 24 (by decide)]; exact hsn.1, fun j hj => by rw [h124]; exact hsn.2.1 j hj, by rw [h110 25 (by decide)]; exact hsn.2.2.1, hsn.2.2.2⟩
                   refine ev_s (is_aload_n rfl rfl) ?_
                   refine ev_s (is_bipush (nI 7) rfl rfl) ?_
                   refine ev_q0 (is_callR 2 [_] [] rfl rfl rfl rfl rfl (Nat.le_of_ble_eq_true rfl) rfl rfl rfl (pu_s hC 110 rfl rfl)) rfl rfl (re_unw hC ht (L := 7) (by decide) (by decide) (by rw [List.length_append]; show C.length + 1 + S.length < 200; omega) h9b hcode hs3) (fun r_67 mi mr hq_67 => ?_)
                   obtain ⟨rfl, hq2, ho4, hs4, hp2⟩ := hq_67
                   refine ev_s (is_iconst (nI 0) rfl rfl) ?_
                   refine ev_s (st_istore_n_1 rfl rfl) ?_
                   refine ev_s (is_goto rfl) ?_
                   have hst : ya_step (tk_k tb z) (tk_v tb z) (tk_f tb z) (tk_t tb z) (p, C, S, true, true) = .inl (tk_t tb z p, (ya_unw 7 (C ++ [pd_code (tk_k tb z) (tk_v tb z) p]) S).1, (ya_unw 7 (C ++ [pd_code (tk_k tb z) (tk_v tb z) p]) S).2, false, true) := by
                     show ya_want (tk_k tb z) (tk_v tb z) (tk_f tb z) (tk_t tb z) p C S true = _
                     unfold ya_want
                     rw [if_pos (by omega)]
                   rw [run_s hst] at hr
                   exact ih _ _ _ _ _ a _ _ hr (rq_tr (rq_tr hqn hq1) hq2) hT2.2 ((rk_p (rk_p hk hp1) hp2).1) (by rw [hq2.2.1 9 (by decide)]; exact h9b) (ho4) (hs4) (by have := unw_len (L := 7) S (C ++ [pd_code (tk_k tb z) (tk_v tb z) p]); rw [List.length_append] at this; have h1 : [pd_code (tk_k tb z) (tk_v tb z) p].length = 1 := rfl; omega)
                  )
          · refine ev_s (is_aload_n rfl rfl) ?_
            refine ev_s (is_getI' rfl (pu_s hC 110 rfl rfl) rfl rfl hk.2.2.1) ?_
            refine ev_s (is_iconst (nI 2) rfl rfl) ?_
            refine ev_tk_ne rfl (rt_e3 (by omega)) (fun h_35 => ?_) (fun h_35 => ?_)
            · refine ev_s (is_aload_n rfl rfl) ?_
              refine ev_s (is_getI' rfl (pu_s hC 110 rfl rfl) rfl rfl hk.2.2.1) ?_
              refine ev_s (is_bipush (nI 6) rfl rfl) ?_
              refine ev_tk_ne rfl (rt_e9 (by omega)) (fun h_81 => ?_) (fun h_81 => ?_)
              · refine ev_s (is_aload_n rfl rfl) ?_
                refine ev_s (is_getI' rfl (pu_s hC 110 rfl rfl) rfl rfl hk.2.2.1) ?_
                refine ev_s (is_bipush (nI 45) rfl rfl) ?_
                refine ev_tk_ne rfl (rt_x (q := 45) (by decide) (by omega)) (fun h_105 => ?_) (fun h_105 => ?_)
                · refine ev_s (is_aload_n rfl rfl) ?_
                  refine ev_s (is_getI' rfl (pu_s hC 110 rfl rfl) rfl rfl hk.2.2.1) ?_
                  refine ev_s (is_bipush (nI 40) rfl rfl) ?_
                  refine ev_tk_ne rfl (rt_x (q := 40) (by decide) (by omega)) (fun h_130 => ?_) (fun h_130 => ?_)
                  · refine ev_s (is_iconst (nI 0) rfl rfl) ?_
                    refine ev_ret (is_ireturn rfl rfl (by first | rfl | exact pu_b_nar | decide)) ?_
                    have hst : ya_step (tk_k tb z) (tk_v tb z) (tk_f tb z) (tk_t tb z) (p, C, S, true, true) = .inr (.inl (tk_f tb z p)) := by
                      show ya_want (tk_k tb z) (tk_v tb z) (tk_f tb z) (tk_t tb z) p C S true = _
                      unfold ya_want
                      rw [if_neg (by omega), if_neg (fun q => by omega), if_neg (by omega), if_neg (by omega)]
                    rw [run_e hst] at hr
                    obtain rfl := Option.some.inj hr
                    exact ⟨rfl, rfl, hqn, rfl, hk.2.1⟩
                  · have hT2 := tk_T (tb := tb) (z := z) hT.2.2.1 p hp (by omega)
                    refine ev_s (is_aload_n rfl rfl) ?_
                    refine ev_s (is_iconst (nI 0) rfl rfl) ?_
                    refine ev_q1 (is_callR 2 [_] [] rfl rfl rfl rfl rfl (Nat.le_of_ble_eq_true rfl) rfl rfl rfl (pu_s hC 110 rfl rfl)) rfl rfl (re_open (t := t) hC hsn hcn c5 (by omega) (by decide)) (fun r_135 mi mr hq_135 => ?_)
                    obtain ⟨rfl, rfl, hq1, hs3, hp1, e115, e26⟩ := hq_135
                    refine ev_s (is_if_ne_t rfl (by decide)) ?_
                    refine ev_s (is_iconst (nI 1) rfl rfl) ?_
                    refine ev_s (st_istore_n_2 rfl rfl) ?_
                    refine ev_s (is_goto rfl) ?_
                    have hst : ya_step (tk_k tb z) (tk_v tb z) (tk_f tb z) (tk_t tb z) (p, C, S, true, true) = .inl (tk_t tb z p, C, 0 :: S, true, true) := by
                      show ya_want (tk_k tb z) (tk_v tb z) (tk_f tb z) (tk_t tb z) p C S true = _
                      unfold ya_want
                      rw [if_neg (by omega), if_neg (fun q => by omega), if_neg (by omega), if_pos (by omega), opn_yes c5]
                    rw [run_s hst] at hr
                    exact ih _ _ _ _ _ a _ _ hr (rq_tr hqn hq1) hT2.2 ((rk_p hk hp1).1) (by rw [hq1.2.1 9 (by decide)]; exact h9n) (ro_o hon e115 e26) (hs3) (by show C.length + (S.length + 1) ≤ _; omega)
                · have hT2 := tk_T (tb := tb) (z := z) hT.2.2.1 p hp (by omega)
                  refine ev_s (is_aload_n rfl rfl) ?_
                  refine ev_s (is_bipush (nI 19) rfl rfl) ?_
                  refine ev_q1 (is_callR 2 [_] [] rfl rfl rfl rfl rfl (Nat.le_of_ble_eq_true rfl) rfl rfl rfl (pu_s hC 110 rfl rfl)) rfl rfl (re_open (t := t) hC hsn hcn c5 (by omega) (by decide)) (fun r_111 mi mr hq_111 => ?_)
                  obtain ⟨rfl, rfl, hq1, hs3, hp1, e115, e26⟩ := hq_111
                  refine ev_s (is_if_ne_t rfl (by decide)) ?_
                  refine ev_s (is_iconst (nI 0) rfl rfl) ?_
                  refine ev_s (st_istore_n_2 rfl rfl) ?_
                  refine ev_s (is_goto rfl) ?_
                  have hst : ya_step (tk_k tb z) (tk_v tb z) (tk_f tb z) (tk_t tb z) (p, C, S, true, true) = .inl (tk_t tb z p, C, 19 :: S, true, false) := by
                    show ya_want (tk_k tb z) (tk_v tb z) (tk_f tb z) (tk_t tb z) p C S true = _
                    unfold ya_want
                    rw [if_neg (by omega), if_neg (fun q => by omega), if_pos (by omega), opn_yes c5]
                  rw [run_s hst] at hr
                  exact ih _ _ _ _ _ a _ _ hr (rq_tr hqn hq1) hT2.2 ((rk_p hk hp1).1) (by rw [hq1.2.1 9 (by decide)]; exact h9n) (ro_o hon e115 e26) (hs3) (by show C.length + (S.length + 1) ≤ _; omega)
              · refine ev_s (is_iload_n rfl rfl) ?_
                refine ev_s (is_if_eq_f rfl (by decide)) ?_
                have hT2 := tk_T (tb := tb) (z := z) hT.2.2.1 p hp (by omega)
                refine ev_s (is_aload_n rfl rfl) ?_
                refine ev_s (is_bipush (nI 13) rfl rfl) ?_
                refine ev_q1 (is_callR 2 [_] [] rfl rfl rfl rfl rfl (Nat.le_of_ble_eq_true rfl) rfl rfl rfl (pu_s hC 110 rfl rfl)) rfl rfl (re_open (t := t) hC hsn hcn c5 (by omega) (by decide)) (fun r_91 mi mr hq_91 => ?_)
                obtain ⟨rfl, rfl, hq1, hs3, hp1, e115, e26⟩ := hq_91
                refine ev_s (is_if_ne_t rfl (by decide)) ?_
                have hst : ya_step (tk_k tb z) (tk_v tb z) (tk_f tb z) (tk_t tb z) (p, C, S, true, true) = .inl (tk_t tb z p, C, 13 :: S, true, true) := by
                  show ya_want (tk_k tb z) (tk_v tb z) (tk_f tb z) (tk_t tb z) p C S true = _
                  unfold ya_want
                  rw [if_neg (by omega), if_pos ⟨by omega, rfl⟩, opn_yes c5]
                rw [run_s hst] at hr
                exact ih _ _ _ _ _ a _ _ hr (rq_tr hqn hq1) hT2.2 ((rk_p hk hp1).1) (by rw [hq1.2.1 9 (by decide)]; exact h9n) (ro_o hon e115 e26) (hs3) (by show C.length + (S.length + 1) ≤ _; omega)
            · have hT2 := tk_T (tb := tb) (z := z) hT.2.2.1 p hp (by omega)
              refine ev_s (is_aload_n rfl rfl) ?_
              refine ev_s (is_aload_n rfl rfl) ?_
              refine ev_s (is_getI' rfl (pu_s hC 110 rfl rfl) rfl rfl hk.2.2.1) ?_
              refine ev_s (is_iconst (nI 1) rfl rfl) ?_
              refine ev_tk_ne rfl (rt_e2 (by omega)) (fun h_44 => ?_) (fun h_44 => ?_)
              · first
                  | (exfalso; omega)
                  | (
                     refine ev_s (is_aload_n rfl rfl) ?_
                     refine ev_s (is_getI' rfl (pu_s hC 110 rfl rfl) rfl rfl (hk.2.2.2.1 (by omega))) ?_
                     refine ev_q0 (is_callR 2 [_] [] rfl rfl rfl rfl rfl (Nat.le_of_ble_eq_true rfl) rfl rfl rfl (pu_s hC 110 rfl rfl)) rfl rfl (re_puts hC ht h9n hon (by omega) _) (fun r_61 mi mr hq_61 => ?_)
                     obtain ⟨rfl, hq1, ho2, hp1, h124, h110⟩ := hq_61
                     have hcode : ro_ t mi (C ++ [pd_code (tk_k tb z) (tk_v tb z) p]) := by
                       first
                         | (rw [show pd_code (tk_k tb z) (tk_v tb z) p = 100000 + tk_v tb z p from if_pos (by omega)]; exact ho2)
                         | (rw [show pd_code (tk_k tb z) (tk_v tb z) p = tk_v tb z p from if_neg (by omega)]; exact ho2)
                     have h9b : mi 110 9 = nI t := by rw [hq1.2.1 9 (by decide)]; exact h9n
                     have hs3 : rs_ mi S := ⟨by rw [h110 24 (by decide)]; exact hsn.1, fun j hj => by rw [h124]; exact hsn.2.1 j hj, by rw [h110 25 (by decide)]; exact hsn.2.2.1, hsn.2.2.2⟩
                     refine ev_s (is_aload_n rfl rfl) ?_
                     refine ev_s (is_bipush (nI 7) rfl rfl) ?_
                     refine ev_q0 (is_callR 2 [_] [] rfl rfl rfl rfl rfl (Nat.le_of_ble_eq_true rfl) rfl rfl rfl (pu_s hC 110 rfl rfl)) rfl rfl (re_unw hC ht (L := 7) (by decide) (by decide) (by rw [List.length_append]; show C.length + 1 + S.length < 200; omega) h9b hcode hs3) (fun r_67 mi mr hq_67 => ?_)
                     obtain ⟨rfl, hq2, ho4, hs4, hp2⟩ := hq_67
                     refine ev_s (is_iconst (nI 0) rfl rfl) ?_
                     refine ev_s (st_istore_n_1 rfl rfl) ?_
                     refine ev_s (is_goto rfl) ?_
                     have hst : ya_step (tk_k tb z) (tk_v tb z) (tk_f tb z) (tk_t tb z) (p, C, S, true, true) = .inl (tk_t tb z p, (ya_unw 7 (C ++ [pd_code (tk_k tb z) (tk_v tb z) p]) S).1, (ya_unw 7 (C ++ [pd_code (tk_k tb z) (tk_v tb z) p]) S).2, false, true) := by
                       show ya_want (tk_k tb z) (tk_v tb z) (tk_f tb z) (tk_t tb z) p C S true = _
                       unfold ya_want
                       rw [if_pos (by omega)]
                     rw [run_s hst] at hr
                     exact ih _ _ _ _ _ a _ _ hr (rq_tr (rq_tr hqn hq1) hq2) hT2.2 ((rk_p (rk_p hk hp1) hp2).1) (by rw [hq2.2.1 9 (by decide)]; exact h9b) (ho4) (hs4) (by have := unw_len (L := 7) S (C ++ [pd_code (tk_k tb z) (tk_v tb z) p]); rw [List.length_append] at this; have h1 : [pd_code (tk_k tb z) (tk_v tb z) p].length = 1 := rfl; omega)
                    )
              · first
                  | (exfalso; omega)
                  | (
                     refine ev_s (is_ldcI (nI 100000) rfl rfl) ?_
                     refine ev_s (is_aload_n rfl rfl) ?_
                     refine ev_s (is_getI' rfl (pu_s hC 110 rfl rfl) rfl rfl (hk.2.2.2.1 (by omega))) ?_
                     first
                       | refine ev_s (is_iadd _ rfl (nI_add _ _)) ?_
                       | refine ev_s (is_iadd _ rfl rfl) ?_
                     refine ev_s (is_goto rfl) ?_
                     refine ev_q0 (is_callR 2 [_] [] rfl rfl rfl rfl rfl (Nat.le_of_ble_eq_true rfl) rfl rfl rfl (pu_s hC 110 rfl rfl)) rfl rfl (re_puts hC ht h9n hon (by omega) _) (fun r_61 mi mr hq_61 => ?_)
                     obtain ⟨rfl, hq1, ho2, hp1, h124, h110⟩ := hq_61
                     have hcode : ro_ t mi (C ++ [pd_code (tk_k tb z) (tk_v tb z) p]) := by
                       first
                         | (rw [show pd_code (tk_k tb z) (tk_v tb z) p = 100000 + tk_v tb z p from if_pos (by omega)]; exact ho2)
                         | (rw [show pd_code (tk_k tb z) (tk_v tb z) p = tk_v tb z p from if_neg (by omega)]; exact ho2)
                     have h9b : mi 110 9 = nI t := by rw [hq1.2.1 9 (by decide)]; exact h9n
                     have hs3 : rs_ mi S := ⟨by rw [h110 24 (by decide)]; exact hsn.1, fun j hj => by rw [h124]; exact hsn.2.1 j hj, by rw [h110 25 (by decide)]; exact hsn.2.2.1, hsn.2.2.2⟩
                     refine ev_s (is_aload_n rfl rfl) ?_
                     refine ev_s (is_bipush (nI 7) rfl rfl) ?_
                     refine ev_q0 (is_callR 2 [_] [] rfl rfl rfl rfl rfl (Nat.le_of_ble_eq_true rfl) rfl rfl rfl (pu_s hC 110 rfl rfl)) rfl rfl (re_unw hC ht (L := 7) (by decide) (by decide) (by rw [List.length_append]; show C.length + 1 + S.length < 200; omega) h9b hcode hs3) (fun r_67 mi mr hq_67 => ?_)
                     obtain ⟨rfl, hq2, ho4, hs4, hp2⟩ := hq_67
                     refine ev_s (is_iconst (nI 0) rfl rfl) ?_
                     refine ev_s (st_istore_n_1 rfl rfl) ?_
                     refine ev_s (is_goto rfl) ?_
                     have hst : ya_step (tk_k tb z) (tk_v tb z) (tk_f tb z) (tk_t tb z) (p, C, S, true, true) = .inl (tk_t tb z p, (ya_unw 7 (C ++ [pd_code (tk_k tb z) (tk_v tb z) p]) S).1, (ya_unw 7 (C ++ [pd_code (tk_k tb z) (tk_v tb z) p]) S).2, false, true) := by
                       show ya_want (tk_k tb z) (tk_v tb z) (tk_f tb z) (tk_t tb z) p C S true = _
                       unfold ya_want
                       rw [if_pos (by omega)]
                     rw [run_s hst] at hr
                     exact ih _ _ _ _ _ a _ _ hr (rq_tr (rq_tr hqn hq1) hq2) hT2.2 ((rk_p (rk_p hk hp1) hp2).1) (by rw [hq2.2.1 9 (by decide)]; exact h9b) (ho4) (hs4) (by have := unw_len (L := 7) S (C ++ [pd_code (tk_k tb z) (tk_v tb z) p]); rw [List.length_append] at this; have h1 : [pd_code (tk_k tb z) (tk_v tb z) p].length = 1 := rfl; omega)
                    )
      | false =>
        by_cases c5 : ya_cn S = 5
        · refine ev_s (is_aload_n rfl rfl) ?_
          refine ev_q0 (is_callR 1 [] [] rfl rfl rfl rfl rfl (Nat.le_of_ble_eq_true rfl) rfl rfl rfl (pu_s hC 110 rfl rfl)) rfl rfl (re_next hC (re_M_q hT hq) hp h18) (fun r_15 mi mr hq_15 => ?_)
          obtain ⟨rfl, hn, hk⟩ := hq_15
          have hqn := rq_tr hq (rn_q (t := t) hn)
          have h9n : mi 110 9 = nI t := by rw [hn.2 9 (by decide)]; exact h9
          have hon := ro_n ho hn
          have hsn := rs_n hs hn
          have hTn := re_M_q hT hqn
          have hk256 := tk_lt (tb := tb) (z := z) hT.2.2.2.1 p
          refine ev_s (is_iload_n rfl rfl) ?_
          refine ev_s (is_if_eq_f rfl (by decide)) ?_
          refine ev_s (is_aload_n rfl rfl) ?_
          refine ev_s (is_getI' rfl (pu_s hC 110 rfl rfl) rfl rfl hk.2.2.1) ?_
          refine ev_s (is_iconst (nI 1) rfl rfl) ?_
          refine ev_tk_eq rfl (rt_e2 (by omega)) (fun h_27 => ?_) (fun h_27 => ?_)
          · have hT2 := tk_T (tb := tb) (z := z) hT.2.2.1 p hp (by omega)
            refine ev_s (is_aload_n rfl rfl) ?_
            refine ev_s (is_aload_n rfl rfl) ?_
            refine ev_s (is_getI' rfl (pu_s hC 110 rfl rfl) rfl rfl hk.2.2.1) ?_
            refine ev_s (is_iconst (nI 1) rfl rfl) ?_
            refine ev_tk_ne rfl (rt_e2 (by omega)) (fun h_44 => ?_) (fun h_44 => ?_)
            · first
                | (exfalso; omega)
                | (
                   refine ev_s (is_aload_n rfl rfl) ?_
                   refine ev_s (is_getI' rfl (pu_s hC 110 rfl rfl) rfl rfl (hk.2.2.2.1 (by omega))) ?_
                   refine ev_q0 (is_callR 2 [_] [] rfl rfl rfl rfl rfl (Nat.le_of_ble_eq_true rfl) rfl rfl rfl (pu_s hC 110 rfl rfl)) rfl rfl (re_puts hC ht h9n hon (by omega) _) (fun r_61 mi mr hq_61 => ?_)
                   obtain ⟨rfl, hq1, ho2, hp1, h124, h110⟩ := hq_61
                   have hcode : ro_ t mi (C ++ [pd_code (tk_k tb z) (tk_v tb z) p]) := by
                     first
                       | (rw [show pd_code (tk_k tb z) (tk_v tb z) p = 100000 + tk_v tb z p from if_pos (by omega)]; exact ho2)
                       | (rw [show pd_code (tk_k tb z) (tk_v tb z) p = tk_v tb z p from if_neg (by omega)]; exact ho2)
                   have h9b : mi 110 9 = nI t := by rw [hq1.2.1 9 (by decide)]; exact h9n
                   have hs3 : rs_ mi S := ⟨by rw [h110 24 (by decide)]; exact hsn.1, fun j hj => by rw [h124]; exact hsn.2.1 j hj, by rw [h110 25 (by decide)]; exact hsn.2.2.1, hsn.2.2.2⟩
                   refine ev_s (is_aload_n rfl rfl) ?_
                   refine ev_s (is_bipush (nI 7) rfl rfl) ?_
                   refine ev_q0 (is_callR 2 [_] [] rfl rfl rfl rfl rfl (Nat.le_of_ble_eq_true rfl) rfl rfl rfl (pu_s hC 110 rfl rfl)) rfl rfl (re_unw hC ht (L := 7) (by decide) (by decide) (by rw [List.length_append]; show C.length + 1 + S.length < 200; omega) h9b hcode hs3) (fun r_67 mi mr hq_67 => ?_)
                   obtain ⟨rfl, hq2, ho4, hs4, hp2⟩ := hq_67
                   refine ev_s (is_iconst (nI 0) rfl rfl) ?_
                   refine ev_s (st_istore_n_1 rfl rfl) ?_
                   refine ev_s (is_goto rfl) ?_
                   have hst : ya_step (tk_k tb z) (tk_v tb z) (tk_f tb z) (tk_t tb z) (p, C, S, true, false) = .inl (tk_t tb z p, (ya_unw 7 (C ++ [pd_code (tk_k tb z) (tk_v tb z) p]) S).1, (ya_unw 7 (C ++ [pd_code (tk_k tb z) (tk_v tb z) p]) S).2, false, false) := by
                     show ya_want (tk_k tb z) (tk_v tb z) (tk_f tb z) (tk_t tb z) p C S false = _
                     unfold ya_want
                     rw [if_pos (by omega)]
                   rw [run_s hst] at hr
                   exact ih _ _ _ _ _ a _ _ hr (rq_tr (rq_tr hqn hq1) hq2) hT2.2 ((rk_p (rk_p hk hp1) hp2).1) (by rw [hq2.2.1 9 (by decide)]; exact h9b) (ho4) (hs4) (by have := unw_len (L := 7) S (C ++ [pd_code (tk_k tb z) (tk_v tb z) p]); rw [List.length_append] at this; have h1 : [pd_code (tk_k tb z) (tk_v tb z) p].length = 1 := rfl; omega)
                  )
            · first
                | (exfalso; omega)
                | (
                   refine ev_s (is_ldcI (nI 100000) rfl rfl) ?_
                   refine ev_s (is_aload_n rfl rfl) ?_
                   refine ev_s (is_getI' rfl (pu_s hC 110 rfl rfl) rfl rfl (hk.2.2.2.1 (by omega))) ?_
                   first
                     | refine ev_s (is_iadd _ rfl (nI_add _ _)) ?_
                     | refine ev_s (is_iadd _ rfl rfl) ?_
                   refine ev_s (is_goto rfl) ?_
                   refine ev_q0 (is_callR 2 [_] [] rfl rfl rfl rfl rfl (Nat.le_of_ble_eq_true rfl) rfl rfl rfl (pu_s hC 110 rfl rfl)) rfl rfl (re_puts hC ht h9n hon (by omega) _) (fun r_61 mi mr hq_61 => ?_)
                   obtain ⟨rfl, hq1, ho2, hp1, h124, h110⟩ := hq_61
                   have hcode : ro_ t mi (C ++ [pd_code (tk_k tb z) (tk_v tb z) p]) := by
                     first
                       | (rw [show pd_code (tk_k tb z) (tk_v tb z) p = 100000 + tk_v tb z p from if_pos (by omega)]; exact ho2)
                       | (rw [show pd_code (tk_k tb z) (tk_v tb z) p = tk_v tb z p from if_neg (by omega)]; exact ho2)
                   have h9b : mi 110 9 = nI t := by rw [hq1.2.1 9 (by decide)]; exact h9n
                   have hs3 : rs_ mi S := ⟨by rw [h110 24 (by decide)]; exact hsn.1, fun j hj => by rw [h124]; exact hsn.2.1 j hj, by rw [h110 25 (by decide)]; exact hsn.2.2.1, hsn.2.2.2⟩
                   refine ev_s (is_aload_n rfl rfl) ?_
                   refine ev_s (is_bipush (nI 7) rfl rfl) ?_
                   refine ev_q0 (is_callR 2 [_] [] rfl rfl rfl rfl rfl (Nat.le_of_ble_eq_true rfl) rfl rfl rfl (pu_s hC 110 rfl rfl)) rfl rfl (re_unw hC ht (L := 7) (by decide) (by decide) (by rw [List.length_append]; show C.length + 1 + S.length < 200; omega) h9b hcode hs3) (fun r_67 mi mr hq_67 => ?_)
                   obtain ⟨rfl, hq2, ho4, hs4, hp2⟩ := hq_67
                   refine ev_s (is_iconst (nI 0) rfl rfl) ?_
                   refine ev_s (st_istore_n_1 rfl rfl) ?_
                   refine ev_s (is_goto rfl) ?_
                   have hst : ya_step (tk_k tb z) (tk_v tb z) (tk_f tb z) (tk_t tb z) (p, C, S, true, false) = .inl (tk_t tb z p, (ya_unw 7 (C ++ [pd_code (tk_k tb z) (tk_v tb z) p]) S).1, (ya_unw 7 (C ++ [pd_code (tk_k tb z) (tk_v tb z) p]) S).2, false, false) := by
                     show ya_want (tk_k tb z) (tk_v tb z) (tk_f tb z) (tk_t tb z) p C S false = _
                     unfold ya_want
                     rw [if_pos (by omega)]
                   rw [run_s hst] at hr
                   exact ih _ _ _ _ _ a _ _ hr (rq_tr (rq_tr hqn hq1) hq2) hT2.2 ((rk_p (rk_p hk hp1) hp2).1) (by rw [hq2.2.1 9 (by decide)]; exact h9b) (ho4) (hs4) (by have := unw_len (L := 7) S (C ++ [pd_code (tk_k tb z) (tk_v tb z) p]); rw [List.length_append] at this; have h1 : [pd_code (tk_k tb z) (tk_v tb z) p].length = 1 := rfl; omega)
                  )
          · refine ev_s (is_aload_n rfl rfl) ?_
            refine ev_s (is_getI' rfl (pu_s hC 110 rfl rfl) rfl rfl hk.2.2.1) ?_
            refine ev_s (is_iconst (nI 2) rfl rfl) ?_
            refine ev_tk_ne rfl (rt_e3 (by omega)) (fun h_35 => ?_) (fun h_35 => ?_)
            · refine ev_s (is_aload_n rfl rfl) ?_
              refine ev_s (is_getI' rfl (pu_s hC 110 rfl rfl) rfl rfl hk.2.2.1) ?_
              refine ev_s (is_bipush (nI 6) rfl rfl) ?_
              refine ev_tk_ne rfl (rt_e9 (by omega)) (fun h_81 => ?_) (fun h_81 => ?_)
              · refine ev_s (is_aload_n rfl rfl) ?_
                refine ev_s (is_getI' rfl (pu_s hC 110 rfl rfl) rfl rfl hk.2.2.1) ?_
                refine ev_s (is_bipush (nI 45) rfl rfl) ?_
                refine ev_tk_ne rfl (rt_x (q := 45) (by decide) (by omega)) (fun h_105 => ?_) (fun h_105 => ?_)
                · refine ev_s (is_aload_n rfl rfl) ?_
                  refine ev_s (is_getI' rfl (pu_s hC 110 rfl rfl) rfl rfl hk.2.2.1) ?_
                  refine ev_s (is_bipush (nI 40) rfl rfl) ?_
                  refine ev_tk_ne rfl (rt_x (q := 40) (by decide) (by omega)) (fun h_130 => ?_) (fun h_130 => ?_)
                  · refine ev_s (is_iconst (nI 0) rfl rfl) ?_
                    refine ev_ret (is_ireturn rfl rfl (by first | rfl | exact pu_b_nar | decide)) ?_
                    have hst : ya_step (tk_k tb z) (tk_v tb z) (tk_f tb z) (tk_t tb z) (p, C, S, true, false) = .inr (.inl (tk_f tb z p)) := by
                      show ya_want (tk_k tb z) (tk_v tb z) (tk_f tb z) (tk_t tb z) p C S false = _
                      unfold ya_want
                      rw [if_neg (by omega), if_neg (fun q => by cases q.2), if_neg (by omega), if_neg (by omega)]
                    rw [run_e hst] at hr
                    obtain rfl := Option.some.inj hr
                    exact ⟨rfl, rfl, hqn, rfl, hk.2.1⟩
                  · have hT2 := tk_T (tb := tb) (z := z) hT.2.2.1 p hp (by omega)
                    refine ev_s (is_aload_n rfl rfl) ?_
                    refine ev_s (is_iconst (nI 0) rfl rfl) ?_
                    refine ev_c1 (is_callR 2 [_] [] rfl rfl rfl rfl rfl (Nat.le_of_ble_eq_true rfl) rfl rfl rfl (pu_s hC 110 rfl rfl)) rfl rfl (re_openN hC hsn c5 0) ?_
                    refine ev_s (is_if_ne_f rfl (by decide)) ?_
                    refine ev_s (is_iconst (nI 0) rfl rfl) ?_
                    refine ev_ret (is_ireturn rfl rfl (by first | rfl | exact pu_b_nar | decide)) ?_
                    have hst : ya_step (tk_k tb z) (tk_v tb z) (tk_f tb z) (tk_t tb z) (p, C, S, true, false) = .inr (.inl (tk_f tb z p)) := by
                      show ya_want (tk_k tb z) (tk_v tb z) (tk_f tb z) (tk_t tb z) p C S false = _
                      unfold ya_want
                      rw [if_neg (by omega), if_neg (fun q => by cases q.2), if_neg (by omega), if_pos (by omega), opn_no c5]
                    rw [run_e hst] at hr
                    obtain rfl := Option.some.inj hr
                    exact ⟨rfl, rfl, hqn, rfl, hk.2.1⟩
                · have hT2 := tk_T (tb := tb) (z := z) hT.2.2.1 p hp (by omega)
                  refine ev_s (is_aload_n rfl rfl) ?_
                  refine ev_s (is_bipush (nI 19) rfl rfl) ?_
                  refine ev_c1 (is_callR 2 [_] [] rfl rfl rfl rfl rfl (Nat.le_of_ble_eq_true rfl) rfl rfl rfl (pu_s hC 110 rfl rfl)) rfl rfl (re_openN hC hsn c5 19) ?_
                  refine ev_s (is_if_ne_f rfl (by decide)) ?_
                  refine ev_s (is_iconst (nI 0) rfl rfl) ?_
                  refine ev_ret (is_ireturn rfl rfl (by first | rfl | exact pu_b_nar | decide)) ?_
                  have hst : ya_step (tk_k tb z) (tk_v tb z) (tk_f tb z) (tk_t tb z) (p, C, S, true, false) = .inr (.inl (tk_f tb z p)) := by
                    show ya_want (tk_k tb z) (tk_v tb z) (tk_f tb z) (tk_t tb z) p C S false = _
                    unfold ya_want
                    rw [if_neg (by omega), if_neg (fun q => by cases q.2), if_pos (by omega), opn_no c5]
                  rw [run_e hst] at hr
                  obtain rfl := Option.some.inj hr
                  exact ⟨rfl, rfl, hqn, rfl, hk.2.1⟩
              · refine ev_s (is_iload_n rfl rfl) ?_
                refine ev_s (is_if_eq_t rfl (by decide)) ?_
                refine ev_s (is_aload_n rfl rfl) ?_
                refine ev_s (is_getI' rfl (pu_s hC 110 rfl rfl) rfl rfl hk.2.2.1) ?_
                refine ev_s (is_bipush (nI 45) rfl rfl) ?_
                refine ev_tk_ne rfl (rt_x (q := 45) (by decide) (by omega)) (fun h_105 => ?_) (fun h_105 => ?_)
                · refine ev_s (is_aload_n rfl rfl) ?_
                  refine ev_s (is_getI' rfl (pu_s hC 110 rfl rfl) rfl rfl hk.2.2.1) ?_
                  refine ev_s (is_bipush (nI 40) rfl rfl) ?_
                  refine ev_tk_ne rfl (rt_x (q := 40) (by decide) (by omega)) (fun h_130 => ?_) (fun h_130 => ?_)
                  · refine ev_s (is_iconst (nI 0) rfl rfl) ?_
                    refine ev_ret (is_ireturn rfl rfl (by first | rfl | exact pu_b_nar | decide)) ?_
                    have hst : ya_step (tk_k tb z) (tk_v tb z) (tk_f tb z) (tk_t tb z) (p, C, S, true, false) = .inr (.inl (tk_f tb z p)) := by
                      show ya_want (tk_k tb z) (tk_v tb z) (tk_f tb z) (tk_t tb z) p C S false = _
                      unfold ya_want
                      rw [if_neg (by omega), if_neg (fun q => by cases q.2), if_neg (by omega), if_neg (by omega)]
                    rw [run_e hst] at hr
                    obtain rfl := Option.some.inj hr
                    exact ⟨rfl, rfl, hqn, rfl, hk.2.1⟩
                  · have hT2 := tk_T (tb := tb) (z := z) hT.2.2.1 p hp (by omega)
                    refine ev_s (is_aload_n rfl rfl) ?_
                    refine ev_s (is_iconst (nI 0) rfl rfl) ?_
                    refine ev_c1 (is_callR 2 [_] [] rfl rfl rfl rfl rfl (Nat.le_of_ble_eq_true rfl) rfl rfl rfl (pu_s hC 110 rfl rfl)) rfl rfl (re_openN hC hsn c5 0) ?_
                    refine ev_s (is_if_ne_f rfl (by decide)) ?_
                    refine ev_s (is_iconst (nI 0) rfl rfl) ?_
                    refine ev_ret (is_ireturn rfl rfl (by first | rfl | exact pu_b_nar | decide)) ?_
                    have hst : ya_step (tk_k tb z) (tk_v tb z) (tk_f tb z) (tk_t tb z) (p, C, S, true, false) = .inr (.inl (tk_f tb z p)) := by
                      show ya_want (tk_k tb z) (tk_v tb z) (tk_f tb z) (tk_t tb z) p C S false = _
                      unfold ya_want
                      rw [if_neg (by omega), if_neg (fun q => by cases q.2), if_neg (by omega), if_pos (by omega), opn_no c5]
                    rw [run_e hst] at hr
                    obtain rfl := Option.some.inj hr
                    exact ⟨rfl, rfl, hqn, rfl, hk.2.1⟩
                · have hT2 := tk_T (tb := tb) (z := z) hT.2.2.1 p hp (by omega)
                  refine ev_s (is_aload_n rfl rfl) ?_
                  refine ev_s (is_bipush (nI 19) rfl rfl) ?_
                  refine ev_c1 (is_callR 2 [_] [] rfl rfl rfl rfl rfl (Nat.le_of_ble_eq_true rfl) rfl rfl rfl (pu_s hC 110 rfl rfl)) rfl rfl (re_openN hC hsn c5 19) ?_
                  refine ev_s (is_if_ne_f rfl (by decide)) ?_
                  refine ev_s (is_iconst (nI 0) rfl rfl) ?_
                  refine ev_ret (is_ireturn rfl rfl (by first | rfl | exact pu_b_nar | decide)) ?_
                  have hst : ya_step (tk_k tb z) (tk_v tb z) (tk_f tb z) (tk_t tb z) (p, C, S, true, false) = .inr (.inl (tk_f tb z p)) := by
                    show ya_want (tk_k tb z) (tk_v tb z) (tk_f tb z) (tk_t tb z) p C S false = _
                    unfold ya_want
                    rw [if_neg (by omega), if_neg (fun q => by cases q.2), if_pos (by omega), opn_no c5]
                  rw [run_e hst] at hr
                  obtain rfl := Option.some.inj hr
                  exact ⟨rfl, rfl, hqn, rfl, hk.2.1⟩
            · have hT2 := tk_T (tb := tb) (z := z) hT.2.2.1 p hp (by omega)
              refine ev_s (is_aload_n rfl rfl) ?_
              refine ev_s (is_aload_n rfl rfl) ?_
              refine ev_s (is_getI' rfl (pu_s hC 110 rfl rfl) rfl rfl hk.2.2.1) ?_
              refine ev_s (is_iconst (nI 1) rfl rfl) ?_
              refine ev_tk_ne rfl (rt_e2 (by omega)) (fun h_44 => ?_) (fun h_44 => ?_)
              · first
                  | (exfalso; omega)
                  | (
                     refine ev_s (is_aload_n rfl rfl) ?_
                     refine ev_s (is_getI' rfl (pu_s hC 110 rfl rfl) rfl rfl (hk.2.2.2.1 (by omega))) ?_
                     refine ev_q0 (is_callR 2 [_] [] rfl rfl rfl rfl rfl (Nat.le_of_ble_eq_true rfl) rfl rfl rfl (pu_s hC 110 rfl rfl)) rfl rfl (re_puts hC ht h9n hon (by omega) _) (fun r_61 mi mr hq_61 => ?_)
                     obtain ⟨rfl, hq1, ho2, hp1, h124, h110⟩ := hq_61
                     have hcode : ro_ t mi (C ++ [pd_code (tk_k tb z) (tk_v tb z) p]) := by
                       first
                         | (rw [show pd_code (tk_k tb z) (tk_v tb z) p = 100000 + tk_v tb z p from if_pos (by omega)]; exact ho2)
                         | (rw [show pd_code (tk_k tb z) (tk_v tb z) p = tk_v tb z p from if_neg (by omega)]; exact ho2)
                     have h9b : mi 110 9 = nI t := by rw [hq1.2.1 9 (by decide)]; exact h9n
                     have hs3 : rs_ mi S := ⟨by rw [h110 24 (by decide)]; exact hsn.1, fun j hj => by rw [h124]; exact hsn.2.1 j hj, by rw [h110 25 (by decide)]; exact hsn.2.2.1, hsn.2.2.2⟩
                     refine ev_s (is_aload_n rfl rfl) ?_
                     refine ev_s (is_bipush (nI 7) rfl rfl) ?_
                     refine ev_q0 (is_callR 2 [_] [] rfl rfl rfl rfl rfl (Nat.le_of_ble_eq_true rfl) rfl rfl rfl (pu_s hC 110 rfl rfl)) rfl rfl (re_unw hC ht (L := 7) (by decide) (by decide) (by rw [List.length_append]; show C.length + 1 + S.length < 200; omega) h9b hcode hs3) (fun r_67 mi mr hq_67 => ?_)
                     obtain ⟨rfl, hq2, ho4, hs4, hp2⟩ := hq_67
                     refine ev_s (is_iconst (nI 0) rfl rfl) ?_
                     refine ev_s (st_istore_n_1 rfl rfl) ?_
                     refine ev_s (is_goto rfl) ?_
                     have hst : ya_step (tk_k tb z) (tk_v tb z) (tk_f tb z) (tk_t tb z) (p, C, S, true, false) = .inl (tk_t tb z p, (ya_unw 7 (C ++ [pd_code (tk_k tb z) (tk_v tb z) p]) S).1, (ya_unw 7 (C ++ [pd_code (tk_k tb z) (tk_v tb z) p]) S).2, false, false) := by
                       show ya_want (tk_k tb z) (tk_v tb z) (tk_f tb z) (tk_t tb z) p C S false = _
                       unfold ya_want
                       rw [if_pos (by omega)]
                     rw [run_s hst] at hr
                     exact ih _ _ _ _ _ a _ _ hr (rq_tr (rq_tr hqn hq1) hq2) hT2.2 ((rk_p (rk_p hk hp1) hp2).1) (by rw [hq2.2.1 9 (by decide)]; exact h9b) (ho4) (hs4) (by have := unw_len (L := 7) S (C ++ [pd_code (tk_k tb z) (tk_v tb z) p]); rw [List.length_append] at this; have h1 : [pd_code (tk_k tb z) (tk_v tb z) p].length = 1 := rfl; omega)
                    )
              · first
                  | (exfalso; omega)
                  | (
                     refine ev_s (is_ldcI (nI 100000) rfl rfl) ?_
                     refine ev_s (is_aload_n rfl rfl) ?_
                     refine ev_s (is_getI' rfl (pu_s hC 110 rfl rfl) rfl rfl (hk.2.2.2.1 (by omega))) ?_
                     first
                       | refine ev_s (is_iadd _ rfl (nI_add _ _)) ?_
                       | refine ev_s (is_iadd _ rfl rfl) ?_
                     refine ev_s (is_goto rfl) ?_
                     refine ev_q0 (is_callR 2 [_] [] rfl rfl rfl rfl rfl (Nat.le_of_ble_eq_true rfl) rfl rfl rfl (pu_s hC 110 rfl rfl)) rfl rfl (re_puts hC ht h9n hon (by omega) _) (fun r_61 mi mr hq_61 => ?_)
                     obtain ⟨rfl, hq1, ho2, hp1, h124, h110⟩ := hq_61
                     have hcode : ro_ t mi (C ++ [pd_code (tk_k tb z) (tk_v tb z) p]) := by
                       first
                         | (rw [show pd_code (tk_k tb z) (tk_v tb z) p = 100000 + tk_v tb z p from if_pos (by omega)]; exact ho2)
                         | (rw [show pd_code (tk_k tb z) (tk_v tb z) p = tk_v tb z p from if_neg (by omega)]; exact ho2)
                     have h9b : mi 110 9 = nI t := by rw [hq1.2.1 9 (by decide)]; exact h9n
                     have hs3 : rs_ mi S := ⟨by rw [h110 24 (by decide)]; exact hsn.1, fun j hj => by rw [h124]; exact hsn.2.1 j hj, by rw [h110 25 (by decide)]; exact hsn.2.2.1, hsn.2.2.2⟩
                     refine ev_s (is_aload_n rfl rfl) ?_
                     refine ev_s (is_bipush (nI 7) rfl rfl) ?_
                     refine ev_q0 (is_callR 2 [_] [] rfl rfl rfl rfl rfl (Nat.le_of_ble_eq_true rfl) rfl rfl rfl (pu_s hC 110 rfl rfl)) rfl rfl (re_unw hC ht (L := 7) (by decide) (by decide) (by rw [List.length_append]; show C.length + 1 + S.length < 200; omega) h9b hcode hs3) (fun r_67 mi mr hq_67 => ?_)
                     obtain ⟨rfl, hq2, ho4, hs4, hp2⟩ := hq_67
                     refine ev_s (is_iconst (nI 0) rfl rfl) ?_
                     refine ev_s (st_istore_n_1 rfl rfl) ?_
                     refine ev_s (is_goto rfl) ?_
                     have hst : ya_step (tk_k tb z) (tk_v tb z) (tk_f tb z) (tk_t tb z) (p, C, S, true, false) = .inl (tk_t tb z p, (ya_unw 7 (C ++ [pd_code (tk_k tb z) (tk_v tb z) p]) S).1, (ya_unw 7 (C ++ [pd_code (tk_k tb z) (tk_v tb z) p]) S).2, false, false) := by
                       show ya_want (tk_k tb z) (tk_v tb z) (tk_f tb z) (tk_t tb z) p C S false = _
                       unfold ya_want
                       rw [if_pos (by omega)]
                     rw [run_s hst] at hr
                     exact ih _ _ _ _ _ a _ _ hr (rq_tr (rq_tr hqn hq1) hq2) hT2.2 ((rk_p (rk_p hk hp1) hp2).1) (by rw [hq2.2.1 9 (by decide)]; exact h9b) (ho4) (hs4) (by have := unw_len (L := 7) S (C ++ [pd_code (tk_k tb z) (tk_v tb z) p]); rw [List.length_append] at this; have h1 : [pd_code (tk_k tb z) (tk_v tb z) p].length = 1 := rfl; omega)
                    )
        · refine ev_s (is_aload_n rfl rfl) ?_
          refine ev_q0 (is_callR 1 [] [] rfl rfl rfl rfl rfl (Nat.le_of_ble_eq_true rfl) rfl rfl rfl (pu_s hC 110 rfl rfl)) rfl rfl (re_next hC (re_M_q hT hq) hp h18) (fun r_15 mi mr hq_15 => ?_)
          obtain ⟨rfl, hn, hk⟩ := hq_15
          have hqn := rq_tr hq (rn_q (t := t) hn)
          have h9n : mi 110 9 = nI t := by rw [hn.2 9 (by decide)]; exact h9
          have hon := ro_n ho hn
          have hsn := rs_n hs hn
          have hTn := re_M_q hT hqn
          have hk256 := tk_lt (tb := tb) (z := z) hT.2.2.2.1 p
          refine ev_s (is_iload_n rfl rfl) ?_
          refine ev_s (is_if_eq_f rfl (by decide)) ?_
          refine ev_s (is_aload_n rfl rfl) ?_
          refine ev_s (is_getI' rfl (pu_s hC 110 rfl rfl) rfl rfl hk.2.2.1) ?_
          refine ev_s (is_iconst (nI 1) rfl rfl) ?_
          refine ev_tk_eq rfl (rt_e2 (by omega)) (fun h_27 => ?_) (fun h_27 => ?_)
          · have hT2 := tk_T (tb := tb) (z := z) hT.2.2.1 p hp (by omega)
            refine ev_s (is_aload_n rfl rfl) ?_
            refine ev_s (is_aload_n rfl rfl) ?_
            refine ev_s (is_getI' rfl (pu_s hC 110 rfl rfl) rfl rfl hk.2.2.1) ?_
            refine ev_s (is_iconst (nI 1) rfl rfl) ?_
            refine ev_tk_ne rfl (rt_e2 (by omega)) (fun h_44 => ?_) (fun h_44 => ?_)
            · first
                | (exfalso; omega)
                | (
                   refine ev_s (is_aload_n rfl rfl) ?_
                   refine ev_s (is_getI' rfl (pu_s hC 110 rfl rfl) rfl rfl (hk.2.2.2.1 (by omega))) ?_
                   refine ev_q0 (is_callR 2 [_] [] rfl rfl rfl rfl rfl (Nat.le_of_ble_eq_true rfl) rfl rfl rfl (pu_s hC 110 rfl rfl)) rfl rfl (re_puts hC ht h9n hon (by omega) _) (fun r_61 mi mr hq_61 => ?_)
                   obtain ⟨rfl, hq1, ho2, hp1, h124, h110⟩ := hq_61
                   have hcode : ro_ t mi (C ++ [pd_code (tk_k tb z) (tk_v tb z) p]) := by
                     first
                       | (rw [show pd_code (tk_k tb z) (tk_v tb z) p = 100000 + tk_v tb z p from if_pos (by omega)]; exact ho2)
                       | (rw [show pd_code (tk_k tb z) (tk_v tb z) p = tk_v tb z p from if_neg (by omega)]; exact ho2)
                   have h9b : mi 110 9 = nI t := by rw [hq1.2.1 9 (by decide)]; exact h9n
                   have hs3 : rs_ mi S := ⟨by rw [h110 24 (by decide)]; exact hsn.1, fun j hj => by rw [h124]; exact hsn.2.1 j hj, by rw [h110 25 (by decide)]; exact hsn.2.2.1, hsn.2.2.2⟩
                   refine ev_s (is_aload_n rfl rfl) ?_
                   refine ev_s (is_bipush (nI 7) rfl rfl) ?_
                   refine ev_q0 (is_callR 2 [_] [] rfl rfl rfl rfl rfl (Nat.le_of_ble_eq_true rfl) rfl rfl rfl (pu_s hC 110 rfl rfl)) rfl rfl (re_unw hC ht (L := 7) (by decide) (by decide) (by rw [List.length_append]; show C.length + 1 + S.length < 200; omega) h9b hcode hs3) (fun r_67 mi mr hq_67 => ?_)
                   obtain ⟨rfl, hq2, ho4, hs4, hp2⟩ := hq_67
                   refine ev_s (is_iconst (nI 0) rfl rfl) ?_
                   refine ev_s (st_istore_n_1 rfl rfl) ?_
                   refine ev_s (is_goto rfl) ?_
                   have hst : ya_step (tk_k tb z) (tk_v tb z) (tk_f tb z) (tk_t tb z) (p, C, S, true, false) = .inl (tk_t tb z p, (ya_unw 7 (C ++ [pd_code (tk_k tb z) (tk_v tb z) p]) S).1, (ya_unw 7 (C ++ [pd_code (tk_k tb z) (tk_v tb z) p]) S).2, false, false) := by
                     show ya_want (tk_k tb z) (tk_v tb z) (tk_f tb z) (tk_t tb z) p C S false = _
                     unfold ya_want
                     rw [if_pos (by omega)]
                   rw [run_s hst] at hr
                   exact ih _ _ _ _ _ a _ _ hr (rq_tr (rq_tr hqn hq1) hq2) hT2.2 ((rk_p (rk_p hk hp1) hp2).1) (by rw [hq2.2.1 9 (by decide)]; exact h9b) (ho4) (hs4) (by have := unw_len (L := 7) S (C ++ [pd_code (tk_k tb z) (tk_v tb z) p]); rw [List.length_append] at this; have h1 : [pd_code (tk_k tb z) (tk_v tb z) p].length = 1 := rfl; omega)
                  )
            · first
                | (exfalso; omega)
                | (
                   refine ev_s (is_ldcI (nI 100000) rfl rfl) ?_
                   refine ev_s (is_aload_n rfl rfl) ?_
                   refine ev_s (is_getI' rfl (pu_s hC 110 rfl rfl) rfl rfl (hk.2.2.2.1 (by omega))) ?_
                   first
                     | refine ev_s (is_iadd _ rfl (nI_add _ _)) ?_
                     | refine ev_s (is_iadd _ rfl rfl) ?_
                   refine ev_s (is_goto rfl) ?_
                   refine ev_q0 (is_callR 2 [_] [] rfl rfl rfl rfl rfl (Nat.le_of_ble_eq_true rfl) rfl rfl rfl (pu_s hC 110 rfl rfl)) rfl rfl (re_puts hC ht h9n hon (by omega) _) (fun r_61 mi mr hq_61 => ?_)
                   obtain ⟨rfl, hq1, ho2, hp1, h124, h110⟩ := hq_61
                   have hcode : ro_ t mi (C ++ [pd_code (tk_k tb z) (tk_v tb z) p]) := by
                     first
                       | (rw [show pd_code (tk_k tb z) (tk_v tb z) p = 100000 + tk_v tb z p from if_pos (by omega)]; exact ho2)
                       | (rw [show pd_code (tk_k tb z) (tk_v tb z) p = tk_v tb z p from if_neg (by omega)]; exact ho2)
                   have h9b : mi 110 9 = nI t := by rw [hq1.2.1 9 (by decide)]; exact h9n
                   have hs3 : rs_ mi S := ⟨by rw [h110 24 (by decide)]; exact hsn.1, fun j hj => by rw [h124]; exact hsn.2.1 j hj, by rw [h110 25 (by decide)]; exact hsn.2.2.1, hsn.2.2.2⟩
                   refine ev_s (is_aload_n rfl rfl) ?_
                   refine ev_s (is_bipush (nI 7) rfl rfl) ?_
                   refine ev_q0 (is_callR 2 [_] [] rfl rfl rfl rfl rfl (Nat.le_of_ble_eq_true rfl) rfl rfl rfl (pu_s hC 110 rfl rfl)) rfl rfl (re_unw hC ht (L := 7) (by decide) (by decide) (by rw [List.length_append]; show C.length + 1 + S.length < 200; omega) h9b hcode hs3) (fun r_67 mi mr hq_67 => ?_)
                   obtain ⟨rfl, hq2, ho4, hs4, hp2⟩ := hq_67
                   refine ev_s (is_iconst (nI 0) rfl rfl) ?_
                   refine ev_s (st_istore_n_1 rfl rfl) ?_
                   refine ev_s (is_goto rfl) ?_
                   have hst : ya_step (tk_k tb z) (tk_v tb z) (tk_f tb z) (tk_t tb z) (p, C, S, true, false) = .inl (tk_t tb z p, (ya_unw 7 (C ++ [pd_code (tk_k tb z) (tk_v tb z) p]) S).1, (ya_unw 7 (C ++ [pd_code (tk_k tb z) (tk_v tb z) p]) S).2, false, false) := by
                     show ya_want (tk_k tb z) (tk_v tb z) (tk_f tb z) (tk_t tb z) p C S false = _
                     unfold ya_want
                     rw [if_pos (by omega)]
                   rw [run_s hst] at hr
                   exact ih _ _ _ _ _ a _ _ hr (rq_tr (rq_tr hqn hq1) hq2) hT2.2 ((rk_p (rk_p hk hp1) hp2).1) (by rw [hq2.2.1 9 (by decide)]; exact h9b) (ho4) (hs4) (by have := unw_len (L := 7) S (C ++ [pd_code (tk_k tb z) (tk_v tb z) p]); rw [List.length_append] at this; have h1 : [pd_code (tk_k tb z) (tk_v tb z) p].length = 1 := rfl; omega)
                  )
          · refine ev_s (is_aload_n rfl rfl) ?_
            refine ev_s (is_getI' rfl (pu_s hC 110 rfl rfl) rfl rfl hk.2.2.1) ?_
            refine ev_s (is_iconst (nI 2) rfl rfl) ?_
            refine ev_tk_ne rfl (rt_e3 (by omega)) (fun h_35 => ?_) (fun h_35 => ?_)
            · refine ev_s (is_aload_n rfl rfl) ?_
              refine ev_s (is_getI' rfl (pu_s hC 110 rfl rfl) rfl rfl hk.2.2.1) ?_
              refine ev_s (is_bipush (nI 6) rfl rfl) ?_
              refine ev_tk_ne rfl (rt_e9 (by omega)) (fun h_81 => ?_) (fun h_81 => ?_)
              · refine ev_s (is_aload_n rfl rfl) ?_
                refine ev_s (is_getI' rfl (pu_s hC 110 rfl rfl) rfl rfl hk.2.2.1) ?_
                refine ev_s (is_bipush (nI 45) rfl rfl) ?_
                refine ev_tk_ne rfl (rt_x (q := 45) (by decide) (by omega)) (fun h_105 => ?_) (fun h_105 => ?_)
                · refine ev_s (is_aload_n rfl rfl) ?_
                  refine ev_s (is_getI' rfl (pu_s hC 110 rfl rfl) rfl rfl hk.2.2.1) ?_
                  refine ev_s (is_bipush (nI 40) rfl rfl) ?_
                  refine ev_tk_ne rfl (rt_x (q := 40) (by decide) (by omega)) (fun h_130 => ?_) (fun h_130 => ?_)
                  · refine ev_s (is_iconst (nI 0) rfl rfl) ?_
                    refine ev_ret (is_ireturn rfl rfl (by first | rfl | exact pu_b_nar | decide)) ?_
                    have hst : ya_step (tk_k tb z) (tk_v tb z) (tk_f tb z) (tk_t tb z) (p, C, S, true, false) = .inr (.inl (tk_f tb z p)) := by
                      show ya_want (tk_k tb z) (tk_v tb z) (tk_f tb z) (tk_t tb z) p C S false = _
                      unfold ya_want
                      rw [if_neg (by omega), if_neg (fun q => by cases q.2), if_neg (by omega), if_neg (by omega)]
                    rw [run_e hst] at hr
                    obtain rfl := Option.some.inj hr
                    exact ⟨rfl, rfl, hqn, rfl, hk.2.1⟩
                  · have hT2 := tk_T (tb := tb) (z := z) hT.2.2.1 p hp (by omega)
                    refine ev_s (is_aload_n rfl rfl) ?_
                    refine ev_s (is_iconst (nI 0) rfl rfl) ?_
                    refine ev_q1 (is_callR 2 [_] [] rfl rfl rfl rfl rfl (Nat.le_of_ble_eq_true rfl) rfl rfl rfl (pu_s hC 110 rfl rfl)) rfl rfl (re_open (t := t) hC hsn hcn c5 (by omega) (by decide)) (fun r_135 mi mr hq_135 => ?_)
                    obtain ⟨rfl, rfl, hq1, hs3, hp1, e115, e26⟩ := hq_135
                    refine ev_s (is_if_ne_t rfl (by decide)) ?_
                    refine ev_s (is_iconst (nI 1) rfl rfl) ?_
                    refine ev_s (st_istore_n_2 rfl rfl) ?_
                    refine ev_s (is_goto rfl) ?_
                    have hst : ya_step (tk_k tb z) (tk_v tb z) (tk_f tb z) (tk_t tb z) (p, C, S, true, false) = .inl (tk_t tb z p, C, 0 :: S, true, true) := by
                      show ya_want (tk_k tb z) (tk_v tb z) (tk_f tb z) (tk_t tb z) p C S false = _
                      unfold ya_want
                      rw [if_neg (by omega), if_neg (fun q => by cases q.2), if_neg (by omega), if_pos (by omega), opn_yes c5]
                    rw [run_s hst] at hr
                    exact ih _ _ _ _ _ a _ _ hr (rq_tr hqn hq1) hT2.2 ((rk_p hk hp1).1) (by rw [hq1.2.1 9 (by decide)]; exact h9n) (ro_o hon e115 e26) (hs3) (by show C.length + (S.length + 1) ≤ _; omega)
                · have hT2 := tk_T (tb := tb) (z := z) hT.2.2.1 p hp (by omega)
                  refine ev_s (is_aload_n rfl rfl) ?_
                  refine ev_s (is_bipush (nI 19) rfl rfl) ?_
                  refine ev_q1 (is_callR 2 [_] [] rfl rfl rfl rfl rfl (Nat.le_of_ble_eq_true rfl) rfl rfl rfl (pu_s hC 110 rfl rfl)) rfl rfl (re_open (t := t) hC hsn hcn c5 (by omega) (by decide)) (fun r_111 mi mr hq_111 => ?_)
                  obtain ⟨rfl, rfl, hq1, hs3, hp1, e115, e26⟩ := hq_111
                  refine ev_s (is_if_ne_t rfl (by decide)) ?_
                  refine ev_s (is_iconst (nI 0) rfl rfl) ?_
                  refine ev_s (st_istore_n_2 rfl rfl) ?_
                  refine ev_s (is_goto rfl) ?_
                  have hst : ya_step (tk_k tb z) (tk_v tb z) (tk_f tb z) (tk_t tb z) (p, C, S, true, false) = .inl (tk_t tb z p, C, 19 :: S, true, false) := by
                    show ya_want (tk_k tb z) (tk_v tb z) (tk_f tb z) (tk_t tb z) p C S false = _
                    unfold ya_want
                    rw [if_neg (by omega), if_neg (fun q => by cases q.2), if_pos (by omega), opn_yes c5]
                  rw [run_s hst] at hr
                  exact ih _ _ _ _ _ a _ _ hr (rq_tr hqn hq1) hT2.2 ((rk_p hk hp1).1) (by rw [hq1.2.1 9 (by decide)]; exact h9n) (ro_o hon e115 e26) (hs3) (by show C.length + (S.length + 1) ≤ _; omega)
              · refine ev_s (is_iload_n rfl rfl) ?_
                refine ev_s (is_if_eq_t rfl (by decide)) ?_
                refine ev_s (is_aload_n rfl rfl) ?_
                refine ev_s (is_getI' rfl (pu_s hC 110 rfl rfl) rfl rfl hk.2.2.1) ?_
                refine ev_s (is_bipush (nI 45) rfl rfl) ?_
                refine ev_tk_ne rfl (rt_x (q := 45) (by decide) (by omega)) (fun h_105 => ?_) (fun h_105 => ?_)
                · refine ev_s (is_aload_n rfl rfl) ?_
                  refine ev_s (is_getI' rfl (pu_s hC 110 rfl rfl) rfl rfl hk.2.2.1) ?_
                  refine ev_s (is_bipush (nI 40) rfl rfl) ?_
                  refine ev_tk_ne rfl (rt_x (q := 40) (by decide) (by omega)) (fun h_130 => ?_) (fun h_130 => ?_)
                  · refine ev_s (is_iconst (nI 0) rfl rfl) ?_
                    refine ev_ret (is_ireturn rfl rfl (by first | rfl | exact pu_b_nar | decide)) ?_
                    have hst : ya_step (tk_k tb z) (tk_v tb z) (tk_f tb z) (tk_t tb z) (p, C, S, true, false) = .inr (.inl (tk_f tb z p)) := by
                      show ya_want (tk_k tb z) (tk_v tb z) (tk_f tb z) (tk_t tb z) p C S false = _
                      unfold ya_want
                      rw [if_neg (by omega), if_neg (fun q => by cases q.2), if_neg (by omega), if_neg (by omega)]
                    rw [run_e hst] at hr
                    obtain rfl := Option.some.inj hr
                    exact ⟨rfl, rfl, hqn, rfl, hk.2.1⟩
                  · have hT2 := tk_T (tb := tb) (z := z) hT.2.2.1 p hp (by omega)
                    refine ev_s (is_aload_n rfl rfl) ?_
                    refine ev_s (is_iconst (nI 0) rfl rfl) ?_
                    refine ev_q1 (is_callR 2 [_] [] rfl rfl rfl rfl rfl (Nat.le_of_ble_eq_true rfl) rfl rfl rfl (pu_s hC 110 rfl rfl)) rfl rfl (re_open (t := t) hC hsn hcn c5 (by omega) (by decide)) (fun r_135 mi mr hq_135 => ?_)
                    obtain ⟨rfl, rfl, hq1, hs3, hp1, e115, e26⟩ := hq_135
                    refine ev_s (is_if_ne_t rfl (by decide)) ?_
                    refine ev_s (is_iconst (nI 1) rfl rfl) ?_
                    refine ev_s (st_istore_n_2 rfl rfl) ?_
                    refine ev_s (is_goto rfl) ?_
                    have hst : ya_step (tk_k tb z) (tk_v tb z) (tk_f tb z) (tk_t tb z) (p, C, S, true, false) = .inl (tk_t tb z p, C, 0 :: S, true, true) := by
                      show ya_want (tk_k tb z) (tk_v tb z) (tk_f tb z) (tk_t tb z) p C S false = _
                      unfold ya_want
                      rw [if_neg (by omega), if_neg (fun q => by cases q.2), if_neg (by omega), if_pos (by omega), opn_yes c5]
                    rw [run_s hst] at hr
                    exact ih _ _ _ _ _ a _ _ hr (rq_tr hqn hq1) hT2.2 ((rk_p hk hp1).1) (by rw [hq1.2.1 9 (by decide)]; exact h9n) (ro_o hon e115 e26) (hs3) (by show C.length + (S.length + 1) ≤ _; omega)
                · have hT2 := tk_T (tb := tb) (z := z) hT.2.2.1 p hp (by omega)
                  refine ev_s (is_aload_n rfl rfl) ?_
                  refine ev_s (is_bipush (nI 19) rfl rfl) ?_
                  refine ev_q1 (is_callR 2 [_] [] rfl rfl rfl rfl rfl (Nat.le_of_ble_eq_true rfl) rfl rfl rfl (pu_s hC 110 rfl rfl)) rfl rfl (re_open (t := t) hC hsn hcn c5 (by omega) (by decide)) (fun r_111 mi mr hq_111 => ?_)
                  obtain ⟨rfl, rfl, hq1, hs3, hp1, e115, e26⟩ := hq_111
                  refine ev_s (is_if_ne_t rfl (by decide)) ?_
                  refine ev_s (is_iconst (nI 0) rfl rfl) ?_
                  refine ev_s (st_istore_n_2 rfl rfl) ?_
                  refine ev_s (is_goto rfl) ?_
                  have hst : ya_step (tk_k tb z) (tk_v tb z) (tk_f tb z) (tk_t tb z) (p, C, S, true, false) = .inl (tk_t tb z p, C, 19 :: S, true, false) := by
                    show ya_want (tk_k tb z) (tk_v tb z) (tk_f tb z) (tk_t tb z) p C S false = _
                    unfold ya_want
                    rw [if_neg (by omega), if_neg (fun q => by cases q.2), if_pos (by omega), opn_yes c5]
                  rw [run_s hst] at hr
                  exact ih _ _ _ _ _ a _ _ hr (rq_tr hqn hq1) hT2.2 ((rk_p hk hp1).1) (by rw [hq1.2.1 9 (by decide)]; exact h9n) (ro_o hon e115 e26) (hs3) (by show C.length + (S.length + 1) ≤ _; omega)
            · have hT2 := tk_T (tb := tb) (z := z) hT.2.2.1 p hp (by omega)
              refine ev_s (is_aload_n rfl rfl) ?_
              refine ev_s (is_aload_n rfl rfl) ?_
              refine ev_s (is_getI' rfl (pu_s hC 110 rfl rfl) rfl rfl hk.2.2.1) ?_
              refine ev_s (is_iconst (nI 1) rfl rfl) ?_
              refine ev_tk_ne rfl (rt_e2 (by omega)) (fun h_44 => ?_) (fun h_44 => ?_)
              · first
                  | (exfalso; omega)
                  | (
                     refine ev_s (is_aload_n rfl rfl) ?_
                     refine ev_s (is_getI' rfl (pu_s hC 110 rfl rfl) rfl rfl (hk.2.2.2.1 (by omega))) ?_
                     refine ev_q0 (is_callR 2 [_] [] rfl rfl rfl rfl rfl (Nat.le_of_ble_eq_true rfl) rfl rfl rfl (pu_s hC 110 rfl rfl)) rfl rfl (re_puts hC ht h9n hon (by omega) _) (fun r_61 mi mr hq_61 => ?_)
                     obtain ⟨rfl, hq1, ho2, hp1, h124, h110⟩ := hq_61
                     have hcode : ro_ t mi (C ++ [pd_code (tk_k tb z) (tk_v tb z) p]) := by
                       first
                         | (rw [show pd_code (tk_k tb z) (tk_v tb z) p = 100000 + tk_v tb z p from if_pos (by omega)]; exact ho2)
                         | (rw [show pd_code (tk_k tb z) (tk_v tb z) p = tk_v tb z p from if_neg (by omega)]; exact ho2)
                     have h9b : mi 110 9 = nI t := by rw [hq1.2.1 9 (by decide)]; exact h9n
                     have hs3 : rs_ mi S := ⟨by rw [h110 24 (by decide)]; exact hsn.1, fun j hj => by rw [h124]; exact hsn.2.1 j hj, by rw [h110 25 (by decide)]; exact hsn.2.2.1, hsn.2.2.2⟩
                     refine ev_s (is_aload_n rfl rfl) ?_
                     refine ev_s (is_bipush (nI 7) rfl rfl) ?_
                     refine ev_q0 (is_callR 2 [_] [] rfl rfl rfl rfl rfl (Nat.le_of_ble_eq_true rfl) rfl rfl rfl (pu_s hC 110 rfl rfl)) rfl rfl (re_unw hC ht (L := 7) (by decide) (by decide) (by rw [List.length_append]; show C.length + 1 + S.length < 200; omega) h9b hcode hs3) (fun r_67 mi mr hq_67 => ?_)
                     obtain ⟨rfl, hq2, ho4, hs4, hp2⟩ := hq_67
                     refine ev_s (is_iconst (nI 0) rfl rfl) ?_
                     refine ev_s (st_istore_n_1 rfl rfl) ?_
                     refine ev_s (is_goto rfl) ?_
                     have hst : ya_step (tk_k tb z) (tk_v tb z) (tk_f tb z) (tk_t tb z) (p, C, S, true, false) = .inl (tk_t tb z p, (ya_unw 7 (C ++ [pd_code (tk_k tb z) (tk_v tb z) p]) S).1, (ya_unw 7 (C ++ [pd_code (tk_k tb z) (tk_v tb z) p]) S).2, false, false) := by
                       show ya_want (tk_k tb z) (tk_v tb z) (tk_f tb z) (tk_t tb z) p C S false = _
                       unfold ya_want
                       rw [if_pos (by omega)]
                     rw [run_s hst] at hr
                     exact ih _ _ _ _ _ a _ _ hr (rq_tr (rq_tr hqn hq1) hq2) hT2.2 ((rk_p (rk_p hk hp1) hp2).1) (by rw [hq2.2.1 9 (by decide)]; exact h9b) (ho4) (hs4) (by have := unw_len (L := 7) S (C ++ [pd_code (tk_k tb z) (tk_v tb z) p]); rw [List.length_append] at this; have h1 : [pd_code (tk_k tb z) (tk_v tb z) p].length = 1 := rfl; omega)
                    )
              · first
                  | (exfalso; omega)
                  | (
                     refine ev_s (is_ldcI (nI 100000) rfl rfl) ?_
                     refine ev_s (is_aload_n rfl rfl) ?_
                     refine ev_s (is_getI' rfl (pu_s hC 110 rfl rfl) rfl rfl (hk.2.2.2.1 (by omega))) ?_
                     first
                       | refine ev_s (is_iadd _ rfl (nI_add _ _)) ?_
                       | refine ev_s (is_iadd _ rfl rfl) ?_
                     refine ev_s (is_goto rfl) ?_
                     refine ev_q0 (is_callR 2 [_] [] rfl rfl rfl rfl rfl (Nat.le_of_ble_eq_true rfl) rfl rfl rfl (pu_s hC 110 rfl rfl)) rfl rfl (re_puts hC ht h9n hon (by omega) _) (fun r_61 mi mr hq_61 => ?_)
                     obtain ⟨rfl, hq1, ho2, hp1, h124, h110⟩ := hq_61
                     have hcode : ro_ t mi (C ++ [pd_code (tk_k tb z) (tk_v tb z) p]) := by
                       first
                         | (rw [show pd_code (tk_k tb z) (tk_v tb z) p = 100000 + tk_v tb z p from if_pos (by omega)]; exact ho2)
                         | (rw [show pd_code (tk_k tb z) (tk_v tb z) p = tk_v tb z p from if_neg (by omega)]; exact ho2)
                     have h9b : mi 110 9 = nI t := by rw [hq1.2.1 9 (by decide)]; exact h9n
                     have hs3 : rs_ mi S := ⟨by rw [h110 24 (by decide)]; exact hsn.1, fun j hj => by rw [h124]; exact hsn.2.1 j hj, by rw [h110 25 (by decide)]; exact hsn.2.2.1, hsn.2.2.2⟩
                     refine ev_s (is_aload_n rfl rfl) ?_
                     refine ev_s (is_bipush (nI 7) rfl rfl) ?_
                     refine ev_q0 (is_callR 2 [_] [] rfl rfl rfl rfl rfl (Nat.le_of_ble_eq_true rfl) rfl rfl rfl (pu_s hC 110 rfl rfl)) rfl rfl (re_unw hC ht (L := 7) (by decide) (by decide) (by rw [List.length_append]; show C.length + 1 + S.length < 200; omega) h9b hcode hs3) (fun r_67 mi mr hq_67 => ?_)
                     obtain ⟨rfl, hq2, ho4, hs4, hp2⟩ := hq_67
                     refine ev_s (is_iconst (nI 0) rfl rfl) ?_
                     refine ev_s (st_istore_n_1 rfl rfl) ?_
                     refine ev_s (is_goto rfl) ?_
                     have hst : ya_step (tk_k tb z) (tk_v tb z) (tk_f tb z) (tk_t tb z) (p, C, S, true, false) = .inl (tk_t tb z p, (ya_unw 7 (C ++ [pd_code (tk_k tb z) (tk_v tb z) p]) S).1, (ya_unw 7 (C ++ [pd_code (tk_k tb z) (tk_v tb z) p]) S).2, false, false) := by
                       show ya_want (tk_k tb z) (tk_v tb z) (tk_f tb z) (tk_t tb z) p C S false = _
                       unfold ya_want
                       rw [if_pos (by omega)]
                     rw [run_s hst] at hr
                     exact ih _ _ _ _ _ a _ _ hr (rq_tr (rq_tr hqn hq1) hq2) hT2.2 ((rk_p (rk_p hk hp1) hp2).1) (by rw [hq2.2.1 9 (by decide)]; exact h9b) (ho4) (hs4) (by have := unw_len (L := 7) S (C ++ [pd_code (tk_k tb z) (tk_v tb z) p]); rw [List.length_append] at this; have h1 : [pd_code (tk_k tb z) (tk_v tb z) p].length = 1 := rfl; omega)
                    )
    | false =>
      refine ev_s (is_aload_n rfl rfl) ?_
      refine ev_q0 (is_callR 1 [] [] rfl rfl rfl rfl rfl (Nat.le_of_ble_eq_true rfl) rfl rfl rfl (pu_s hC 110 rfl rfl)) rfl rfl (re_next hC (re_M_q hT hq) hp h18) (fun r_15 mi mr hq_15 => ?_)
      obtain ⟨rfl, hn, hk⟩ := hq_15
      have hqn := rq_tr hq (rn_q (t := t) hn)
      have h9n : mi 110 9 = nI t := by rw [hn.2 9 (by decide)]; exact h9
      have hon := ro_n ho hn
      have hsn := rs_n hs hn
      have hTn := re_M_q hT hqn
      have hk256 := tk_lt (tb := tb) (z := z) hT.2.2.2.1 p
      refine ev_s (is_iload_n rfl rfl) ?_
      refine ev_s (is_if_eq_t rfl (by decide)) ?_
      refine ev_s (is_aload_n rfl rfl) ?_
      refine ev_s (is_getI' rfl (pu_s hC 110 rfl rfl) rfl rfl hk.2.2.1) ?_
      refine ev_s (is_bipush (nI 59) rfl rfl) ?_
      refine ev_tk_ne rfl (rt_x (q := 59) (by decide) (by omega)) (fun h_156 => ?_) (fun h_156 => ?_)
      · refine ev_s (is_aload_n rfl rfl) ?_
        refine ev_s (is_getI' rfl (pu_s hC 110 rfl rfl) rfl rfl hk.2.2.1) ?_
        refine ev_s (is_bipush (nI 41) rfl rfl) ?_
        refine ev_tk_ne rfl (rt_x (q := 41) (by decide) (by omega)) (fun h_183 => ?_) (fun h_183 => ?_)
        · refine ev_s (is_aload_n rfl rfl) ?_
          refine ev_c1 (is_callR 1 [] [] rfl rfl rfl rfl rfl (Nat.le_of_ble_eq_true rfl) rfl rfl rfl (pu_s hC 110 rfl rfl)) rfl rfl (re_sign hC hk256 hk.2.2.1) ?_
          by_cases h0 : op_all (tk_k tb z p) = 0
          · rw [if_pos h0]
            refine ev_s (st_istore_n_3 rfl rfl) ?_
            refine ev_s (is_iload_n rfl rfl) ?_
            refine ev_s (is_iconst ((-1)) rfl rfl) ?_
            refine ev_s (is_icmp_eq_t rfl rfl) ?_
            refine ev_s (is_iconst (nI 0) rfl rfl) ?_
            refine ev_ret (is_ireturn rfl rfl (by first | rfl | exact pu_b_nar | decide)) ?_
            have hst : ya_step (tk_k tb z) (tk_v tb z) (tk_f tb z) (tk_t tb z) (p, C, S, false, m) = .inr (.inl (tk_f tb z p)) := by
              show ya_have (tk_k tb z) (tk_f tb z) (tk_t tb z) p C S m = _
              unfold ya_have
              rw [if_neg (by omega), if_neg (by omega), if_pos h0]
            rw [run_e hst] at hr
            obtain rfl := Option.some.inj hr
            exact ⟨rfl, rfl, hqn, rfl, hk.2.1⟩
          · rw [if_neg h0]
            have hos := op_all_s h0
            have hT2 := tk_T (tb := tb) (z := z) hT.2.2.1 p hp (fun q => h0 (by rw [q]; rfl))
            refine ev_s (st_istore_n_3 rfl rfl) ?_
            refine ev_s (is_iload_n rfl rfl) ?_
            refine ev_s (is_iconst ((-1)) rfl rfl) ?_
            refine ev_s (is_icmp_eq_f rfl (nI_ne_m1 (by omega))) ?_
            refine ev_s (is_aload_n rfl rfl) ?_
            refine ev_s (is_iload_n rfl rfl) ?_
            refine ev_q1 (is_callR 2 [_] [] rfl rfl rfl rfl rfl (Nat.le_of_ble_eq_true rfl) rfl rfl rfl (pu_s hC 110 rfl rfl)) rfl rfl (re_between hC ht (op_all_s h0) (by omega) h9n hon hsn) (fun r_241 mi mr hq_241 => ?_)
            obtain ⟨rfl, hq1, hp1, hor⟩ := hq_241
            have hul := unw_len (L := (if ya_rk (op_all (tk_k tb z p)) = 4 then 5 else ya_rk (op_all (tk_k tb z p)))) S C
            rcases hor with ⟨g1, g2, rfl⟩ | ⟨g1, rfl, ho4, hs4⟩
            · refine ev_s (is_if_ne_f rfl (by decide)) ?_
              refine ev_s (is_iconst (nI 0) rfl rfl) ?_
              refine ev_ret (is_ireturn rfl rfl (by first | rfl | exact pu_b_nar | decide)) ?_
              have hst : ya_step (tk_k tb z) (tk_v tb z) (tk_f tb z) (tk_t tb z) (p, C, S, false, m) = .inr (.inl (tk_f tb z p)) := by
                show ya_have (tk_k tb z) (tk_f tb z) (tk_t tb z) p C S m = _
                unfold ya_have
                rw [if_neg (by omega), if_neg (by omega), if_neg h0]
                exact if_pos ⟨g1, g2⟩
              rw [run_e hst] at hr
              obtain rfl := Option.some.inj hr
              exact ⟨rfl, rfl, rq_tr hqn hq1, rfl, (rk_p hk hp1).2.1⟩
            · refine ev_s (is_if_ne_t rfl (by decide)) ?_
              refine ev_s (is_iconst (nI 1) rfl rfl) ?_
              refine ev_s (st_istore_n_1 rfl rfl) ?_
              refine ev_s (is_iload_n rfl rfl) ?_
              refine ev_s (is_bipush (nI 12) rfl rfl) ?_
              refine ev_icmpN_gt rfl (by omega) (by omega) (fun h_254 => ?_) (fun h_254 => ?_)
              · have e12 : decide (op_all (tk_k tb z p) ≤ 12) = false := decide_eq_false (by omega)
                refine ev_s (is_iconst (nI 0) rfl rfl) ?_
                refine ev_s (st_istore_n_2 rfl rfl) ?_
                refine ev_s (is_goto rfl) ?_
                have hst : ya_step (tk_k tb z) (tk_v tb z) (tk_f tb z) (tk_t tb z) (p, C, S, false, m) = .inl (tk_t tb z p, (ya_unw (if ya_rk (op_all (tk_k tb z p)) = 4 then 5 else ya_rk (op_all (tk_k tb z p))) C S).1, op_all (tk_k tb z p) :: (ya_unw (if ya_rk (op_all (tk_k tb z p)) = 4 then 5 else ya_rk (op_all (tk_k tb z p))) C S).2, true, decide (op_all (tk_k tb z p) ≤ 12)) := by
                  show ya_have (tk_k tb z) (tk_f tb z) (tk_t tb z) p C S m = _
                  unfold ya_have
                  rw [if_neg (by omega), if_neg (by omega), if_neg h0]
                  exact if_neg g1
                rw [run_s hst] at hr
                rw [e12] at hr
                exact ih _ _ _ _ _ a _ _ hr (rq_tr hqn hq1) hT2.2 ((rk_p hk hp1).1) (by rw [hq1.2.1 9 (by decide)]; exact h9n) (ho4) (hs4) (by show _ + (_ + 1) ≤ _; omega)
              · have e12 : decide (op_all (tk_k tb z p) ≤ 12) = true := decide_eq_true (by omega)
                refine ev_s (is_iconst (nI 1) rfl rfl) ?_
                refine ev_s (is_goto rfl) ?_
                refine ev_s (st_istore_n_2 rfl rfl) ?_
                refine ev_s (is_goto rfl) ?_
                have hst : ya_step (tk_k tb z) (tk_v tb z) (tk_f tb z) (tk_t tb z) (p, C, S, false, m) = .inl (tk_t tb z p, (ya_unw (if ya_rk (op_all (tk_k tb z p)) = 4 then 5 else ya_rk (op_all (tk_k tb z p))) C S).1, op_all (tk_k tb z p) :: (ya_unw (if ya_rk (op_all (tk_k tb z p)) = 4 then 5 else ya_rk (op_all (tk_k tb z p))) C S).2, true, decide (op_all (tk_k tb z p) ≤ 12)) := by
                  show ya_have (tk_k tb z) (tk_f tb z) (tk_t tb z) p C S m = _
                  unfold ya_have
                  rw [if_neg (by omega), if_neg (by omega), if_neg h0]
                  exact if_neg g1
                rw [run_s hst] at hr
                rw [e12] at hr
                exact ih _ _ _ _ _ a _ _ hr (rq_tr hqn hq1) hT2.2 ((rk_p hk hp1).1) (by rw [hq1.2.1 9 (by decide)]; exact h9n) (ho4) (hs4) (by show _ + (_ + 1) ≤ _; omega)
        · have hT2 := tk_T (tb := tb) (z := z) hT.2.2.1 p hp (by omega)
          refine ev_s (is_aload_n rfl rfl) ?_
          refine ev_s (is_iconst (nI 1) rfl rfl) ?_
          refine ev_q0 (is_callR 2 [_] [] rfl rfl rfl rfl rfl (Nat.le_of_ble_eq_true rfl) rfl rfl rfl (pu_s hC 110 rfl rfl)) rfl rfl (re_unw hC ht (L := 1) (by decide) (by decide) (by omega) h9n hon hsn) (fun r_188 mi mr hq_188 => ?_)
          obtain ⟨rfl, hq1, ho4, hs4, hp1⟩ := hq_188
          have hul := unw_len (L := 1) S C
          cases hu : (ya_unw 1 C S).2 with
          | nil =>
            rw [hu] at hs4
            refine ev_s (is_aload_n rfl rfl) ?_
            refine ev_s (is_getI' rfl (pu_s hC 110 rfl rfl) rfl rfl hs4.1) ?_
            refine ev_s (is_if_ne_f rfl (by decide)) ?_
            refine ev_s (is_iconst (nI 0) rfl rfl) ?_
            refine ev_ret (is_ireturn rfl rfl (by first | rfl | exact pu_b_nar | decide)) ?_
            have hst : ya_step (tk_k tb z) (tk_v tb z) (tk_f tb z) (tk_t tb z) (p, C, S, false, m) = .inr (.inl (tk_f tb z p)) := by
              show ya_have (tk_k tb z) (tk_f tb z) (tk_t tb z) p C S m = _
              unfold ya_have
              rw [if_neg (by omega), if_pos (by omega)]
              show (match (ya_unw 1 C S).2 with
                | [] => _
                | _ :: S2 => _) = _
              rw [hu]
            rw [run_e hst] at hr
            obtain rfl := Option.some.inj hr
            exact ⟨rfl, rfl, rq_tr hqn hq1, rfl, (rk_p hk hp1).2.1⟩
          | cons x S2 =>
            have hx0 := ya_rk_0 (unw_top S C hu)
            rw [hu] at hs4 hul
            have hul2 : (ya_unw 1 C S).1.length + (S2.length + 1) = C.length + S.length := hul
            refine ev_s (is_aload_n rfl rfl) ?_
            refine ev_s (is_getI' rfl (pu_s hC 110 rfl rfl) rfl rfl hs4.1) ?_
            refine ev_s (is_if_ne_t rfl (fun q => by have := (nI_eq32 (b := 0) (by show S2.length + 1 < _; omega) (by decide)).mp q; exact absurd this (Nat.succ_ne_zero _))) ?_
            refine ev_s (is_aload_n rfl rfl) ?_
            refine ev_s (is_dup rfl rfl) ?_
            refine ev_s (is_getI' rfl (pu_s hC 110 rfl rfl) rfl rfl hs4.1) ?_
            refine ev_s (is_iconst (nI 1) rfl rfl) ?_
            refine ev_s (is_isub (nI S2.length) rfl (by show nI (S2.length + 1) - nI 1 = _; rw [pk_sub (by omega)]; rfl)) ?_
            refine ev_s (is_putI rfl (pu_s hC 110 rfl rfl) rfl rfl rfl) ?_
            refine ev_s (is_aload_n rfl rfl) ?_
            refine ev_s (is_dup rfl rfl) ?_
            refine ev_s (is_getI' rfl (pu_s hC 110 rfl rfl) rfl rfl ((im_u_j _ _ _ _ (by decide)).trans hs4.2.2.1)) ?_
            refine ev_s (is_iconst (nI 1) rfl rfl) ?_
            refine ev_s (is_isub (nI (ya_cn S2)) rfl (by rw [show ya_cn (x :: S2) = 1 + ya_cn S2 from by show (if x = 0 ∨ x = 13 ∨ x = 19 then 1 else 0) + ya_cn S2 = _; rw [if_pos (Or.inl hx0)], pk_sub (by omega), Nat.add_sub_cancel_left])) ?_
            refine ev_s (is_putI rfl (pu_s hC 110 rfl rfl) rfl rfl rfl) ?_
            have hs6 : rs_ (im_u (im_u mi 110 24 (nI S2.length)) 110 25 (nI (ya_cn S2))) S2 := ⟨by rw [im_u_j _ _ _ _ (by decide), im_u_s], fun j hj => by rw [im_u_row' (by decide), im_u_row' (by decide)]; exact rs_tail hs4 j hj, im_u_s _ _ _ _, fun q hq => hs4.2.2.2 q (List.mem_cons_of_mem _ hq)⟩
            refine ev_s (is_aload_n rfl rfl) ?_
            refine ev_s (is_bipush (nI 7) rfl rfl) ?_
            refine ev_q0 (is_callR 2 [_] [] rfl rfl rfl rfl rfl (Nat.le_of_ble_eq_true rfl) rfl rfl rfl (pu_s hC 110 rfl rfl)) rfl rfl (re_unw hC ht (mi := (im_u (im_u mi 110 24 (nI S2.length)) 110 25 (nI (ya_cn S2)))) (C := (ya_unw 1 C S).1) (L := 7) (by decide) (by decide) (by omega) (by rw [im_u_j _ _ _ _ (by decide), im_u_j _ _ _ _ (by decide), hq1.2.1 9 (by decide)]; exact h9n) (ro_o ho4 (by rw [im_u_row' (by decide), im_u_row' (by decide)]) (by rw [im_u_j _ _ _ _ (by decide), im_u_j _ _ _ _ (by decide)])) hs6) (fun r_223 mi mr hq_223 => ?_)
            obtain ⟨rfl, hq2, ho5, hs5, hp2⟩ := hq_223
            have hul3 := unw_len (L := 7) S2 (ya_unw 1 C S).1
            refine ev_s (is_goto rfl) ?_
            have hst : ya_step (tk_k tb z) (tk_v tb z) (tk_f tb z) (tk_t tb z) (p, C, S, false, m) = .inl (tk_t tb z p, (ya_unw 7 (ya_unw 1 C S).1 S2).1, (ya_unw 7 (ya_unw 1 C S).1 S2).2, false, m) := by
              show ya_have (tk_k tb z) (tk_f tb z) (tk_t tb z) p C S m = _
              unfold ya_have
              rw [if_neg (by omega), if_pos (by omega)]
              show (match (ya_unw 1 C S).2 with
                | [] => _
                | _ :: S2 => _) = _
              rw [hu]
            rw [run_s hst] at hr
            exact ih _ _ _ _ _ a _ _ hr (rq_tr (rq_tr (rq_tr hqn hq1) (rq_u (rq_u rq_rf (Or.inl ⟨rfl, by decide⟩)) (Or.inl ⟨rfl, by decide⟩))) hq2) hT2.2 ((rk_p (rk_p (rk_p hk hp1) (fun j q1 q2 => by rw [im_u_j _ _ _ _ (by omega), im_u_j _ _ _ _ (by omega)])) hp2).1) (by rw [hq2.2.1 9 (by decide), im_u_j _ _ _ _ (by decide), im_u_j _ _ _ _ (by decide), hq1.2.1 9 (by decide)]; exact h9n) (ho5) (hs5) (by omega)
      · have hT2 := tk_T (tb := tb) (z := z) hT.2.2.1 p hp (by omega)
        refine ev_s (is_aload_n rfl rfl) ?_
        refine ev_s (is_iconst (nI 1) rfl rfl) ?_
        refine ev_q0 (is_callR 2 [_] [] rfl rfl rfl rfl rfl (Nat.le_of_ble_eq_true rfl) rfl rfl rfl (pu_s hC 110 rfl rfl)) rfl rfl (re_unw hC ht (L := 1) (by decide) (by decide) (by omega) h9n hon hsn) (fun r_161 mi mr hq_161 => ?_)
        obtain ⟨rfl, hq1, ho4, hs4, hp1⟩ := hq_161
        have hul := unw_len (L := 1) S C
        cases hu : (ya_unw 1 C S).2 with
        | nil =>
          rw [hu] at hs4
          refine ev_s (is_aload_n rfl rfl) ?_
          refine ev_s (is_getI' rfl (pu_s hC 110 rfl rfl) rfl rfl hs4.1) ?_
          refine ev_s (is_if_ne_f rfl (by decide)) ?_
          refine ev_s (is_iconst (nI 1) rfl rfl) ?_
          refine ev_s (is_goto rfl) ?_
          refine ev_ret (is_ireturn rfl rfl (by first | rfl | exact pu_b_nar | decide)) ?_
          have hst : ya_step (tk_k tb z) (tk_v tb z) (tk_f tb z) (tk_t tb z) (p, C, S, false, m) = .inr (.inr (tk_t tb z p, (ya_unw 1 C S).1)) := by
            show ya_have (tk_k tb z) (tk_f tb z) (tk_t tb z) p C S m = _
            unfold ya_have
            rw [if_pos (by omega)]
            show (if (ya_unw 1 C S).2 = [] then _ else _) = _
            rw [if_pos hu]
          rw [run_e hst] at hr
          obtain rfl := Option.some.inj hr
          exact ⟨rfl, rfl, rq_tr hqn hq1, rfl, (rk_p hk hp1).1, ho4⟩
        | cons x S2 =>
          rw [hu] at hs4 hul
          have hul2 : (ya_unw 1 C S).1.length + (S2.length + 1) = C.length + S.length := hul
          refine ev_s (is_aload_n rfl rfl) ?_
          refine ev_s (is_getI' rfl (pu_s hC 110 rfl rfl) rfl rfl hs4.1) ?_
          refine ev_s (is_if_ne_t rfl (fun q => by have := (nI_eq32 (b := 0) (by show S2.length + 1 < _; omega) (by decide)).mp q; exact absurd this (Nat.succ_ne_zero _))) ?_
          refine ev_s (is_iconst (nI 0) rfl rfl) ?_
          refine ev_ret (is_ireturn rfl rfl (by first | rfl | exact pu_b_nar | decide)) ?_
          have hst : ya_step (tk_k tb z) (tk_v tb z) (tk_f tb z) (tk_t tb z) (p, C, S, false, m) = .inr (.inl (tk_f tb z p)) := by
            show ya_have (tk_k tb z) (tk_f tb z) (tk_t tb z) p C S m = _
            unfold ya_have
            rw [if_pos (by omega)]
            show (if (ya_unw 1 C S).2 = [] then _ else _) = _
            rw [if_neg (by rw [hu]; exact fun q => by cases q)]
          rw [run_e hst] at hr
          obtain rfl := Option.some.inj hr
          exact ⟨rfl, rfl, rq_tr hqn hq1, rfl, (rk_p hk hp1).2.1⟩
