/-! ===== PURE, the class: all rules of a text ===== -/
def sbm_ (tb : Nat → Nat) (z : Nat) (s : pd_S) (p : Nat) : pd_R := match s with
  | none => .inl (tk_f tb z p)
  | some s => pd_bind (s.2.1 (tk_t tb z p)) fun q cs => .inr (q, cs ++ [19])
def sbb_ (tb : Nat → Nat) (z : Nat) (s : pd_S) (p : Nat) : pd_R := match s with
  | none => .inl (tk_f tb z p)
  | some s => pd_bind (s.2.2 (tk_t tb z p)) fun q cs => if tk_k tb z q = 41 then .inr (tk_t tb z q, cs) else .inl (tk_f tb z q)
def sbn_ (tb : Nat → Nat) (z : Nat) (s : pd_S) (p : Nat) : pd_R := match s with
  | none => .inl (tk_f tb z p)
  | some s => pd_bind (s.1 (tk_t tb z p)) fun q cs => .inr (q, cs ++ [13])
section RULES
variable {sh : im_Sh} {mr : im_MR} {t z : Nat} {tb : Nat → Nat}
theorem xR_compared (hC : xs_C sh mr t) {n : Nat} {k0 D0 : Nat} {x : pd_X} (h7 : 7 ≤ k0) (hR : xR_ t tb z sh mr 52 n k0 x) (hW : pd_W D0 x z) {d : Nat} {mi : im_MI} {p : Nat} {C : List Nat} (hd : k0 + 1 ≤ d) (hT : xs_M mi tb z) (hg : xg_ t tb z mi p C) : EvM d 51 [.ref 35, .int (nI (5 - n))] sh mi mr (fun r sh2 m2 r2 => sh2 = sh ∧ (r2 = mr ∧ sc_ (xw_S t) mi m2 ∧ xq_ t tb z C (pd_ch (tk_k tb z) (tk_t tb z) op_cmp 1 x p) m2)) := by
  obtain ⟨e, rfl⟩ : ∃ e, d = e + 8 := ⟨d - 8, by omega⟩
  have hz1 := hT.2.2.1
  have hCp := hg.2.2.2.1
  show Ev (e + 8) 51 0 [.ref 35, .int (nI (5 - n)), im_bad] [] sh mi mr _
  refine ev_s (is_aload_n rfl rfl) ?_
  refine ev_s (is_iload_n rfl rfl) ?_
  refine ev_q0 (is_callR 2 [_] [] rfl rfl rfl rfl rfl (Nat.le_of_ble_eq_true rfl) rfl rfl rfl hC.2.2.1.1) rfl rfl (hR _ _ _ _ (by omega) hT hg) (fun r_2 mi mr hq_2 => ?_)
  obtain ⟨rfl, hsc_2, hq2⟩ := hq_2
  unfold pd_ch
  cases hx1 : x p with
  | inl f =>
    rw [hx1] at hq2
    have hb : xb_ t mi f := hq2
    refine ev_s (is_aload_n rfl rfl) ?_
    refine ev_s (is_getI' rfl hC.2.2.1.1 rfl rfl hb.1) ?_
    refine ev_s (is_bipush (nI 60) rfl rfl) ?_
    refine ev_s (is_icmp_eq_f rfl (by decide)) ?_
    refine ev_s (is_aload_n rfl rfl) ?_
    refine ev_s (is_getI' rfl hC.2.2.1.1 rfl rfl hb.1) ?_
    refine ev_s (is_bipush (nI 61) rfl rfl) ?_
    refine ev_s (is_icmp_eq_f rfl (by decide)) ?_
    refine ev_ret (is_return rfl) ?_
    exact ⟨rfl, rfl, hsc_2, hb⟩
  | inr q =>
    rw [hx1] at hq2
    have hg1 : xg_ t tb z mi q.1 (C ++ q.2) := hq2
    have hTa := xs_M_W hT hsc_2
    show Ev _ _ _ _ _ _ _ _ (fun r sh2 m2 r2 => sh2 = sh ∧ (r2 = mr ∧ sc_ (xw_S t) _ m2 ∧ xq_ t tb z C (pd_loop (tk_k tb z) (tk_t tb z) op_cmp x 1 q.1 q.2) m2))
    refine ev_s (is_aload_n rfl rfl) ?_
    refine ev_s (is_getI' rfl hC.2.2.1.1 rfl rfl hg1.1.1) ?_
    refine ev_s (is_bipush (nI 60) rfl rfl) ?_
    refine ev_icmpN_eq rfl (by have := tk_lt (tb := tb) (z := z) hT.2.2.2.1 q.1; omega) (by omega) (fun h_11 => ?_) (fun h_11 => ?_)
    · have hop : ¬ op_cmp (tk_k tb z q.1) = 0 := by
        unfold op_cmp
        first
          | (rw [if_pos h_11]; decide)
          | (rw [if_neg (by omega), if_pos h_20]; decide)
      have hE : te_enc (op_cmp (tk_k tb z q.1)) = 0 * 64 + tk_k tb z q.1 := by
        unfold op_cmp
        first
          | (rw [if_pos h_11, h_11]; rfl)
          | (rw [if_neg (by omega), if_pos h_20, h_20]; rfl)
      have hT2 := tk_T (tb := tb) (z := z) hz1 q.1 hg1.2.2.2.2 (by omega)
      have hCq := hg1.2.2.2.1
      refine ev_s (is_aload_n rfl rfl) ?_
      refine ev_s (is_getI' rfl hC.2.2.1.1 rfl rfl hg1.1.1) ?_
      refine ev_s (st_istore_n_2 rfl rfl) ?_
      refine ev_s (is_aload_n rfl rfl) ?_
      refine ev_q0 (is_callR 1 [] [] rfl rfl rfl rfl rfl (Nat.le_of_ble_eq_true rfl) rfl rfl rfl hC.2.2.1.1) rfl rfl (xk_advance hC hTa (p := tk_t tb z q.1) hT2.2 hg1.1.2.2.2) (fun r_30 mi mr hq_30 => ?_)
      obtain ⟨rfl, hsc_30, hk2, h6⟩ := hq_30
      have hg2 : xg_ t tb z mi (tk_t tb z q.1) (C ++ q.2) := ⟨hk2, h6.trans hg1.2.1, xc_S hg1.2.2.1 hsc_30, by omega, hT2.2⟩
      have hs2 := hsc_2.trans (hsc_30.mono fun _ => xs_kw)
      have hTb := xs_M_W hT hs2
      refine ev_s (is_aload_n rfl rfl) ?_
      refine ev_s (is_iload_n rfl rfl) ?_
      refine ev_q0 (is_callR 2 [_] [] rfl rfl rfl rfl rfl (Nat.le_of_ble_eq_true rfl) rfl rfl rfl hC.2.2.1.1) rfl rfl (hR _ _ _ _ (by omega) hTb hg2) (fun r_35 mi mr hq_35 => ?_)
      obtain ⟨rfl, hsc_35, hq3⟩ := hq_35
      have hs3 := hs2.trans hsc_35
      have hTc := xs_M_W hT hs3
      rw [pd_loop, if_neg hop]
      cases hx2 : x (tk_t tb z q.1) with
      | inl f =>
        rw [hx2] at hq3
        have hb : xb_ t mi f := hq3
        refine ev_s (is_aload_n rfl rfl) ?_
        refine ev_s (is_getR rfl hC.2.2.1.1 rfl rfl hC.2.2.1.2.2) ?_
        refine ev_s (is_iload_n rfl rfl) ?_
        refine ev_s (is_iconst (nI 0) rfl rfl) ?_
        refine ev_q0 (is_callR 3 [_, _] [] rfl rfl rfl rfl rfl (Nat.le_of_ble_eq_true rfl) rfl rfl rfl hC.2.2.2.1.1) rfl rfl (xk_addB hC hb.2.2.2 _ _) (fun r_44 mi mr hq_44 => ?_)
        obtain ⟨rfl, hsc_44, hb2⟩ := hq_44
        refine ev_ret (is_return rfl) ?_
        have hb3 := xb_sc hb hsc_44 hb2
        exact ⟨rfl, rfl, hs3.trans (hsc_44.mono fun _ => xs_aw), hb3⟩
      | inr q2 =>
        rw [hx2] at hq3
        have hg3 : xg_ t tb z mi q2.1 (C ++ q.2 ++ q2.2) := hq3
        obtain ⟨w1, w2, w3, w4⟩ := hW _ q2.1 q2.2 hT2.2 hx2
        have hlen : (C ++ q.2 ++ q2.2).length + 1 ≤ q2.1 := by rw [List.length_append]; omega
        refine ev_s (is_aload_n rfl rfl) ?_
        refine ev_s (is_getR rfl hC.2.2.1.1 rfl rfl hC.2.2.1.2.2) ?_
        refine ev_s (is_iload_n rfl rfl) ?_
        refine ev_s (is_iconst (nI 0) rfl rfl) ?_
        refine ev_q0 (is_callR 3 [_, _] [] rfl rfl rfl rfl rfl (Nat.le_of_ble_eq_true rfl) rfl rfl rfl hC.2.2.2.1.1) rfl rfl (xk_add hC (c := op_cmp (tk_k tb z q.1)) hg3.2.2.1 (by omega) (s := tk_k tb z q.1) (v := 0) (by omega) (by decide) hE) (fun r_44 mi mr hq_44 => ?_)
        obtain ⟨rfl, hsc_44, hc4⟩ := hq_44
        refine ev_ret (is_return rfl) ?_
        have hg4 := xg_sc hg3 hsc_44 hc4 (by omega)
        rw [app3] at hg4
        exact ⟨rfl, rfl, hs3.trans (hsc_44.mono fun _ => xs_aw), hg4⟩
    · refine ev_s (is_aload_n rfl rfl) ?_
      refine ev_s (is_getI' rfl hC.2.2.1.1 rfl rfl hg1.1.1) ?_
      refine ev_s (is_bipush (nI 61) rfl rfl) ?_
      refine ev_icmpN_eq rfl (by have := tk_lt (tb := tb) (z := z) hT.2.2.2.1 q.1; omega) (by omega) (fun h_20 => ?_) (fun h_20 => ?_)
      · have hop : ¬ op_cmp (tk_k tb z q.1) = 0 := by
          unfold op_cmp
          first
            | (rw [if_pos h_11]; decide)
            | (rw [if_neg (by omega), if_pos h_20]; decide)
        have hE : te_enc (op_cmp (tk_k tb z q.1)) = 0 * 64 + tk_k tb z q.1 := by
          unfold op_cmp
          first
            | (rw [if_pos h_11, h_11]; rfl)
            | (rw [if_neg (by omega), if_pos h_20, h_20]; rfl)
        have hT2 := tk_T (tb := tb) (z := z) hz1 q.1 hg1.2.2.2.2 (by omega)
        have hCq := hg1.2.2.2.1
        refine ev_s (is_aload_n rfl rfl) ?_
        refine ev_s (is_getI' rfl hC.2.2.1.1 rfl rfl hg1.1.1) ?_
        refine ev_s (st_istore_n_2 rfl rfl) ?_
        refine ev_s (is_aload_n rfl rfl) ?_
        refine ev_q0 (is_callR 1 [] [] rfl rfl rfl rfl rfl (Nat.le_of_ble_eq_true rfl) rfl rfl rfl hC.2.2.1.1) rfl rfl (xk_advance hC hTa (p := tk_t tb z q.1) hT2.2 hg1.1.2.2.2) (fun r_30 mi mr hq_30 => ?_)
        obtain ⟨rfl, hsc_30, hk2, h6⟩ := hq_30
        have hg2 : xg_ t tb z mi (tk_t tb z q.1) (C ++ q.2) := ⟨hk2, h6.trans hg1.2.1, xc_S hg1.2.2.1 hsc_30, by omega, hT2.2⟩
        have hs2 := hsc_2.trans (hsc_30.mono fun _ => xs_kw)
        have hTb := xs_M_W hT hs2
        refine ev_s (is_aload_n rfl rfl) ?_
        refine ev_s (is_iload_n rfl rfl) ?_
        refine ev_q0 (is_callR 2 [_] [] rfl rfl rfl rfl rfl (Nat.le_of_ble_eq_true rfl) rfl rfl rfl hC.2.2.1.1) rfl rfl (hR _ _ _ _ (by omega) hTb hg2) (fun r_35 mi mr hq_35 => ?_)
        obtain ⟨rfl, hsc_35, hq3⟩ := hq_35
        have hs3 := hs2.trans hsc_35
        have hTc := xs_M_W hT hs3
        rw [pd_loop, if_neg hop]
        cases hx2 : x (tk_t tb z q.1) with
        | inl f =>
          rw [hx2] at hq3
          have hb : xb_ t mi f := hq3
          refine ev_s (is_aload_n rfl rfl) ?_
          refine ev_s (is_getR rfl hC.2.2.1.1 rfl rfl hC.2.2.1.2.2) ?_
          refine ev_s (is_iload_n rfl rfl) ?_
          refine ev_s (is_iconst (nI 0) rfl rfl) ?_
          refine ev_q0 (is_callR 3 [_, _] [] rfl rfl rfl rfl rfl (Nat.le_of_ble_eq_true rfl) rfl rfl rfl hC.2.2.2.1.1) rfl rfl (xk_addB hC hb.2.2.2 _ _) (fun r_44 mi mr hq_44 => ?_)
          obtain ⟨rfl, hsc_44, hb2⟩ := hq_44
          refine ev_ret (is_return rfl) ?_
          have hb3 := xb_sc hb hsc_44 hb2
          exact ⟨rfl, rfl, hs3.trans (hsc_44.mono fun _ => xs_aw), hb3⟩
        | inr q2 =>
          rw [hx2] at hq3
          have hg3 : xg_ t tb z mi q2.1 (C ++ q.2 ++ q2.2) := hq3
          obtain ⟨w1, w2, w3, w4⟩ := hW _ q2.1 q2.2 hT2.2 hx2
          have hlen : (C ++ q.2 ++ q2.2).length + 1 ≤ q2.1 := by rw [List.length_append]; omega
          refine ev_s (is_aload_n rfl rfl) ?_
          refine ev_s (is_getR rfl hC.2.2.1.1 rfl rfl hC.2.2.1.2.2) ?_
          refine ev_s (is_iload_n rfl rfl) ?_
          refine ev_s (is_iconst (nI 0) rfl rfl) ?_
          refine ev_q0 (is_callR 3 [_, _] [] rfl rfl rfl rfl rfl (Nat.le_of_ble_eq_true rfl) rfl rfl rfl hC.2.2.2.1.1) rfl rfl (xk_add hC (c := op_cmp (tk_k tb z q.1)) hg3.2.2.1 (by omega) (s := tk_k tb z q.1) (v := 0) (by omega) (by decide) hE) (fun r_44 mi mr hq_44 => ?_)
          obtain ⟨rfl, hsc_44, hc4⟩ := hq_44
          refine ev_ret (is_return rfl) ?_
          have hg4 := xg_sc hg3 hsc_44 hc4 (by omega)
          rw [app3] at hg4
          exact ⟨rfl, rfl, hs3.trans (hsc_44.mono fun _ => xs_aw), hg4⟩
      · refine ev_ret (is_return rfl) ?_
        have h0 : op_cmp (tk_k tb z q.1) = 0 := by unfold op_cmp; rw [if_neg (by omega), if_neg (by omega)]
        rw [pd_loop, if_pos h0]
        exact ⟨rfl, rfl, hsc_2, hg1⟩
theorem xR_minus0 (hC : xs_C sh mr t) {d : Nat} {mi : im_MI} {p : Nat} {C : List Nat} (hd : 8 ≤ d) (hT : xs_M mi tb z) (hg : xg_ t tb z mi p C) : EvM d 55 [.ref 35, .int (nI (5 - 0))] sh mi mr (fun r sh2 m2 r2 => sh2 = sh ∧ (r2 = mr ∧ sc_ (xw_S t) mi m2 ∧ xq_ t tb z C (.inl (tk_f tb z p)) m2)) := by
  obtain ⟨e, rfl⟩ : ∃ e, d = e + 8 := ⟨d - 8, by omega⟩
  have hz1 := hT.2.2.1
  have hCp := hg.2.2.2.1
  show Ev (e + 8) 55 0 [.ref 35, .int (nI (5 - 0))] [] sh mi mr _
  refine ev_s (is_aload_n rfl rfl) ?_
  refine ev_s (is_iload_n rfl rfl) ?_
  refine ev_q1 (is_callR 2 [_] [] rfl rfl rfl rfl rfl (Nat.le_of_ble_eq_true rfl) rfl rfl rfl hC.2.2.1.1) rfl rfl (xk_openN hC hT hg) (fun r_2 mi mr hq_2 => ?_)
  obtain ⟨rfl, rfl, hsc, hb⟩ := hq_2
  refine ev_s (is_if_ne_f rfl (by decide)) ?_
  refine ev_ret (is_return rfl) ?_
  exact ⟨rfl, rfl, hsc.mono fun _ => xs_kw, hb⟩
theorem xR_not0 (hC : xs_C sh mr t) {d : Nat} {mi : im_MI} {p : Nat} {C : List Nat} (hd : 8 ≤ d) (hT : xs_M mi tb z) (hg : xg_ t tb z mi p C) : EvM d 50 [.ref 35, .int (nI (5 - 0))] sh mi mr (fun r sh2 m2 r2 => sh2 = sh ∧ (r2 = mr ∧ sc_ (xw_S t) mi m2 ∧ xq_ t tb z C (.inl (tk_f tb z p)) m2)) := by
  obtain ⟨e, rfl⟩ : ∃ e, d = e + 8 := ⟨d - 8, by omega⟩
  have hz1 := hT.2.2.1
  have hCp := hg.2.2.2.1
  show Ev (e + 8) 50 0 [.ref 35, .int (nI (5 - 0))] [] sh mi mr _
  refine ev_s (is_aload_n rfl rfl) ?_
  refine ev_s (is_iload_n rfl rfl) ?_
  refine ev_q1 (is_callR 2 [_] [] rfl rfl rfl rfl rfl (Nat.le_of_ble_eq_true rfl) rfl rfl rfl hC.2.2.1.1) rfl rfl (xk_openN hC hT hg) (fun r_2 mi mr hq_2 => ?_)
  obtain ⟨rfl, rfl, hsc, hb⟩ := hq_2
  refine ev_s (is_if_ne_f rfl (by decide)) ?_
  refine ev_ret (is_return rfl) ?_
  exact ⟨rfl, rfl, hsc.mono fun _ => xs_kw, hb⟩
theorem xR_bra0 (hC : xs_C sh mr t) {d : Nat} {mi : im_MI} {p : Nat} {C : List Nat} (hd : 8 ≤ d) (hT : xs_M mi tb z) (hg : xg_ t tb z mi p C) : EvM d 56 [.ref 35, .int (nI (5 - 0))] sh mi mr (fun r sh2 m2 r2 => sh2 = sh ∧ (r2 = mr ∧ sc_ (xw_S t) mi m2 ∧ xq_ t tb z C (.inl (tk_f tb z p)) m2)) := by
  obtain ⟨e, rfl⟩ : ∃ e, d = e + 8 := ⟨d - 8, by omega⟩
  have hz1 := hT.2.2.1
  have hCp := hg.2.2.2.1
  show Ev (e + 8) 56 0 [.ref 35, .int (nI (5 - 0))] [] sh mi mr _
  refine ev_s (is_aload_n rfl rfl) ?_
  refine ev_s (is_iload_n rfl rfl) ?_
  refine ev_q1 (is_callR 2 [_] [] rfl rfl rfl rfl rfl (Nat.le_of_ble_eq_true rfl) rfl rfl rfl hC.2.2.1.1) rfl rfl (xk_openN hC hT hg) (fun r_2 mi mr hq_2 => ?_)
  obtain ⟨rfl, rfl, hsc, hb⟩ := hq_2
  refine ev_s (is_if_ne_f rfl (by decide)) ?_
  refine ev_ret (is_return rfl) ?_
  exact ⟨rfl, rfl, hsc.mono fun _ => xs_kw, hb⟩
theorem xR_minus (hC : xs_C sh mr t) {n : Nat} (hn : n < 5) {k0 D0 : Nat} {x : pd_X} (h7 : 7 ≤ k0) (hR : xR_ t tb z sh mr 54 n k0 x) (hW : pd_W D0 x z) {d : Nat} {mi : im_MI} {p : Nat} {C : List Nat} (hd : k0 + 1 ≤ d) (hT : xs_M mi tb z) (hg : xg_ t tb z mi p C) (hk : tk_k tb z p ≠ 0) : EvM d 55 [.ref 35, .int (nI (5 - (n + 1)))] sh mi mr (fun r sh2 m2 r2 => sh2 = sh ∧ (r2 = mr ∧ sc_ (xw_S t) mi m2 ∧ xq_ t tb z C (pd_bind (x (tk_t tb z p)) fun q cs => .inr (q, cs ++ [19])) m2)) := by
  obtain ⟨e, rfl⟩ : ∃ e, d = e + 8 := ⟨d - 8, by omega⟩
  have hz1 := hT.2.2.1
  have hCp := hg.2.2.2.1
  show Ev (e + 8) 55 0 [.ref 35, .int (nI (5 - (n + 1)))] [] sh mi mr _
  have hT2 := tk_T (tb := tb) (z := z) hz1 p hg.2.2.2.2 hk
  refine ev_s (is_aload_n rfl rfl) ?_
  refine ev_s (is_iload_n rfl rfl) ?_
  refine ev_c1 (is_callR 2 [_] [] rfl rfl rfl rfl rfl (Nat.le_of_ble_eq_true rfl) rfl rfl rfl hC.2.2.1.1) rfl rfl (xk_open hC (i := 5 - (n + 1)) (by omega)) ?_
  refine ev_s (is_if_ne_t rfl (by decide)) ?_
  refine ev_s (is_aload_n rfl rfl) ?_
  refine ev_q0 (is_callR 1 [] [] rfl rfl rfl rfl rfl (Nat.le_of_ble_eq_true rfl) rfl rfl rfl hC.2.2.1.1) rfl rfl (xk_advance hC hT (p := tk_t tb z p) hT2.2 hg.1.2.2.2) (fun r_10 mi mr hq_10 => ?_)
  obtain ⟨rfl, hsc_10, hk2, h6⟩ := hq_10
  have hg2 : xg_ t tb z mi (tk_t tb z p) C := ⟨hk2, h6.trans hg.2.1, xc_S hg.2.2.1 hsc_10, by omega, hT2.2⟩
  have hs2 := hsc_10.mono (T := xw_S t) fun _ => xs_kw
  have hTb := xs_M_W hT hs2
  refine ev_s (is_aload_n rfl rfl) ?_
  refine ev_s (is_iload_n rfl rfl) ?_
  refine ev_s (is_iconst (nI 1) rfl rfl) ?_
  refine ev_s (is_iadd (nI (5 - n)) rfl (by rw [nI_add]; exact congrArg nI (by omega))) ?_
  refine ev_q0 (is_callR 2 [_] [] rfl rfl rfl rfl rfl (Nat.le_of_ble_eq_true rfl) rfl rfl rfl hC.2.2.1.1) rfl rfl (hR _ _ _ _ (by omega) hTb hg2) (fun r_17 mi mr hq_17 => ?_)
  obtain ⟨rfl, hsc_17, hq3⟩ := hq_17
  have hs3 := hs2.trans hsc_17
  cases hx2 : x (tk_t tb z p) with
  | inl f =>
    rw [hx2] at hq3
    have hb : xb_ t mi f := hq3
    refine ev_s (is_aload_n rfl rfl) ?_
    refine ev_s (is_getR rfl hC.2.2.1.1 rfl rfl hC.2.2.1.2.2) ?_
    refine ev_s (is_bipush (nI 10) rfl rfl) ?_
    refine ev_s (is_iconst (nI 0) rfl rfl) ?_
    refine ev_q0 (is_callR 3 [_, _] [] rfl rfl rfl rfl rfl (Nat.le_of_ble_eq_true rfl) rfl rfl rfl hC.2.2.2.1.1) rfl rfl (xk_addB hC hb.2.2.2 _ _) (fun r_27 mi mr hq_27 => ?_)
    obtain ⟨rfl, hsc_27, hb2⟩ := hq_27
    refine ev_ret (is_return rfl) ?_
    have hb3 := xb_sc hb hsc_27 hb2
    exact ⟨rfl, rfl, hs3.trans (hsc_27.mono fun _ => xs_aw), hb3⟩
  | inr q =>
    rw [hx2] at hq3
    have hg3 : xg_ t tb z mi q.1 (C ++ q.2) := hq3
    obtain ⟨w1, w2, w3, w4⟩ := hW _ q.1 q.2 hT2.2 hx2
    have hlen : (C ++ q.2).length + 1 ≤ q.1 := by rw [List.length_append]; omega
    refine ev_s (is_aload_n rfl rfl) ?_
    refine ev_s (is_getR rfl hC.2.2.1.1 rfl rfl hC.2.2.1.2.2) ?_
    refine ev_s (is_bipush (nI 10) rfl rfl) ?_
    refine ev_s (is_iconst (nI 0) rfl rfl) ?_
    refine ev_q0 (is_callR 3 [_, _] [] rfl rfl rfl rfl rfl (Nat.le_of_ble_eq_true rfl) rfl rfl rfl hC.2.2.2.1.1) rfl rfl (xk_add hC (c := 19) hg3.2.2.1 (by omega) (s := 10) (v := 0) (by omega) (by decide) rfl) (fun r_27 mi mr hq_27 => ?_)
    obtain ⟨rfl, hsc_27, hc4⟩ := hq_27
    refine ev_ret (is_return rfl) ?_
    have hg4 := xg_sc hg3 hsc_27 hc4 (by omega)
    rw [List.append_assoc] at hg4
    exact ⟨rfl, rfl, hs3.trans (hsc_27.mono fun _ => xs_aw), hg4⟩
theorem xR_not (hC : xs_C sh mr t) {n : Nat} (hn : n < 5) {k0 D0 : Nat} {x : pd_X} (h7 : 7 ≤ k0) (hR : xR_ t tb z sh mr 49 n k0 x) (hW : pd_W D0 x z) {d : Nat} {mi : im_MI} {p : Nat} {C : List Nat} (hd : k0 + 1 ≤ d) (hT : xs_M mi tb z) (hg : xg_ t tb z mi p C) (hk : tk_k tb z p ≠ 0) : EvM d 50 [.ref 35, .int (nI (5 - (n + 1)))] sh mi mr (fun r sh2 m2 r2 => sh2 = sh ∧ (r2 = mr ∧ sc_ (xw_S t) mi m2 ∧ xq_ t tb z C (pd_bind (x (tk_t tb z p)) fun q cs => .inr (q, cs ++ [13])) m2)) := by
  obtain ⟨e, rfl⟩ : ∃ e, d = e + 8 := ⟨d - 8, by omega⟩
  have hz1 := hT.2.2.1
  have hCp := hg.2.2.2.1
  show Ev (e + 8) 50 0 [.ref 35, .int (nI (5 - (n + 1)))] [] sh mi mr _
  have hT2 := tk_T (tb := tb) (z := z) hz1 p hg.2.2.2.2 hk
  refine ev_s (is_aload_n rfl rfl) ?_
  refine ev_s (is_iload_n rfl rfl) ?_
  refine ev_c1 (is_callR 2 [_] [] rfl rfl rfl rfl rfl (Nat.le_of_ble_eq_true rfl) rfl rfl rfl hC.2.2.1.1) rfl rfl (xk_open hC (i := 5 - (n + 1)) (by omega)) ?_
  refine ev_s (is_if_ne_t rfl (by decide)) ?_
  refine ev_s (is_aload_n rfl rfl) ?_
  refine ev_q0 (is_callR 1 [] [] rfl rfl rfl rfl rfl (Nat.le_of_ble_eq_true rfl) rfl rfl rfl hC.2.2.1.1) rfl rfl (xk_advance hC hT (p := tk_t tb z p) hT2.2 hg.1.2.2.2) (fun r_10 mi mr hq_10 => ?_)
  obtain ⟨rfl, hsc_10, hk2, h6⟩ := hq_10
  have hg2 : xg_ t tb z mi (tk_t tb z p) C := ⟨hk2, h6.trans hg.2.1, xc_S hg.2.2.1 hsc_10, by omega, hT2.2⟩
  have hs2 := hsc_10.mono (T := xw_S t) fun _ => xs_kw
  have hTb := xs_M_W hT hs2
  refine ev_s (is_aload_n rfl rfl) ?_
  refine ev_s (is_iload_n rfl rfl) ?_
  refine ev_s (is_iconst (nI 1) rfl rfl) ?_
  refine ev_s (is_iadd (nI (5 - n)) rfl (by rw [nI_add]; exact congrArg nI (by omega))) ?_
  refine ev_q0 (is_callR 2 [_] [] rfl rfl rfl rfl rfl (Nat.le_of_ble_eq_true rfl) rfl rfl rfl hC.2.2.1.1) rfl rfl (hR _ _ _ _ (by omega) hTb hg2) (fun r_17 mi mr hq_17 => ?_)
  obtain ⟨rfl, hsc_17, hq3⟩ := hq_17
  have hs3 := hs2.trans hsc_17
  cases hx2 : x (tk_t tb z p) with
  | inl f =>
    rw [hx2] at hq3
    have hb : xb_ t mi f := hq3
    refine ev_s (is_aload_n rfl rfl) ?_
    refine ev_s (is_getR rfl hC.2.2.1.1 rfl rfl hC.2.2.1.2.2) ?_
    refine ev_s (is_bipush (nI 9) rfl rfl) ?_
    refine ev_s (is_iconst (nI 0) rfl rfl) ?_
    refine ev_q0 (is_callR 3 [_, _] [] rfl rfl rfl rfl rfl (Nat.le_of_ble_eq_true rfl) rfl rfl rfl hC.2.2.2.1.1) rfl rfl (xk_addB hC hb.2.2.2 _ _) (fun r_27 mi mr hq_27 => ?_)
    obtain ⟨rfl, hsc_27, hb2⟩ := hq_27
    refine ev_ret (is_return rfl) ?_
    have hb3 := xb_sc hb hsc_27 hb2
    exact ⟨rfl, rfl, hs3.trans (hsc_27.mono fun _ => xs_aw), hb3⟩
  | inr q =>
    rw [hx2] at hq3
    have hg3 : xg_ t tb z mi q.1 (C ++ q.2) := hq3
    obtain ⟨w1, w2, w3, w4⟩ := hW _ q.1 q.2 hT2.2 hx2
    have hlen : (C ++ q.2).length + 1 ≤ q.1 := by rw [List.length_append]; omega
    refine ev_s (is_aload_n rfl rfl) ?_
    refine ev_s (is_getR rfl hC.2.2.1.1 rfl rfl hC.2.2.1.2.2) ?_
    refine ev_s (is_bipush (nI 9) rfl rfl) ?_
    refine ev_s (is_iconst (nI 0) rfl rfl) ?_
    refine ev_q0 (is_callR 3 [_, _] [] rfl rfl rfl rfl rfl (Nat.le_of_ble_eq_true rfl) rfl rfl rfl hC.2.2.2.1.1) rfl rfl (xk_add hC (c := 13) hg3.2.2.1 (by omega) (s := 9) (v := 0) (by omega) (by decide) rfl) (fun r_27 mi mr hq_27 => ?_)
    obtain ⟨rfl, hsc_27, hc4⟩ := hq_27
    refine ev_ret (is_return rfl) ?_
    have hg4 := xg_sc hg3 hsc_27 hc4 (by omega)
    rw [List.append_assoc] at hg4
    exact ⟨rfl, rfl, hs3.trans (hsc_27.mono fun _ => xs_aw), hg4⟩
theorem xR_bra (hC : xs_C sh mr t) {n : Nat} (hn : n < 5) {k0 : Nat} {x : pd_X} (h7 : 7 ≤ k0) (hR : xR_ t tb z sh mr 47 n k0 x) {d : Nat} {mi : im_MI} {p : Nat} {C : List Nat} (hd : k0 + 1 ≤ d) (hT : xs_M mi tb z) (hg : xg_ t tb z mi p C) (hk : tk_k tb z p ≠ 0) : EvM d 56 [.ref 35, .int (nI (5 - (n + 1)))] sh mi mr (fun r sh2 m2 r2 => sh2 = sh ∧ (r2 = mr ∧ sc_ (xw_S t) mi m2 ∧ xq_ t tb z C (pd_bind (x (tk_t tb z p)) fun q cs => if tk_k tb z q = 41 then .inr (tk_t tb z q, cs) else .inl (tk_f tb z q)) m2)) := by
  obtain ⟨e, rfl⟩ : ∃ e, d = e + 8 := ⟨d - 8, by omega⟩
  have hz1 := hT.2.2.1
  have hCp := hg.2.2.2.1
  show Ev (e + 8) 56 0 [.ref 35, .int (nI (5 - (n + 1)))] [] sh mi mr _
  have hT2 := tk_T (tb := tb) (z := z) hz1 p hg.2.2.2.2 hk
  refine ev_s (is_aload_n rfl rfl) ?_
  refine ev_s (is_iload_n rfl rfl) ?_
  refine ev_c1 (is_callR 2 [_] [] rfl rfl rfl rfl rfl (Nat.le_of_ble_eq_true rfl) rfl rfl rfl hC.2.2.1.1) rfl rfl (xk_open hC (i := 5 - (n + 1)) (by omega)) ?_
  refine ev_s (is_if_ne_t rfl (by decide)) ?_
  refine ev_s (is_aload_n rfl rfl) ?_
  refine ev_q0 (is_callR 1 [] [] rfl rfl rfl rfl rfl (Nat.le_of_ble_eq_true rfl) rfl rfl rfl hC.2.2.1.1) rfl rfl (xk_advance hC hT (p := tk_t tb z p) hT2.2 hg.1.2.2.2) (fun r_10 mi mr hq_10 => ?_)
  obtain ⟨rfl, hsc_10, hk2, h6⟩ := hq_10
  have hg2 : xg_ t tb z mi (tk_t tb z p) C := ⟨hk2, h6.trans hg.2.1, xc_S hg.2.2.1 hsc_10, by omega, hT2.2⟩
  have hs2 := hsc_10.mono (T := xw_S t) fun _ => xs_kw
  have hTb := xs_M_W hT hs2
  refine ev_s (is_aload_n rfl rfl) ?_
  refine ev_s (is_iload_n rfl rfl) ?_
  refine ev_s (is_iconst (nI 1) rfl rfl) ?_
  refine ev_s (is_iadd (nI (5 - n)) rfl (by rw [nI_add]; exact congrArg nI (by omega))) ?_
  refine ev_q0 (is_callR 2 [_] [] rfl rfl rfl rfl rfl (Nat.le_of_ble_eq_true rfl) rfl rfl rfl hC.2.2.1.1) rfl rfl (hR _ _ _ _ (by omega) hTb hg2) (fun r_17 mi mr hq_17 => ?_)
  obtain ⟨rfl, hsc_17, hq3⟩ := hq_17
  have hs3 := hs2.trans hsc_17
  have hTc := xs_M_W hT hs3
  cases hx2 : x (tk_t tb z p) with
  | inl f =>
    rw [hx2] at hq3
    have hb : xb_ t mi f := hq3
    refine ev_s (is_aload_n rfl rfl) ?_
    refine ev_s (is_bipush (nI 41) rfl rfl) ?_
    refine ev_q0 (is_callR 2 [_] [] rfl rfl rfl rfl rfl (Nat.le_of_ble_eq_true rfl) rfl rfl rfl hC.2.2.1.1) rfl rfl (xk_expectB hC hTc hb (by decide) (by decide)) (fun r_23 mi mr hq_23 => ?_)
    obtain ⟨hm_23, hr_23⟩ := hq_23
    subst hm_23
    subst hr_23
    refine ev_ret (is_return rfl) ?_
    exact ⟨rfl, rfl, hs3, hb⟩
  | inr q =>
    rw [hx2] at hq3
    have hg3 : xg_ t tb z mi q.1 (C ++ q.2) := hq3
    show Ev _ _ _ _ _ _ _ _ (fun r sh2 m2 r2 => sh2 = sh ∧ (r2 = mr ∧ sc_ (xw_S t) _ m2 ∧ xq_ t tb z C (if tk_k tb z q.1 = 41 then .inr (tk_t tb z q.1, q.2) else .inl (tk_f tb z q.1)) m2))
    by_cases h41 : tk_k tb z q.1 = 41
    · rw [if_pos h41]
      refine ev_s (is_aload_n rfl rfl) ?_
      refine ev_s (is_bipush (nI 41) rfl rfl) ?_
      refine ev_q0 (is_callR 2 [_] [] rfl rfl rfl rfl rfl (Nat.le_of_ble_eq_true rfl) rfl rfl rfl hC.2.2.1.1) rfl rfl (xk_expect hC hTc hg3 (by decide) h41) (fun r_23 mi mr hq_23 => ?_)
      obtain ⟨rfl, hsc_23, hg4⟩ := hq_23
      refine ev_ret (is_return rfl) ?_
      exact ⟨rfl, rfl, hs3.trans (hsc_23.mono fun _ => xs_kw), hg4⟩
    · rw [if_neg h41]
      refine ev_s (is_aload_n rfl rfl) ?_
      refine ev_s (is_bipush (nI 41) rfl rfl) ?_
      refine ev_q0 (is_callR 2 [_] [] rfl rfl rfl rfl rfl (Nat.le_of_ble_eq_true rfl) rfl rfl rfl hC.2.2.1.1) rfl rfl (xk_expectN hC hTc hg3 (by decide) h41) (fun r_23 mi mr hq_23 => ?_)
      obtain ⟨rfl, hsc_23, hb4⟩ := hq_23
      refine ev_ret (is_return rfl) ?_
      exact ⟨rfl, rfl, hs3.trans (hsc_23.mono fun _ => xs_kw), hb4⟩
theorem xR_one (hC : xs_C sh mr t) {n : Nat} {s : pd_S} {D : Nat} (hD : 9 ≤ D) (hM : ∀ (d : Nat) (mi : im_MI) (p : Nat) (C : List Nat), D ≤ d + 1 → xs_M mi tb z → xg_ t tb z mi p C → tk_k tb z p ≠ 0 → EvM d 55 [.ref 35, .int (nI (5 - n))] sh mi mr (fun r sh2 m2 r2 => sh2 = sh ∧ (r2 = mr ∧ sc_ (xw_S t) mi m2 ∧ xq_ t tb z C (sbm_ tb z s p) m2))) (hB : ∀ (d : Nat) (mi : im_MI) (p : Nat) (C : List Nat), D ≤ d + 1 → xs_M mi tb z → xg_ t tb z mi p C → tk_k tb z p ≠ 0 → EvM d 56 [.ref 35, .int (nI (5 - n))] sh mi mr (fun r sh2 m2 r2 => sh2 = sh ∧ (r2 = mr ∧ sc_ (xw_S t) mi m2 ∧ xq_ t tb z C (sbb_ tb z s p) m2))) {d : Nat} {mi : im_MI} {p : Nat} {C : List Nat} (hd : D ≤ d) (hT : xs_M mi tb z) (hg : xg_ t tb z mi p C) : EvM d 54 [.ref 35, .int (nI (5 - n))] sh mi mr (fun r sh2 m2 r2 => sh2 = sh ∧ (r2 = mr ∧ sc_ (xw_S t) mi m2 ∧ xq_ t tb z C (pd_one (tk_k tb z) (tk_v tb z) (tk_f tb z) (tk_t tb z) s p) m2)) := by
  obtain ⟨e, rfl⟩ : ∃ e, d = e + 8 := ⟨d - 8, by omega⟩
  have hz1 := hT.2.2.1
  have hCp := hg.2.2.2.1
  show Ev (e + 8) 54 0 [.ref 35, .int (nI (5 - n))] [] sh mi mr _
  unfold pd_one
  refine ev_s (is_aload_n rfl rfl) ?_
  refine ev_s (is_getI' rfl hC.2.2.1.1 rfl rfl hg.1.1) ?_
  refine ev_s (is_iconst (nI 2) rfl rfl) ?_
  refine ev_icmpN_eq rfl (by have := tk_lt (tb := tb) (z := z) hT.2.2.2.1 p; omega) (by omega) (fun h_5 => ?_) (fun h_5 => ?_)
  · have h23 : tk_k tb z p = 2 ∨ tk_k tb z p = 3 := by omega
    have hT2 := tk_T (tb := tb) (z := z) hz1 p hg.2.2.2.2 (by omega)
    have hv : tk_v tb z p < 10000 := by
      rcases h23 with c | c
      · exact tk_V.1 p c
      · have := (tk_V (tb := tb) (z := z)).2 p c; omega
    have hE : te_enc (pd_code (tk_k tb z) (tk_v tb z) p) = tk_v tb z p * 64 + tk_k tb z p := by
      rcases h23 with c | c
      · unfold pd_code te_enc; rw [if_pos c, if_pos (by omega), c]; omega
      · have h6 := (tk_V (tb := tb) (z := z)).2 p c
        have e1 : pd_code (tk_k tb z) (tk_v tb z) p = tk_v tb z p := if_neg (by omega)
        rw [e1]
        unfold te_enc
        rw [if_neg (by omega), if_pos (by omega), c]
    refine ev_s (is_aload_n rfl rfl) ?_
    refine ev_s (is_getR rfl hC.2.2.1.1 rfl rfl hC.2.2.1.2.2) ?_
    refine ev_s (is_aload_n rfl rfl) ?_
    refine ev_s (is_getI' rfl hC.2.2.1.1 rfl rfl hg.1.1) ?_
    refine ev_s (is_aload_n rfl rfl) ?_
    refine ev_s (is_getI' rfl hC.2.2.1.1 rfl rfl hg.1.2.1) ?_
    refine ev_q0 (is_callR 3 [_, _] [] rfl rfl rfl rfl rfl (Nat.le_of_ble_eq_true rfl) rfl rfl rfl hC.2.2.2.1.1) rfl rfl (xk_add hC (c := pd_code (tk_k tb z) (tk_v tb z) p) hg.2.2.1 (by omega) (s := tk_k tb z p) (v := tk_v tb z p) (by omega) hv hE) (fun r_28 mi mr hq_28 => ?_)
    obtain ⟨rfl, hsc_28, hc4⟩ := hq_28
    have h5 := hsc_28 35 (xa_ne (by omega) (by omega))
    have hTa := xs_M_W hT (hsc_28.mono fun _ => xs_aw)
    refine ev_s (is_aload_n rfl rfl) ?_
    refine ev_q0 (is_callR 1 [] [] rfl rfl rfl rfl rfl (Nat.le_of_ble_eq_true rfl) rfl rfl rfl hC.2.2.1.1) rfl rfl (xk_advance hC hTa (p := tk_t tb z p) hT2.2 (by rw [h5]; exact hg.1.2.2.2)) (fun r_32 mi mr hq_32 => ?_)
    obtain ⟨rfl, hsc_32, hk2, h6⟩ := hq_32
    refine ev_s (is_goto rfl) ?_
    refine ev_ret (is_return rfl) ?_
    first
      | (rw [if_pos h23]; exact ⟨rfl, rfl, (hsc_28.mono fun _ => xs_aw).trans (hsc_32.mono fun _ => xs_kw), hk2, by rw [h6, h5]; exact hg.2.1, xc_S hc4 hsc_32, by rw [List.length_append]; show C.length + 1 ≤ _; omega, hT2.2⟩)
      | (rw [if_neg (by omega), if_pos h_44]; exact ⟨rfl, rfl, hsc_49, hq⟩)
      | (rw [if_neg (by omega), if_neg h_44, if_pos h_61]; exact ⟨rfl, rfl, hsc_66, hq⟩)
      | (rw [if_neg (by omega), if_neg h_44, if_neg h_61]; exact ⟨rfl, rfl, hsc_73.mono fun _ => xs_kw, hb⟩)
  · refine ev_s (is_aload_n rfl rfl) ?_
    refine ev_s (is_getI' rfl hC.2.2.1.1 rfl rfl hg.1.1) ?_
    refine ev_s (is_iconst (nI 3) rfl rfl) ?_
    refine ev_icmpN_ne rfl (by have := tk_lt (tb := tb) (z := z) hT.2.2.2.1 p; omega) (by omega) (fun h_13 => ?_) (fun h_13 => ?_)
    · refine ev_s (is_aload_n rfl rfl) ?_
      refine ev_s (is_getI' rfl hC.2.2.1.1 rfl rfl hg.1.1) ?_
      refine ev_s (is_bipush (nI 45) rfl rfl) ?_
      refine ev_icmpN_ne rfl (by have := tk_lt (tb := tb) (z := z) hT.2.2.2.1 p; omega) (by omega) (fun h_44 => ?_) (fun h_44 => ?_)
      · refine ev_s (is_aload_n rfl rfl) ?_
        refine ev_s (is_getI' rfl hC.2.2.1.1 rfl rfl hg.1.1) ?_
        refine ev_s (is_bipush (nI 40) rfl rfl) ?_
        refine ev_icmpN_ne rfl (by have := tk_lt (tb := tb) (z := z) hT.2.2.2.1 p; omega) (by omega) (fun h_61 => ?_) (fun h_61 => ?_)
        · refine ev_s (is_aload_n rfl rfl) ?_
          refine ev_q0 (is_callR 1 [] [] rfl rfl rfl rfl rfl (Nat.le_of_ble_eq_true rfl) rfl rfl rfl hC.2.2.1.1) rfl rfl (xk_refuse hC hT hg) (fun r_73 mi mr hq_73 => ?_)
          obtain ⟨rfl, hsc_73, hb⟩ := hq_73
          refine ev_ret (is_return rfl) ?_
          first
            | (rw [if_pos h23]; exact ⟨rfl, rfl, (hsc_28.mono fun _ => xs_aw).trans (hsc_32.mono fun _ => xs_kw), hk2, by rw [h6, h5]; exact hg.2.1, xc_S hc4 hsc_32, by rw [List.length_append]; show C.length + 1 ≤ _; omega, hT2.2⟩)
            | (rw [if_neg (by omega), if_pos h_44]; exact ⟨rfl, rfl, hsc_49, hq⟩)
            | (rw [if_neg (by omega), if_neg h_44, if_pos h_61]; exact ⟨rfl, rfl, hsc_66, hq⟩)
            | (rw [if_neg (by omega), if_neg h_44, if_neg h_61]; exact ⟨rfl, rfl, hsc_73.mono fun _ => xs_kw, hb⟩)
        · refine ev_s (is_aload_n rfl rfl) ?_
          refine ev_s (is_iload_n rfl rfl) ?_
          refine ev_q0 (is_callR 2 [_] [] rfl rfl rfl rfl rfl (Nat.le_of_ble_eq_true rfl) rfl rfl rfl hC.2.2.1.1) rfl rfl (hB _ _ _ _ (by omega) hT hg (by omega)) (fun r_66 mi mr hq_66 => ?_)
          obtain ⟨rfl, hsc_66, hq⟩ := hq_66
          refine ev_s (is_goto rfl) ?_
          refine ev_ret (is_return rfl) ?_
          rw [if_neg (by omega), if_neg h_44, if_pos h_61]
          exact ⟨rfl, rfl, hsc_66, hq⟩
      · refine ev_s (is_aload_n rfl rfl) ?_
        refine ev_s (is_iload_n rfl rfl) ?_
        refine ev_q0 (is_callR 2 [_] [] rfl rfl rfl rfl rfl (Nat.le_of_ble_eq_true rfl) rfl rfl rfl hC.2.2.1.1) rfl rfl (hM _ _ _ _ (by omega) hT hg (by omega)) (fun r_49 mi mr hq_49 => ?_)
        obtain ⟨rfl, hsc_49, hq⟩ := hq_49
        refine ev_s (is_goto rfl) ?_
        refine ev_ret (is_return rfl) ?_
        first
          | (rw [if_pos h23]; exact ⟨rfl, rfl, (hsc_28.mono fun _ => xs_aw).trans (hsc_32.mono fun _ => xs_kw), hk2, by rw [h6, h5]; exact hg.2.1, xc_S hc4 hsc_32, by rw [List.length_append]; show C.length + 1 ≤ _; omega, hT2.2⟩)
          | (rw [if_neg (by omega), if_pos h_44]; exact ⟨rfl, rfl, hsc_49, hq⟩)
          | (rw [if_neg (by omega), if_neg h_44, if_pos h_61]; exact ⟨rfl, rfl, hsc_66, hq⟩)
          | (rw [if_neg (by omega), if_neg h_44, if_neg h_61]; exact ⟨rfl, rfl, hsc_73.mono fun _ => xs_kw, hb⟩)
    · have h23 : tk_k tb z p = 2 ∨ tk_k tb z p = 3 := by omega
      have hT2 := tk_T (tb := tb) (z := z) hz1 p hg.2.2.2.2 (by omega)
      have hv : tk_v tb z p < 10000 := by
        rcases h23 with c | c
        · exact tk_V.1 p c
        · have := (tk_V (tb := tb) (z := z)).2 p c; omega
      have hE : te_enc (pd_code (tk_k tb z) (tk_v tb z) p) = tk_v tb z p * 64 + tk_k tb z p := by
        rcases h23 with c | c
        · unfold pd_code te_enc; rw [if_pos c, if_pos (by omega), c]; omega
        · have h6 := (tk_V (tb := tb) (z := z)).2 p c
          have e1 : pd_code (tk_k tb z) (tk_v tb z) p = tk_v tb z p := if_neg (by omega)
          rw [e1]
          unfold te_enc
          rw [if_neg (by omega), if_pos (by omega), c]
      refine ev_s (is_aload_n rfl rfl) ?_
      refine ev_s (is_getR rfl hC.2.2.1.1 rfl rfl hC.2.2.1.2.2) ?_
      refine ev_s (is_aload_n rfl rfl) ?_
      refine ev_s (is_getI' rfl hC.2.2.1.1 rfl rfl hg.1.1) ?_
      refine ev_s (is_aload_n rfl rfl) ?_
      refine ev_s (is_getI' rfl hC.2.2.1.1 rfl rfl hg.1.2.1) ?_
      refine ev_q0 (is_callR 3 [_, _] [] rfl rfl rfl rfl rfl (Nat.le_of_ble_eq_true rfl) rfl rfl rfl hC.2.2.2.1.1) rfl rfl (xk_add hC (c := pd_code (tk_k tb z) (tk_v tb z) p) hg.2.2.1 (by omega) (s := tk_k tb z p) (v := tk_v tb z p) (by omega) hv hE) (fun r_28 mi mr hq_28 => ?_)
      obtain ⟨rfl, hsc_28, hc4⟩ := hq_28
      have h5 := hsc_28 35 (xa_ne (by omega) (by omega))
      have hTa := xs_M_W hT (hsc_28.mono fun _ => xs_aw)
      refine ev_s (is_aload_n rfl rfl) ?_
      refine ev_q0 (is_callR 1 [] [] rfl rfl rfl rfl rfl (Nat.le_of_ble_eq_true rfl) rfl rfl rfl hC.2.2.1.1) rfl rfl (xk_advance hC hTa (p := tk_t tb z p) hT2.2 (by rw [h5]; exact hg.1.2.2.2)) (fun r_32 mi mr hq_32 => ?_)
      obtain ⟨rfl, hsc_32, hk2, h6⟩ := hq_32
      refine ev_s (is_goto rfl) ?_
      refine ev_ret (is_return rfl) ?_
      first
        | (rw [if_pos h23]; exact ⟨rfl, rfl, (hsc_28.mono fun _ => xs_aw).trans (hsc_32.mono fun _ => xs_kw), hk2, by rw [h6, h5]; exact hg.2.1, xc_S hc4 hsc_32, by rw [List.length_append]; show C.length + 1 ≤ _; omega, hT2.2⟩)
        | (rw [if_neg (by omega), if_pos h_44]; exact ⟨rfl, rfl, hsc_49, hq⟩)
        | (rw [if_neg (by omega), if_neg h_44, if_pos h_61]; exact ⟨rfl, rfl, hsc_66, hq⟩)
        | (rw [if_neg (by omega), if_neg h_44, if_neg h_61]; exact ⟨rfl, rfl, hsc_73.mono fun _ => xs_kw, hb⟩)
theorem xR_negated (hC : xs_C sh mr t) {n : Nat} {s : pd_S} {D : Nat} (hD : 9 ≤ D) (hN : ∀ (d : Nat) (mi : im_MI) (p : Nat) (C : List Nat), D ≤ d + 1 → xs_M mi tb z → xg_ t tb z mi p C → tk_k tb z p ≠ 0 → EvM d 50 [.ref 35, .int (nI (5 - n))] sh mi mr (fun r sh2 m2 r2 => sh2 = sh ∧ (r2 = mr ∧ sc_ (xw_S t) mi m2 ∧ xq_ t tb z C (sbn_ tb z s p) m2))) (hR : ∀ (d : Nat) (mi : im_MI) (p : Nat) (C : List Nat), D ≤ d + 1 → xs_M mi tb z → xg_ t tb z mi p C → EvM d 51 [.ref 35, .int (nI (5 - n))] sh mi mr (fun r sh2 m2 r2 => sh2 = sh ∧ (r2 = mr ∧ sc_ (xw_S t) mi m2 ∧ xq_ t tb z C (pd_cmp (tk_k tb z) (tk_v tb z) (tk_f tb z) (tk_t tb z) s p) m2))) {d : Nat} {mi : im_MI} {p : Nat} {C : List Nat} (hd : D ≤ d) (hT : xs_M mi tb z) (hg : xg_ t tb z mi p C) : EvM d 49 [.ref 35, .int (nI (5 - n))] sh mi mr (fun r sh2 m2 r2 => sh2 = sh ∧ (r2 = mr ∧ sc_ (xw_S t) mi m2 ∧ xq_ t tb z C (pd_neg (tk_k tb z) (tk_v tb z) (tk_f tb z) (tk_t tb z) s p) m2)) := by
  obtain ⟨e, rfl⟩ : ∃ e, d = e + 8 := ⟨d - 8, by omega⟩
  have hz1 := hT.2.2.1
  have hCp := hg.2.2.2.1
  show Ev (e + 8) 49 0 [.ref 35, .int (nI (5 - n))] [] sh mi mr _
  unfold pd_neg
  refine ev_s (is_aload_n rfl rfl) ?_
  refine ev_s (is_getI' rfl hC.2.2.1.1 rfl rfl hg.1.1) ?_
  refine ev_s (is_bipush (nI 9) rfl rfl) ?_
  refine ev_icmpN_ne rfl (by have := tk_lt (tb := tb) (z := z) hT.2.2.2.1 p; omega) (by omega) (fun h_6 => ?_) (fun h_6 => ?_)
  · refine ev_s (is_aload_n rfl rfl) ?_
    refine ev_s (is_iload_n rfl rfl) ?_
    refine ev_q0 (is_callR 2 [_] [] rfl rfl rfl rfl rfl (Nat.le_of_ble_eq_true rfl) rfl rfl rfl hC.2.2.1.1) rfl rfl (hR _ _ _ _ (by omega) hT hg) (fun r_19 mi mr hq_19 => ?_)
    obtain ⟨rfl, hsc_19, hq⟩ := hq_19
    refine ev_ret (is_return rfl) ?_
    first
      | (rw [if_pos h_6]; exact ⟨rfl, rfl, hsc_11, hq⟩)
      | (rw [if_neg h_6]; exact ⟨rfl, rfl, hsc_19, hq⟩)
  · refine ev_s (is_aload_n rfl rfl) ?_
    refine ev_s (is_iload_n rfl rfl) ?_
    refine ev_q0 (is_callR 2 [_] [] rfl rfl rfl rfl rfl (Nat.le_of_ble_eq_true rfl) rfl rfl rfl hC.2.2.1.1) rfl rfl (hN _ _ _ _ (by omega) hT hg (by omega)) (fun r_11 mi mr hq_11 => ?_)
    obtain ⟨rfl, hsc_11, hq⟩ := hq_11
    refine ev_s (is_goto rfl) ?_
    refine ev_ret (is_return rfl) ?_
    first
      | (rw [if_pos h_6]; exact ⟨rfl, rfl, hsc_11, hq⟩)
      | (rw [if_neg h_6]; exact ⟨rfl, rfl, hsc_19, hq⟩)
theorem fam_R (hC : xs_C sh mr t) (hz : z ≤ 160) : ∀ n, n ≤ 5 → xR_ t tb z sh mr 54 n (8 * n + 9) (pd_one (tk_k tb z) (tk_v tb z) (tk_f tb z) (tk_t tb z) (pd_sub (tk_k tb z) (tk_v tb z) (tk_f tb z) (tk_t tb z) n)) ∧ xR_ t tb z sh mr 49 n (8 * n + 13) (pd_neg (tk_k tb z) (tk_v tb z) (tk_f tb z) (tk_t tb z) (pd_sub (tk_k tb z) (tk_v tb z) (tk_f tb z) (tk_t tb z) n)) ∧ xR_ t tb z sh mr 47 n (8 * n + 15) (pd_ei (tk_k tb z) (tk_v tb z) (tk_f tb z) (tk_t tb z) (pd_sub (tk_k tb z) (tk_v tb z) (tk_f tb z) (tk_t tb z) n)) := by
  have hT := tk_T (tb := tb) (z := z) hz
  have hV := tk_V (tb := tb) (z := z)
  have up : ∀ n, xR_ t tb z sh mr 54 n (8 * n + 9) (pd_one (tk_k tb z) (tk_v tb z) (tk_f tb z) (tk_t tb z) (pd_sub (tk_k tb z) (tk_v tb z) (tk_f tb z) (tk_t tb z) n)) → (∀ (d : Nat) (mi : im_MI) (p : Nat) (C : List Nat), 8 * n + 13 ≤ d + 1 → xs_M mi tb z → xg_ t tb z mi p C → tk_k tb z p ≠ 0 → EvM d 50 [.ref 35, .int (nI (5 - n))] sh mi mr (fun r sh2 m2 r2 => sh2 = sh ∧ (r2 = mr ∧ sc_ (xw_S t) mi m2 ∧ xq_ t tb z C (sbn_ tb z (pd_sub (tk_k tb z) (tk_v tb z) (tk_f tb z) (tk_t tb z) n) p) m2))) → xR_ t tb z sh mr 54 n (8 * n + 9) (pd_one (tk_k tb z) (tk_v tb z) (tk_f tb z) (tk_t tb z) (pd_sub (tk_k tb z) (tk_v tb z) (tk_f tb z) (tk_t tb z) n)) ∧ xR_ t tb z sh mr 49 n (8 * n + 13) (pd_neg (tk_k tb z) (tk_v tb z) (tk_f tb z) (tk_t tb z) (pd_sub (tk_k tb z) (tk_v tb z) (tk_f tb z) (tk_t tb z) n)) ∧ xR_ t tb z sh mr 47 n (8 * n + 15) (pd_ei (tk_k tb z) (tk_v tb z) (tk_f tb z) (tk_t tb z) (pd_sub (tk_k tb z) (tk_v tb z) (tk_f tb z) (tk_t tb z) n)) := by
    intro n h1 hN
    obtain ⟨w1, w3, w5⟩ := fam_W hT hV n
    have w2 : pd_W (5 * n + 2) (pd_prod (tk_k tb z) (tk_v tb z) (tk_f tb z) (tk_t tb z) (pd_sub (tk_k tb z) (tk_v tb z) (tk_f tb z) (tk_t tb z) n)) z := chain_W hT w1 (Nat.le_refl _) fun k hk => by obtain ⟨rfl, e⟩ := op_mul_1 k hk; exact ⟨by decide, by rw [e]; decide⟩
    have w2b : pd_W (5 * n + 3) (pd_sum (tk_k tb z) (tk_v tb z) (tk_f tb z) (tk_t tb z) (pd_sub (tk_k tb z) (tk_v tb z) (tk_f tb z) (tk_t tb z) n)) z := chain_W hT w2 (Nat.le_refl _) fun k hk => by rcases op_add_2 k hk with ⟨rfl, e⟩ | ⟨rfl, e⟩ <;> exact ⟨by decide, by rw [e]; decide⟩
    have w4 : pd_W (5 * n + 5) (pd_both (tk_k tb z) (tk_v tb z) (tk_f tb z) (tk_t tb z) (pd_sub (tk_k tb z) (tk_v tb z) (tk_f tb z) (tk_t tb z) n)) z := chain_W hT w3 (Nat.le_refl _) fun k hk => by obtain ⟨rfl, e⟩ := op_and_1 k hk; exact ⟨by decide, by rw [e]; decide⟩
    have h2 := xR_product hC (by omega) h1 w1
    have h3 := xR_sum hC (by omega) h2 w2
    have h5 : xR_ t tb z sh mr 49 n (8 * n + 13) (pd_neg (tk_k tb z) (tk_v tb z) (tk_f tb z) (tk_t tb z) (pd_sub (tk_k tb z) (tk_v tb z) (tk_f tb z) (tk_t tb z) n)) := fun d mi p C hd hM hg => xR_negated hC (by omega) hN (fun d mi p C hd hM hg => xR_compared hC (by omega) h3 w2b (by omega) hM hg) hd hM hg
    have h6 := xR_both hC (by omega) h5 w3
    exact ⟨h1, h5, xR_either hC (by omega) h6 w4⟩
  intro n
  induction n with
  | zero =>
    intro _
    refine up 0 (fun d mi p C hd hM hg => xR_one hC (s := none) (by omega) (fun d mi p C hd hM hg hk => xR_minus0 hC (by omega) hM hg) (fun d mi p C hd hM hg hk => xR_bra0 hC (by omega) hM hg) hd hM hg) (fun d mi p C hd hM hg hk => xR_not0 hC (by omega) hM hg)
  | succ n ih =>
    intro hn
    obtain ⟨i1, i2, i3⟩ := ih (by omega)
    obtain ⟨w1, w3, w5⟩ := fam_W hT hV n
    refine up (n + 1) (fun d mi p C hd hM hg => xR_one hC (by omega) (fun d mi p C hd hM hg hk => xR_minus hC (by omega) (by omega) i1 w1 (by omega) hM hg hk) (fun d mi p C hd hM hg hk => xR_bra hC (by omega) (by omega) i3 (by omega) hM hg hk) hd hM hg) (fun d mi p C hd hM hg hk => xR_not hC (by omega) (by omega) i2 w3 (by omega) hM hg hk)
end RULES
