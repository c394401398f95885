/-! ===== PURE, the reference: a part is read by a stack of signs ===== -/
theorem re_unw {d : Nat} {sh : im_Sh} {mi : im_MI} {mr : im_MR} (hC : pu_C sh mr) {t L : Nat} (ht : t < 6) (hL1 : 1 ≤ L) (hL7 : L ≤ 7) {S C : List Nat} (hlen : C.length + S.length < 200) (h9 : mi 110 9 = nI t) (ho : ro_ t mi C) (hs : rs_ mi S) : EvM (d + 1) 143 [.ref 110, .int (nI L)] sh mi mr (fun r sh2 m2 r2 => sh2 = sh ∧ (r2 = mr ∧ rq_ t mi m2 ∧ ro_ t m2 (ya_unw L C S).1 ∧ rs_ m2 (ya_unw L C S).2 ∧ rp_ mi m2)) := re_unwL hC ht hL1 hL7 S C mi im_bad hlen h9 ho hs
theorem unw_top {L x : Nat} {S2 : List Nat} : ∀ (S C : List Nat), (ya_unw L C S).2 = x :: S2 → ya_rk x < L
  | [], C, h => by cases h
  | q :: S, C, h => by
    rw [ya_unw] at h
    by_cases c : L ≤ ya_rk q
    · rw [if_pos c] at h; exact unw_top S _ h
    · rw [if_neg c] at h
      have := (List.cons.inj h).1
      rw [← this]; omega
theorem ya_rk_0 {x : Nat} (h : ya_rk x < 1) : x = 0 := by
  unfold ya_rk at h
  by_cases c : x = 0
  · exact c
  · rw [if_neg c] at h
    exfalso
    revert h
    repeat' split
    all_goals omega
theorem ya_cn_s {s : Nat} {S : List Nat} (h : s ≠ 0 ∧ s ≠ 13 ∧ s ≠ 19) : ya_cn (s :: S) = ya_cn S := by
  show (if s = 0 ∨ s = 13 ∨ s = 19 then 1 else 0) + ya_cn S = _
  rw [if_neg (by omega), Nat.zero_add]
theorem ya_t4_c (x : Nat) (S : List Nat) : ya_t4 (x :: S) = true ↔ ya_rk x = 4 := decide_eq_true_iff
theorem re_between {d : Nat} {sh : im_Sh} {mi0 : im_MI} {mr : im_MR} (hC : pu_C sh mr) {t s : Nat} (ht : t < 6) (hs11 : s = 11 ∨ s = 12 ∨ s = 14 ∨ s = 15 ∨ s = 16 ∨ s = 17 ∨ s = 18) {S C : List Nat} (hlen : C.length + S.length < 200) (h9 : mi0 110 9 = nI t) (ho : ro_ t mi0 C) (hs : rs_ mi0 S) : EvM (d + 2) 146 [.ref 110, .int (nI s)] sh mi0 mr (fun r sh2 m2 r2 => sh2 = sh ∧ (r2 = mr ∧ rq_ t mi0 m2 ∧ rp_ mi0 m2 ∧ ((ya_rk s = 4 ∧ ya_t4 (ya_unw (if ya_rk s = 4 then 5 else ya_rk s) C S).2 = true ∧ r = .int (nI 0)) ∨ (¬ (ya_rk s = 4 ∧ ya_t4 (ya_unw (if ya_rk s = 4 then 5 else ya_rk s) C S).2 = true) ∧ r = .int (nI 1) ∧ ro_ t m2 (ya_unw (if ya_rk s = 4 then 5 else ya_rk s) C S).1 ∧ rs_ m2 (s :: (ya_unw (if ya_rk s = 4 then 5 else ya_rk s) C S).2))))) := by
  show Ev (d + 2) 146 0 [.ref 110, .int (nI s)] [] sh mi0 mr _
  have hrs := ya_rk_le s
  have hrs1 : 1 ≤ ya_rk s := by rcases hs11 with rfl | rfl | rfl | rfl | rfl | rfl | rfl <;> decide
  by_cases h4 : ya_rk s = 4
  · rw [if_pos h4]
    refine ev_s (is_aload_n rfl rfl) ?_
    refine ev_s (is_iload_n rfl rfl) ?_
    refine ev_c1 (is_call0 1 [_] [_] rfl rfl rfl rfl rfl (Nat.le_of_ble_eq_true rfl) rfl rfl rfl) rfl rfl (re_rank (by omega)) ?_
    refine ev_s (is_iconst (nI 4) rfl rfl) ?_
    refine ev_s (is_icmp_ne_f rfl (by rw [h4]; decide)) ?_
    refine ev_s (is_iconst (nI 5) rfl rfl) ?_
    refine ev_s (is_goto rfl) ?_
    refine ev_q0 (is_callR 2 [_] [] rfl rfl rfl rfl rfl (Nat.le_of_ble_eq_true rfl) rfl rfl rfl (pu_s hC 110 rfl rfl)) rfl rfl (re_unw hC ht (L := 5) (by omega) (by omega) hlen h9 ho hs) (fun r_17 mi mr hq_17 => ?_)
    obtain ⟨rfl, hq1, ho2, hs2, hp⟩ := hq_17
    have hl2 := unw_len (L := 5) S C
    cases hu : (ya_unw 5 C S).2 with
    | nil =>
      rw [hu] at hs2 hl2
      have hl3 : (ya_unw 5 C S).1.length + 0 = C.length + S.length := hl2
      refine ev_s (is_iload_n rfl rfl) ?_
      refine ev_c1 (is_call0 1 [_] [] rfl rfl rfl rfl rfl (Nat.le_of_ble_eq_true rfl) rfl rfl rfl) rfl rfl (re_rank (by omega)) ?_
      refine ev_s (is_iconst (nI 4) rfl rfl) ?_
      refine ev_s (is_icmp_ne_f rfl (by rw [h4]; decide)) ?_
      refine ev_s (is_aload_n rfl rfl) ?_
      refine ev_s (is_getI' rfl (pu_s hC 110 rfl rfl) rfl rfl hs2.1) ?_
      refine ev_s (is_if_le_t rfl (by decide)) ?_
      refine ev_s (is_aload_n rfl rfl) ?_
      refine ev_s (is_iload_n rfl rfl) ?_
      refine ev_q0 (is_callR 2 [_] [] rfl rfl rfl rfl rfl (Nat.le_of_ble_eq_true rfl) rfl rfl rfl (pu_s hC 110 rfl rfl)) rfl rfl (re_holds0 hC (S := []) ⟨hs2.1, trivial⟩ (by omega) s) (fun r_57 mi mr hq_57 => ?_)
      obtain ⟨hm_57, hr_57⟩ := hq_57
      subst hm_57
      subst hr_57
      refine ev_s (is_iconst (nI 1) rfl rfl) ?_
      refine ev_ret (is_ireturn rfl rfl (by first | rfl | exact pu_b_nar | decide)) ?_
      refine ⟨rfl, rfl, rq_u (rq_u hq1 (Or.inr (Or.inl rfl))) (Or.inl ⟨rfl, by decide⟩), fun j h1 h2 => by rw [im_u_j _ _ _ _ (by omega), im_u_k _ _ _ _ (by decide)]; exact hp j h1 h2, Or.inr ⟨(fun q => by cases q.2), rfl, ⟨by rw [im_u_j _ _ _ _ (by decide), im_u_k _ _ _ _ (by decide)]; exact ho2.1, fun k hk => by rw [im_u_k _ _ _ _ (by decide), im_u_k _ _ _ _ (by decide)]; exact ho2.2 k hk⟩, rs_push hs2.1 hs2.2.1 (by rw [hs2.2.2.1, ya_cn_s (s := s) (by omega)]) hs2.2.2.2 (by omega)⟩⟩
    | cons x S2 =>
      rw [hu] at hs2 hl2
      have hl3 : (ya_unw 5 C S).1.length + (S2.length + 1) = C.length + S.length := hl2
      have hl4 : (x :: S2).length = S2.length + 1 := rfl
      have hx : x < 32 := hs2.2.2.2 x (List.mem_cons_self ..)
      have hrx := ya_rk_le x
      refine ev_s (is_iload_n rfl rfl) ?_
      refine ev_c1 (is_call0 1 [_] [] rfl rfl rfl rfl rfl (Nat.le_of_ble_eq_true rfl) rfl rfl rfl) rfl rfl (re_rank (by omega)) ?_
      refine ev_s (is_iconst (nI 4) rfl rfl) ?_
      refine ev_s (is_icmp_ne_f rfl (by rw [h4]; decide)) ?_
      refine ev_s (is_aload_n rfl rfl) ?_
      refine ev_s (is_getI' rfl (pu_s hC 110 rfl rfl) rfl rfl hs2.1) ?_
      refine ev_s (is_if_le_f rfl (nI_ge (a := 0) (Nat.succ_pos _) (by show S2.length + 1 < _; omega))) ?_
      refine ev_s (is_aload_n rfl rfl) ?_
      refine ev_s (is_getR rfl (pu_s hC 110 rfl rfl) rfl rfl (pu_r hC 110 23 rfl rfl)) ?_
      refine ev_s (is_aload_n rfl rfl) ?_
      refine ev_s (is_getI' rfl (pu_s hC 110 rfl rfl) rfl rfl hs2.1) ?_
      refine ev_s (is_iconst (nI 1) rfl rfl) ?_
      refine ev_s (is_isub (nI S2.length) rfl (by show nI (S2.length + 1) - nI 1 = _; rw [pk_sub (by omega)]; rfl)) ?_
      refine ev_s (is_iaload' (S2.length) rfl (pu_s hC 124 rfl rfl) rfl rfl (by omega) (rs_top hs2)) ?_
      refine ev_c1 (is_call0 1 [_] [] rfl rfl rfl rfl rfl (Nat.le_of_ble_eq_true rfl) rfl rfl rfl) rfl rfl (re_rank hx) ?_
      refine ev_s (is_iconst (nI 4) rfl rfl) ?_
      refine ev_icmpN_ne rfl (by omega) (by omega) (fun h_50 => ?_) (fun h_50 => ?_)
      · refine ev_s (is_aload_n rfl rfl) ?_
        refine ev_s (is_iload_n rfl rfl) ?_
        refine ev_q0 (is_callR 2 [_] [] rfl rfl rfl rfl rfl (Nat.le_of_ble_eq_true rfl) rfl rfl rfl (pu_s hC 110 rfl rfl)) rfl rfl (re_holds0 hC (S := (x :: S2)) ⟨hs2.1, trivial⟩ (by omega) s) (fun r_57 mi mr hq_57 => ?_)
        obtain ⟨hm_57, hr_57⟩ := hq_57
        subst hm_57
        subst hr_57
        refine ev_s (is_iconst (nI 1) rfl rfl) ?_
        refine ev_ret (is_ireturn rfl rfl (by first | rfl | exact pu_b_nar | decide)) ?_
        refine ⟨rfl, rfl, rq_u (rq_u hq1 (Or.inr (Or.inl rfl))) (Or.inl ⟨rfl, by decide⟩), fun j h1 h2 => by rw [im_u_j _ _ _ _ (by omega), im_u_k _ _ _ _ (by decide)]; exact hp j h1 h2, Or.inr ⟨fun q => h_50 ((ya_t4_c _ _).mp q.2), rfl, ⟨by rw [im_u_j _ _ _ _ (by decide), im_u_k _ _ _ _ (by decide)]; exact ho2.1, fun k hk => by rw [im_u_k _ _ _ _ (by decide), im_u_k _ _ _ _ (by decide)]; exact ho2.2 k hk⟩, rs_push hs2.1 hs2.2.1 (by rw [hs2.2.2.1, ya_cn_s (s := s) (by omega)]) hs2.2.2.2 (by omega)⟩⟩
      · refine ev_s (is_iconst (nI 0) rfl rfl) ?_
        refine ev_ret (is_ireturn rfl rfl (by first | rfl | exact pu_b_nar | decide)) ?_
        exact ⟨rfl, rfl, hq1, hp, Or.inl ⟨h4, (ya_t4_c _ _).mpr h_50, rfl⟩⟩
  · rw [if_neg h4]
    refine ev_s (is_aload_n rfl rfl) ?_
    refine ev_s (is_iload_n rfl rfl) ?_
    refine ev_c1 (is_call0 1 [_] [_] rfl rfl rfl rfl rfl (Nat.le_of_ble_eq_true rfl) rfl rfl rfl) rfl rfl (re_rank (by omega)) ?_
    refine ev_s (is_iconst (nI 4) rfl rfl) ?_
    refine ev_s (is_icmp_ne_t rfl (fun q => h4 ((nI_eq32 (by omega) (by decide)).mp q))) ?_
    refine ev_s (is_iload_n rfl rfl) ?_
    refine ev_c1 (is_call0 1 [_] [_] rfl rfl rfl rfl rfl (Nat.le_of_ble_eq_true rfl) rfl rfl rfl) rfl rfl (re_rank (by omega)) ?_
    refine ev_q0 (is_callR 2 [_] [] rfl rfl rfl rfl rfl (Nat.le_of_ble_eq_true rfl) rfl rfl rfl (pu_s hC 110 rfl rfl)) rfl rfl (re_unw hC ht (L := ya_rk s) (by omega) (by omega) hlen h9 ho hs) (fun r_17 mi mr hq_17 => ?_)
    obtain ⟨rfl, hq1, ho2, hs2, hp⟩ := hq_17
    have hl2 := unw_len (L := ya_rk s) S C
    refine ev_s (is_iload_n rfl rfl) ?_
    refine ev_c1 (is_call0 1 [_] [] rfl rfl rfl rfl rfl (Nat.le_of_ble_eq_true rfl) rfl rfl rfl) rfl rfl (re_rank (by omega)) ?_
    refine ev_s (is_iconst (nI 4) rfl rfl) ?_
    refine ev_s (is_icmp_ne_t rfl (fun q => h4 ((nI_eq32 (by omega) (by decide)).mp q))) ?_
    refine ev_s (is_aload_n rfl rfl) ?_
    refine ev_s (is_iload_n rfl rfl) ?_
    refine ev_q0 (is_callR 2 [_] [] rfl rfl rfl rfl rfl (Nat.le_of_ble_eq_true rfl) rfl rfl rfl (pu_s hC 110 rfl rfl)) rfl rfl (re_holds0 hC (S := (ya_unw (ya_rk s) C S).2) ⟨hs2.1, trivial⟩ (by omega) s) (fun r_57 mi mr hq_57 => ?_)
    obtain ⟨hm_57, hr_57⟩ := hq_57
    subst hm_57
    subst hr_57
    refine ev_s (is_iconst (nI 1) rfl rfl) ?_
    refine ev_ret (is_ireturn rfl rfl (by first | rfl | exact pu_b_nar | decide)) ?_
    refine ⟨rfl, rfl, rq_u (rq_u hq1 (Or.inr (Or.inl rfl))) (Or.inl ⟨rfl, by decide⟩), fun j h1 h2 => by rw [im_u_j _ _ _ _ (by omega), im_u_k _ _ _ _ (by decide)]; exact hp j h1 h2, Or.inr ⟨fun q => h4 q.1, rfl, ⟨by rw [im_u_j _ _ _ _ (by decide), im_u_k _ _ _ _ (by decide)]; exact ho2.1, fun k hk => by rw [im_u_k _ _ _ _ (by decide), im_u_k _ _ _ _ (by decide)]; exact ho2.2 k hk⟩, rs_push hs2.1 hs2.2.1 (by rw [hs2.2.2.1, ya_cn_s (s := s) (by omega)]) hs2.2.2.2 (by omega)⟩⟩
theorem re_sign {d : Nat} {sh : im_Sh} {mi : im_MI} {mr : im_MR} (hC : pu_C sh mr) {k : Nat} (hk : k < 256) (h20 : mi 110 20 = rt_ k) : EvM (d) 147 [.ref 110] sh mi mr (ev_R sh (.int (if op_all k = 0 then -1 else nI (op_all k))) mi mr) := by
  show Ev (d) 147 0 [.ref 110] [] sh mi mr _
  refine ev_s (is_aload_n rfl rfl) ?_
  refine ev_s (is_getI' rfl (pu_s hC 110 rfl rfl) rfl rfl h20) ?_
  refine ev_s (is_iconst (nI 4) rfl rfl) ?_
  refine ev_tk_ne rfl (rt_e7 (by omega)) (fun h_5 => ?_) (fun h_5 => ?_)
  · refine ev_s (is_aload_n rfl rfl) ?_
    refine ev_s (is_getI' rfl (pu_s hC 110 rfl rfl) rfl rfl h20) ?_
    refine ev_s (is_iconst (nI 5) rfl rfl) ?_
    refine ev_tk_ne rfl (rt_e8 (by omega)) (fun h_18 => ?_) (fun h_18 => ?_)
    · refine ev_s (is_aload_n rfl rfl) ?_
      refine ev_s (is_getI' rfl (pu_s hC 110 rfl rfl) rfl rfl h20) ?_
      refine ev_s (is_bipush (nI 60) rfl rfl) ?_
      refine ev_tk_ne rfl (rt_x (q := 60) (by decide) (by omega)) (fun h_32 => ?_) (fun h_32 => ?_)
      · refine ev_s (is_aload_n rfl rfl) ?_
        refine ev_s (is_getI' rfl (pu_s hC 110 rfl rfl) rfl rfl h20) ?_
        refine ev_s (is_bipush (nI 61) rfl rfl) ?_
        refine ev_tk_ne rfl (rt_x (q := 61) (by decide) (by omega)) (fun h_46 => ?_) (fun h_46 => ?_)
        · refine ev_s (is_aload_n rfl rfl) ?_
          refine ev_s (is_getI' rfl (pu_s hC 110 rfl rfl) rfl rfl h20) ?_
          refine ev_s (is_bipush (nI 43) rfl rfl) ?_
          refine ev_tk_ne rfl (rt_x (q := 43) (by decide) (by omega)) (fun h_60 => ?_) (fun h_60 => ?_)
          · refine ev_s (is_aload_n rfl rfl) ?_
            refine ev_s (is_getI' rfl (pu_s hC 110 rfl rfl) rfl rfl h20) ?_
            refine ev_s (is_bipush (nI 45) rfl rfl) ?_
            refine ev_tk_ne rfl (rt_x (q := 45) (by decide) (by omega)) (fun h_74 => ?_) (fun h_74 => ?_)
            · refine ev_s (is_aload_n rfl rfl) ?_
              refine ev_s (is_getI' rfl (pu_s hC 110 rfl rfl) rfl rfl h20) ?_
              refine ev_s (is_bipush (nI 42) rfl rfl) ?_
              refine ev_tk_ne rfl (rt_x (q := 42) (by decide) (by omega)) (fun h_88 => ?_) (fun h_88 => ?_)
              · refine ev_s (is_iconst ((-1)) rfl rfl) ?_
                refine ev_ret (is_ireturn rfl rfl (by first | rfl | exact pu_b_nar | decide)) ?_
                first
                  | (have e : op_all k = 18 := by unfold op_all; rw [if_neg (by omega), if_neg (by omega), if_neg (by omega), if_neg (by omega), if_neg (by omega), if_neg (by omega), if_pos (by omega)]
                     rw [e]; exact ⟨rfl, rfl, rfl, rfl⟩)
                  | (have e : op_all k = 0 := by unfold op_all; rw [if_neg (by omega), if_neg (by omega), if_neg (by omega), if_neg (by omega), if_neg (by omega), if_neg (by omega), if_neg (by omega)]
                     rw [e]; exact ⟨rfl, rfl, rfl, rfl⟩)
              · refine ev_s (is_bipush (nI 18) rfl rfl) ?_
                refine ev_s (is_goto rfl) ?_
                refine ev_ret (is_ireturn rfl rfl (by first | rfl | exact pu_b_nar | decide)) ?_
                first
                  | (have e : op_all k = 18 := by unfold op_all; rw [if_neg (by omega), if_neg (by omega), if_neg (by omega), if_neg (by omega), if_neg (by omega), if_neg (by omega), if_pos (by omega)]
                     rw [e]; exact ⟨rfl, rfl, rfl, rfl⟩)
                  | (have e : op_all k = 0 := by unfold op_all; rw [if_neg (by omega), if_neg (by omega), if_neg (by omega), if_neg (by omega), if_neg (by omega), if_neg (by omega), if_neg (by omega)]
                     rw [e]; exact ⟨rfl, rfl, rfl, rfl⟩)
            · refine ev_s (is_bipush (nI 17) rfl rfl) ?_
              refine ev_s (is_goto rfl) ?_
              refine ev_ret (is_ireturn rfl rfl (by first | rfl | exact pu_b_nar | decide)) ?_
              first
                | (have e : op_all k = 17 := by unfold op_all; rw [if_neg (by omega), if_neg (by omega), if_neg (by omega), if_neg (by omega), if_neg (by omega), if_pos (by omega)]
                   rw [e]; exact ⟨rfl, rfl, rfl, rfl⟩)
                | (have e : op_all k = 0 := by unfold op_all; rw [if_neg (by omega), if_neg (by omega), if_neg (by omega), if_neg (by omega), if_neg (by omega), if_neg (by omega)]
                   rw [e]; exact ⟨rfl, rfl, rfl, rfl⟩)
          · refine ev_s (is_bipush (nI 16) rfl rfl) ?_
            refine ev_s (is_goto rfl) ?_
            refine ev_ret (is_ireturn rfl rfl (by first | rfl | exact pu_b_nar | decide)) ?_
            first
              | (have e : op_all k = 16 := by unfold op_all; rw [if_neg (by omega), if_neg (by omega), if_neg (by omega), if_neg (by omega), if_pos (by omega)]
                 rw [e]; exact ⟨rfl, rfl, rfl, rfl⟩)
              | (have e : op_all k = 0 := by unfold op_all; rw [if_neg (by omega), if_neg (by omega), if_neg (by omega), if_neg (by omega), if_neg (by omega)]
                 rw [e]; exact ⟨rfl, rfl, rfl, rfl⟩)
        · refine ev_s (is_bipush (nI 15) rfl rfl) ?_
          refine ev_s (is_goto rfl) ?_
          refine ev_ret (is_ireturn rfl rfl (by first | rfl | exact pu_b_nar | decide)) ?_
          first
            | (have e : op_all k = 15 := by unfold op_all; rw [if_neg (by omega), if_neg (by omega), if_neg (by omega), if_pos (by omega)]
               rw [e]; exact ⟨rfl, rfl, rfl, rfl⟩)
            | (have e : op_all k = 0 := by unfold op_all; rw [if_neg (by omega), if_neg (by omega), if_neg (by omega), if_neg (by omega)]
               rw [e]; exact ⟨rfl, rfl, rfl, rfl⟩)
      · refine ev_s (is_bipush (nI 14) rfl rfl) ?_
        refine ev_s (is_goto rfl) ?_
        refine ev_ret (is_ireturn rfl rfl (by first | rfl | exact pu_b_nar | decide)) ?_
        first
          | (have e : op_all k = 14 := by unfold op_all; rw [if_neg (by omega), if_neg (by omega), if_pos (by omega)]
             rw [e]; exact ⟨rfl, rfl, rfl, rfl⟩)
          | (have e : op_all k = 0 := by unfold op_all; rw [if_neg (by omega), if_neg (by omega), if_neg (by omega)]
             rw [e]; exact ⟨rfl, rfl, rfl, rfl⟩)
    · refine ev_s (is_bipush (nI 12) rfl rfl) ?_
      refine ev_s (is_goto rfl) ?_
      refine ev_ret (is_ireturn rfl rfl (by first | rfl | exact pu_b_nar | decide)) ?_
      first
        | (have e : op_all k = 12 := by unfold op_all; rw [if_neg (by omega), if_pos (by omega)]
           rw [e]; exact ⟨rfl, rfl, rfl, rfl⟩)
        | (have e : op_all k = 0 := by unfold op_all; rw [if_neg (by omega), if_neg (by omega)]
           rw [e]; exact ⟨rfl, rfl, rfl, rfl⟩)
  · refine ev_s (is_bipush (nI 11) rfl rfl) ?_
    refine ev_s (is_goto rfl) ?_
    refine ev_ret (is_ireturn rfl rfl (by first | rfl | exact pu_b_nar | decide)) ?_
    first
      | (have e : op_all k = 11 := by unfold op_all; rw [if_pos (by omega)]
         rw [e]; exact ⟨rfl, rfl, rfl, rfl⟩)
      | (have e : op_all k = 0 := by unfold op_all; rw [if_neg (by omega)]
         rw [e]; exact ⟨rfl, rfl, rfl, rfl⟩)
