/-! ===== PURE, the class: the reader refuses, expects, adds a step ===== -/
def xa_S (t k : Nat) : Bool := decide (k = 78 + 3 * t ∨ k = 79 + 3 * t)
def xw_S (t k : Nat) : Bool := decide (k = 35 ∨ k = 78 + 3 * t ∨ k = 79 + 3 * t)
/-- the text's steps so far -/
def xc_ (t : Nat) (mi : im_MI) (C : List Nat) : Prop := mi (78 + 3 * t) 2 = nI C.length ∧ ∀ k, k < C.length → mi (79 + 3 * t) k = nI (te_enc (C.getD k 0))
/-- the reader stands at p, with C read -/
def xg_ (t : Nat) (tb : Nat → Nat) (z : Nat) (mi : im_MI) (p : Nat) (C : List Nat) : Prop := xk_ tb z mi p ∧ mi 35 6 = -1 ∧ xc_ t mi C ∧ C.length ≤ p ∧ p ≤ z
/-- a fault stands -/
def xb_ (t : Nat) (mi : im_MI) (f : Nat) : Prop := mi 35 2 = nI 1 ∧ mi 35 6 = nI f ∧ f ≤ 160 ∧ ∃ s, s ≤ 160 ∧ mi (78 + 3 * t) 2 = nI s
def xq_ (t : Nat) (tb : Nat → Nat) (z : Nat) (C : List Nat) (a : pd_R) (mi : im_MI) : Prop := match a with
  | .inl f => xb_ t mi f
  | .inr q => xg_ t tb z mi q.1 (C ++ q.2)
theorem xs_aw {t k : Nat} (h : xa_S t k = true) : xw_S t k = true := decide_eq_true (Or.inr (of_decide_eq_true h))
theorem xs_kw {t k : Nat} (h : xk_S k = true) : xw_S t k = true := decide_eq_true (Or.inl (Nat.eq_of_beq_eq_true h))
theorem xa_ne {t k : Nat} (h1 : k ≠ 78 + 3 * t) (h2 : k ≠ 79 + 3 * t) : xa_S t k = false := decide_eq_false (by omega)
theorem xw_ne {t k : Nat} (h0 : k ≠ 35) (h1 : k ≠ 78 + 3 * t) (h2 : k ≠ 79 + 3 * t) : xw_S t k = false := decide_eq_false (by omega)
theorem xs_M_W {mi ma : im_MI} {tb : Nat → Nat} {z t : Nat} (h : xs_M mi tb z) (h2 : sc_ (xw_S t) mi ma) : xs_M ma tb z := xs_M_row h fun k hk => h2 k (xw_ne (by omega) (by omega) (by omega))
theorem xc_S {t : Nat} {mi ma : im_MI} {C : List Nat} (h : xc_ t mi C) (h2 : sc_ xk_S mi ma) : xc_ t ma C := by
  refine ⟨?_, fun k hk => ?_⟩
  · rw [h2 _ (xk_ne (by omega))]; exact h.1
  · rw [h2 _ (xk_ne (by omega))]; exact h.2 k hk
theorem nI_shl6 {v : Nat} (h : v < 10000) : nI v <<< (nI 6 &&& 31) = nI (v * 64) := pk_shlN _ 6 (nI_sh31 6 (by decide)) (by omega)
theorem nI_or6 {v s : Nat} (h : s < 64) : nI (v * 64) ||| nI s = nI (v * 64 + s) := by
  have := Nat.two_pow_add_eq_or_of_lt (i := 6) (b := s) h v
  rw [nI_or, Nat.mul_comm v 64, show 64 = 2 ^ 6 from rfl, ← this]
theorem getD_app {C : List Nat} {c k : Nat} (h : k < C.length) : (C ++ [c]).getD k 0 = C.getD k 0 := by
  rw [List.getD_eq_getElem?_getD, List.getD_eq_getElem?_getD, List.getElem?_append_left h]
theorem getD_last {C : List Nat} {c : Nat} : (C ++ [c]).getD C.length 0 = c := by
  rw [List.getD_eq_getElem?_getD, List.getElem?_append_right (Nat.le_refl _), Nat.sub_self]; rfl
theorem xk_refuse {d : Nat} {sh : im_Sh} {mi : im_MI} {mr : im_MR} {t z : Nat} {tb : Nat → Nat} (hC : xs_C sh mr t) (hT : xs_M mi tb z) {p : Nat} {C : List Nat} (hg : xg_ t tb z mi p C) : EvM (d) 59 [.ref 35] sh mi mr (fun r sh2 m2 r2 => sh2 = sh ∧ (r2 = mr ∧ sc_ xk_S mi m2 ∧ xb_ t m2 (tk_f tb z p))) := by
  show Ev (d) 59 0 [.ref 35] [] sh mi mr _
  have hz1 := hT.2.2.1
  refine ev_s (is_aload_n rfl rfl) ?_
  refine ev_s (is_getI rfl hC.2.2.1.1 rfl rfl) ?_
  refine ev_s (is_if_ge_f rfl (by rw [hg.2.1]; decide)) ?_
  refine ev_s (is_aload_n rfl rfl) ?_
  refine ev_s (is_aload_n rfl rfl) ?_
  refine ev_s (is_getI rfl hC.2.2.1.1 rfl rfl) ?_
  refine ev_s (is_putI rfl hC.2.2.1.1 rfl rfl rfl) ?_
  refine ev_s (is_aload_n rfl rfl) ?_
  refine ev_s (is_iconst (nI 1) rfl rfl) ?_
  refine ev_s (is_putI rfl hC.2.2.1.1 rfl rfl rfl) ?_
  refine ev_ret (is_return rfl) ?_
  exact ⟨rfl, rfl, (sc_.u sc_rf rfl).u rfl, im_u_s _ _ _ _, by rw [im_u_j _ _ _ _ (by decide), im_u_s]; exact hg.1.2.2.1, (by have := tk_f_z (tb := tb) hg.2.2.2.2; omega), C.length, (by have := hg.2.2.2.1; have := hg.2.2.2.2; omega), by rw [im_u_k _ _ _ _ (by omega), im_u_k _ _ _ _ (by omega)]; exact hg.2.2.1.1⟩
theorem xk_refuseB {d : Nat} {sh : im_Sh} {mi : im_MI} {mr : im_MR} {t z : Nat} {tb : Nat → Nat} (hC : xs_C sh mr t) (hT : xs_M mi tb z) {f : Nat} (hb : xb_ t mi f) : EvM (d) 59 [.ref 35] sh mi mr (fun r sh2 m2 r2 => sh2 = sh ∧ (m2 = mi ∧ r2 = mr)) := by
  show Ev (d) 59 0 [.ref 35] [] sh mi mr _
  refine ev_s (is_aload_n rfl rfl) ?_
  refine ev_s (is_getI' rfl hC.2.2.1.1 rfl rfl hb.2.1) ?_
  refine ev_s (is_if_ge_t rfl (by have := hb.2.2.1; exact nI_le (a := 0) (by omega) (by omega))) ?_
  refine ev_s (is_aload_n rfl rfl) ?_
  refine ev_s (is_iconst (nI 1) rfl rfl) ?_
  refine ev_s (is_putI rfl hC.2.2.1.1 rfl rfl rfl) ?_
  refine ev_ret (is_return rfl) ?_
  exact ⟨rfl, im_u_same _ _ _ hb.1, rfl⟩
theorem xk_expect {d : Nat} {sh : im_Sh} {mi : im_MI} {mr : im_MR} {t z : Nat} {tb : Nat → Nat} (hC : xs_C sh mr t) (hT : xs_M mi tb z) {p : Nat} {C : List Nat} (hg : xg_ t tb z mi p C) {k : Nat} (hk0 : 0 < k) (hk : tk_k tb z p = k) : EvM (d + 7) 58 [.ref 35, .int (nI k)] sh mi mr (fun r sh2 m2 r2 => sh2 = sh ∧ (r2 = mr ∧ sc_ xk_S mi m2 ∧ xg_ t tb z m2 (tk_t tb z p) C)) := by
  show Ev (d + 7) 58 0 [.ref 35, .int (nI k)] [] sh mi mr _
  have hT2 := tk_T (tb := tb) (z := z) hT.2.2.1 p hg.2.2.2.2 (by omega)
  have hCp := hg.2.2.2.1
  refine ev_s (is_aload_n rfl rfl) ?_
  refine ev_s (is_getI' rfl hC.2.2.1.1 rfl rfl hg.1.1) ?_
  refine ev_s (is_iload_n rfl rfl) ?_
  refine ev_s (is_icmp_ne_f rfl (by intro q; exact q (by rw [hk]))) ?_
  refine ev_s (is_aload_n rfl rfl) ?_
  refine ev_q0 (is_callR 1 [] [] rfl rfl rfl rfl rfl (Nat.le_of_ble_eq_true rfl) rfl rfl rfl hC.2.2.1.1) rfl rfl (xk_advance hC hT (p := tk_t tb z p) hT2.2 hg.1.2.2.2) (fun r_9 mi mr hq_9 => ?_)
  obtain ⟨rfl, hsc, hk2, h6⟩ := hq_9
  refine ev_s (is_goto rfl) ?_
  refine ev_ret (is_return rfl) ?_
  exact ⟨rfl, rfl, hsc, hk2, h6.trans hg.2.1, xc_S hg.2.2.1 hsc, (by omega), hT2.2⟩
theorem tk_lt {tb : Nat → Nat} {z : Nat} (h : ∀ j, tb j < 256) (p : Nat) : tk_k tb z p < 256 := by
  unfold tk_k
  split
  · decide
  · split
    · unfold wk_
      have := wi_le (tb := tb) (tk_f tb z p) (tk_t tb z p)
      split
      · omega
      · split <;> decide
    · split
      · split <;> decide
      · split
        · exact h _
        · decide
theorem xk_expectN {d : Nat} {sh : im_Sh} {mi : im_MI} {mr : im_MR} {t z : Nat} {tb : Nat → Nat} (hC : xs_C sh mr t) (hT : xs_M mi tb z) {p : Nat} {C : List Nat} (hg : xg_ t tb z mi p C) {k : Nat} (hk0 : k < 256) (hk : ¬ tk_k tb z p = k) : EvM (d + 1) 58 [.ref 35, .int (nI k)] sh mi mr (fun r sh2 m2 r2 => sh2 = sh ∧ (r2 = mr ∧ sc_ xk_S mi m2 ∧ xb_ t m2 (tk_f tb z p))) := by
  show Ev (d + 1) 58 0 [.ref 35, .int (nI k)] [] sh mi mr _
  refine ev_s (is_aload_n rfl rfl) ?_
  refine ev_s (is_getI' rfl hC.2.2.1.1 rfl rfl hg.1.1) ?_
  refine ev_s (is_iload_n rfl rfl) ?_
  refine ev_s (is_icmp_ne_t rfl (fun q => hk ((nI_eq32 (by have := tk_lt (tb := tb) (z := z) hT.2.2.2.1 p; omega) (by omega)).mp q))) ?_
  refine ev_s (is_aload_n rfl rfl) ?_
  refine ev_q0 (is_callR 1 [] [] rfl rfl rfl rfl rfl (Nat.le_of_ble_eq_true rfl) rfl rfl rfl hC.2.2.1.1) rfl rfl (xk_refuse hC hT hg) (fun r_16 mi mr hq_16 => ?_)
  obtain ⟨rfl, hsc, hb⟩ := hq_16
  refine ev_ret (is_return rfl) ?_
  exact ⟨rfl, rfl, hsc, hb⟩
theorem xk_expectB {d : Nat} {sh : im_Sh} {mi : im_MI} {mr : im_MR} {t z : Nat} {tb : Nat → Nat} (hC : xs_C sh mr t) (hT : xs_M mi tb z) {f : Nat} (hb : xb_ t mi f) {k : Nat} (hk0 : k < 256) (hk : 1 < k) : EvM (d + 1) 58 [.ref 35, .int (nI k)] sh mi mr (fun r sh2 m2 r2 => sh2 = sh ∧ (m2 = mi ∧ r2 = mr)) := by
  show Ev (d + 1) 58 0 [.ref 35, .int (nI k)] [] sh mi mr _
  refine ev_s (is_aload_n rfl rfl) ?_
  refine ev_s (is_getI' rfl hC.2.2.1.1 rfl rfl hb.1) ?_
  refine ev_s (is_iload_n rfl rfl) ?_
  refine ev_s (is_icmp_ne_t rfl (fun q => by have := (nI_eq32 (by omega) (by omega)).mp q; omega)) ?_
  refine ev_s (is_aload_n rfl rfl) ?_
  refine ev_q0 (is_callR 1 [] [] rfl rfl rfl rfl rfl (Nat.le_of_ble_eq_true rfl) rfl rfl rfl hC.2.2.1.1) rfl rfl (xk_refuseB hC hT hb) (fun r_16 mi mr hq_16 => ?_)
  obtain ⟨rfl, rfl⟩ := hq_16
  refine ev_ret (is_return rfl) ?_
  exact ⟨rfl, rfl, rfl⟩
theorem xk_open {d : Nat} {sh : im_Sh} {mi : im_MI} {mr : im_MR} {t : Nat} (hC : xs_C sh mr t) {i : Nat} (h5 : i < 5) : EvM (d) 57 [.ref 35, .int (nI i)] sh mi mr (ev_R sh (.int (nI 1)) mi mr) := by
  show Ev (d) 57 0 [.ref 35, .int (nI i)] [] sh mi mr _
  refine ev_s (is_iload_n rfl rfl) ?_
  refine ev_s (is_iconst (nI 5) rfl rfl) ?_
  refine ev_s (is_icmp_lt_t rfl ((nI_ltI (by omega) (by decide)).mpr h5)) ?_
  refine ev_s (is_iload_n rfl rfl) ?_
  refine ev_s (is_iconst (nI 5) rfl rfl) ?_
  refine ev_s (is_icmp_ge_f rfl (nI_ge (by omega) (by omega))) ?_
  refine ev_s (is_iconst (nI 1) rfl rfl) ?_
  refine ev_s (is_goto rfl) ?_
  refine ev_ret (is_ireturn rfl rfl (by first | rfl | exact pu_b_nar | decide)) ?_
  exact ⟨rfl, rfl, rfl, rfl⟩
theorem xk_openN {d : Nat} {sh : im_Sh} {mi : im_MI} {mr : im_MR} {t z : Nat} {tb : Nat → Nat} (hC : xs_C sh mr t) (hT : xs_M mi tb z) {p : Nat} {C : List Nat} (hg : xg_ t tb z mi p C) : EvM (d + 1) 57 [.ref 35, .int (nI 5)] sh mi mr (fun r sh2 m2 r2 => sh2 = sh ∧ (r = .int (nI 0) ∧ r2 = mr ∧ sc_ xk_S mi m2 ∧ xb_ t m2 (tk_f tb z p))) := by
  show Ev (d + 1) 57 0 [.ref 35, .int (nI 5)] [] sh mi mr _
  refine ev_s (is_iload_n rfl rfl) ?_
  refine ev_s (is_iconst (nI 5) rfl rfl) ?_
  refine ev_s (is_icmp_lt_f rfl (by decide)) ?_
  refine ev_s (is_aload_n rfl rfl) ?_
  refine ev_q0 (is_callR 1 [] [] rfl rfl rfl rfl rfl (Nat.le_of_ble_eq_true rfl) rfl rfl rfl hC.2.2.1.1) rfl rfl (xk_refuse hC hT hg) (fun r_6 mi mr hq_6 => ?_)
  obtain ⟨rfl, hsc, hb⟩ := hq_6
  refine ev_s (is_iload_n rfl rfl) ?_
  refine ev_s (is_iconst (nI 5) rfl rfl) ?_
  refine ev_s (is_icmp_ge_t rfl (by decide)) ?_
  refine ev_s (is_iconst (nI 0) rfl rfl) ?_
  refine ev_ret (is_ireturn rfl rfl (by first | rfl | exact pu_b_nar | decide)) ?_
  exact ⟨rfl, rfl, rfl, hsc, hb⟩
theorem xk_clear {d : Nat} {sh : im_Sh} {mi : im_MI} {mr : im_MR} {t : Nat} (hC : xs_C sh mr t) : EvM (d) 38 [.ref (78 + 3 * t)] sh mi mr (fun r sh2 m2 r2 => sh2 = sh ∧ (r2 = mr ∧ sc_ (xa_S t) mi m2 ∧ xc_ t m2 [])) := by
  show Ev (d) 38 0 [.ref (78 + 3 * t)] [] sh mi mr _
  refine ev_s (is_aload_n rfl rfl) ?_
  refine ev_s (is_iconst (nI 0) rfl rfl) ?_
  refine ev_s (is_putI rfl hC.2.2.2.1.1 rfl rfl rfl) ?_
  refine ev_ret (is_return rfl) ?_
  exact ⟨rfl, rfl, sc_.u sc_rf (decide_eq_true (Or.inl rfl)), im_u_s _ _ _ _, fun k hk => absurd hk (Nat.not_lt_zero _)⟩
theorem xk_add {d : Nat} {sh : im_Sh} {mi : im_MI} {mr : im_MR} {t : Nat} (hC : xs_C sh mr t) {C : List Nat} (hc : xc_ t mi C) (hl : C.length < 160) {s v c : Nat} (hs : s < 64) (hv : v < 10000) (hE : te_enc c = v * 64 + s) : EvM (d) 39 [.ref (78 + 3 * t), .int (nI s), .int (nI v)] sh mi mr (fun r sh2 m2 r2 => sh2 = sh ∧ (r2 = mr ∧ sc_ (xa_S t) mi m2 ∧ xc_ t m2 (C ++ [c]))) := by
  show Ev (d) 39 0 [.ref (78 + 3 * t), .int (nI s), .int (nI v)] [] sh mi mr _
  refine ev_s (is_aload_n rfl rfl) ?_
  refine ev_s (is_getI' rfl hC.2.2.2.1.1 rfl rfl hc.1) ?_
  refine ev_s (is_sipush (nI 160) rfl rfl) ?_
  refine ev_s (is_icmp_ge_f rfl (nI_ge (by omega) (by omega))) ?_
  refine ev_s (is_aload_n rfl rfl) ?_
  refine ev_s (is_getR rfl hC.2.2.2.1.1 rfl rfl hC.2.2.2.1.2.1) ?_
  refine ev_s (is_aload_n rfl rfl) ?_
  refine ev_s (is_dup rfl rfl) ?_
  refine ev_s (is_getI' rfl hC.2.2.2.1.1 rfl rfl hc.1) ?_
  refine ev_s (is_dup_x1 rfl rfl rfl) ?_
  refine ev_s (is_iconst (nI 1) rfl rfl) ?_
  first
    | refine ev_s (is_iadd _ rfl (nI_add _ _)) ?_
    | refine ev_s (is_iadd _ rfl rfl) ?_
  refine ev_s (is_putI rfl hC.2.2.2.1.1 rfl rfl rfl) ?_
  refine ev_s (is_iload_n rfl rfl) ?_
  refine ev_s (is_bipush (nI 6) rfl rfl) ?_
  refine ev_s (is_ishl _ rfl (nI_shl6 hv)) ?_
  refine ev_s (is_iload_n rfl rfl) ?_
  refine ev_s (is_ior (nI (te_enc c)) rfl (by rw [nI_or6 hs, hE])) ?_
  refine ev_s (is_iastore (C.length) rfl hC.2.2.2.2.1 rfl rfl (by omega)) ?_
  refine ev_ret (is_return rfl) ?_
  refine ⟨rfl, rfl, (sc_.u sc_rf (decide_eq_true (Or.inl rfl))).u (decide_eq_true (Or.inr rfl)), ?_, fun k hk => ?_⟩
  · rw [im_u_k _ _ _ _ (by omega), im_u_s, List.length_append]; rfl
  · rw [List.length_append] at hk
    have hk2 : k < C.length + 1 := hk
    by_cases e : k = C.length
    · rw [e, im_u_s, getD_last]
    · rw [im_u_j _ _ _ _ e, im_u_k _ _ _ _ (by omega), getD_app (by omega)]
      exact hc.2 k (by omega)
theorem xk_addB {d : Nat} {sh : im_Sh} {mi : im_MI} {mr : im_MR} {t : Nat} (hC : xs_C sh mr t) (hz : ∃ n, n ≤ 160 ∧ mi (78 + 3 * t) 2 = nI n) (s v : Int32) : EvM (d) 39 [.ref (78 + 3 * t), .int s, .int v] sh mi mr (fun r sh2 m2 r2 => sh2 = sh ∧ (r2 = mr ∧ sc_ (xa_S t) mi m2 ∧ ∃ n, n ≤ 160 ∧ m2 (78 + 3 * t) 2 = nI n)) := by
  show Ev (d) 39 0 [.ref (78 + 3 * t), .int s, .int v] [] sh mi mr _
  obtain ⟨n, hl, hn⟩ := hz
  by_cases h : n < 160
  · refine ev_s (is_aload_n rfl rfl) ?_
    refine ev_s (is_getI' rfl hC.2.2.2.1.1 rfl rfl hn) ?_
    refine ev_s (is_sipush (nI 160) rfl rfl) ?_
    refine ev_s (is_icmp_ge_f rfl (nI_ge (by omega) (by omega))) ?_
    refine ev_s (is_aload_n rfl rfl) ?_
    refine ev_s (is_getR rfl hC.2.2.2.1.1 rfl rfl hC.2.2.2.1.2.1) ?_
    refine ev_s (is_aload_n rfl rfl) ?_
    refine ev_s (is_dup rfl rfl) ?_
    refine ev_s (is_getI' rfl hC.2.2.2.1.1 rfl rfl hn) ?_
    refine ev_s (is_dup_x1 rfl rfl rfl) ?_
    refine ev_s (is_iconst (nI 1) rfl rfl) ?_
    first
      | refine ev_s (is_iadd _ rfl (nI_add _ _)) ?_
      | refine ev_s (is_iadd _ rfl rfl) ?_
    refine ev_s (is_putI rfl hC.2.2.2.1.1 rfl rfl rfl) ?_
    refine ev_s (is_iload_n rfl rfl) ?_
    refine ev_s (is_bipush (nI 6) rfl rfl) ?_
    refine ev_s (is_ishl _ rfl rfl) ?_
    refine ev_s (is_iload_n rfl rfl) ?_
    refine ev_s (is_ior _ rfl rfl) ?_
    refine ev_s (is_iastore (n) rfl hC.2.2.2.2.1 rfl rfl (by omega)) ?_
    refine ev_ret (is_return rfl) ?_
    refine ⟨rfl, rfl, (sc_.u sc_rf (decide_eq_true (Or.inl rfl))).u (decide_eq_true (Or.inr rfl)), n + 1, (by omega), ?_⟩
    rw [im_u_k _ _ _ _ (by omega), im_u_s]
  · refine ev_s (is_aload_n rfl rfl) ?_
    refine ev_s (is_getI' rfl hC.2.2.2.1.1 rfl rfl hn) ?_
    refine ev_s (is_sipush (nI 160) rfl rfl) ?_
    refine ev_s (is_icmp_ge_t rfl (nI_le (by omega) (by omega))) ?_
    refine ev_ret (is_return rfl) ?_
    exact ⟨rfl, rfl, sc_rf, n, hl, hn⟩
theorem xk_end {d : Nat} {sh : im_Sh} {mi : im_MI} {mr : im_MR} {t : Nat} (hC : xs_C sh mr t) {n q : Nat} (hn : mi (78 + 3 * t) 2 = nI n) (hq : q < 3) : EvM (d) 40 [.ref (78 + 3 * t), .int (nI q)] sh mi mr (fun r sh2 m2 r2 => sh2 = sh ∧ (m2 = im_u mi (80 + 3 * t) q (nI n) ∧ r2 = mr)) := by
  show Ev (d) 40 0 [.ref (78 + 3 * t), .int (nI q)] [] sh mi mr _
  refine ev_s (is_aload_n rfl rfl) ?_
  refine ev_s (is_getR rfl hC.2.2.2.1.1 rfl rfl hC.2.2.2.1.2.2) ?_
  refine ev_s (is_iload_n rfl rfl) ?_
  refine ev_s (is_aload_n rfl rfl) ?_
  refine ev_s (is_getI' rfl hC.2.2.2.1.1 rfl rfl hn) ?_
  refine ev_s (is_iastore (q) rfl hC.2.2.2.2.2.1 rfl rfl hq) ?_
  refine ev_ret (is_return rfl) ?_
  exact ⟨rfl, rfl, rfl⟩
