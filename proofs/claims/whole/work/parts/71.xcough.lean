/-! ===== PURE, the class: coughs by lots ===== -/

theorem lN_cmpge {a b : Nat} (ha : a < 2 ^ 63) (hb : b < 2 ^ 63) : 0 ≤ lg_cmp (lN a) (lN b) ↔ b ≤ a := by rw [lg_cmp_ge, pk_lLE hb ha]
theorem nI_l1 {s : Nat} (h : s ≤ 200000) : (nI s + nI 1).toInt64 = lN (s + 1) := by rw [nI_add, nI_l (by omega)]
theorem lt_mul {s i : Nat} (hs : s ≤ 200000) : lt_ s i * 48271 < 2 ^ 63 := by have := lt_le hs i; omega
/-- the copies are as the house behind so many lots -/
def th_ok (H : ho_T) (mi : im_MI) (s o k : Nat) : Prop := ∀ q, q < H 0 0 → xm_ok mi (56 + 4 * q) (ho_row (ct_ H s o k) q)
theorem th_row {H : ho_T} {mi m2 : im_MI} {s o k : Nat} (h : th_ok H mi s o k) (hn : H 0 0 ≤ 6) (e : ∀ c, 56 ≤ c → c ≤ 77 → m2 c = mi c) : th_ok H m2 s o k := fun q hq => xm_row (h q hq) (e _ (by omega) (by omega)) (e _ (by omega) (by omega))
theorem th_yes {H : ho_T} {mi : im_MI} {s o h i : Nat} (ht : th_ok H mi s o (h * H 0 0 + i)) (hh : h < 12) (hi : i < H 0 0) (c : lt_ s (h * H 0 0 + i + 1) % 10 < o) : th_ok H (im_u mi (56 + 4 * i + 1) h (nI 4)) s o (h * H 0 0 + i + 1) := by
  intro q hq
  rw [ct_step H s o hh hi q hq]
  by_cases hqi : q = i
  · subst hqi
    rw [if_pos ⟨rfl, c⟩]
    exact xm_at (ht q hq) hh (by decide)
  · rw [if_neg (fun z => hqi z.1)]
    exact xm_row (ht q hq) (im_u_row' (by omega)) (im_u_row' (by omega))
theorem th_no {H : ho_T} {mi : im_MI} {s o h i : Nat} (ht : th_ok H mi s o (h * H 0 0 + i)) (hh : h < 12) (hi : i < H 0 0) (c : ¬ lt_ s (h * H 0 0 + i + 1) % 10 < o) : th_ok H mi s o (h * H 0 0 + i + 1) := by
  intro q hq
  rw [ct_step H s o hh hi q hq, if_neg (fun z => c z.2)]
  exact ht q hq

theorem x_cough {d : Nat} {sh : im_Sh} {mi : im_MI} {mr : im_MR} (hC : pu_C sh mr) {H : ho_T} {G : ho_G} (hx : xa_ok H G mi mr) {s o : Nat} (hs5 : s ≤ 200000) (ho10 : o ≤ 10) : EvM (d + 5) 129 [.ref 29, .int (nI s), .int (nI o)] sh mi mr (fun r sh2 m2 r2 => sh2 = sh ∧ (r = .int (nI (ho_all (cg_ H s o) G)) ∧ r2 = mr ∧ sc_ xQ mi m2)) := by
  show Ev (d + 5) 129 0 [.ref 29, .int (nI s), .int (nI o), im_bad, im_bad, im_bad, im_bad, im_bad, im_bad] [] sh mi mr _
  have hn6 := xa_n hx
  have loop1 : ∀ (j i : Nat) (ma : im_MI), i + j = H 0 0 → sc_ xQ mi ma → (∀ q, q < i → xm_ok ma (56 + 4 * q) (ho_row H q)) → (∀ (ma : im_MI), sc_ xQ mi ma → th_ok H ma s o 0 → Ev (d + 5) 129 22 [.ref 29, .int (nI s), .int (nI o), .int (nI (H 0 0)), im_bad, im_bad, im_bad, im_bad, im_bad] [] sh ma mr (fun r sh2 m2 r2 => sh2 = sh ∧ (r = .int (nI (ho_all (cg_ H s o) G)) ∧ r2 = mr ∧ sc_ xQ mi m2))) → Ev (d + 5) 129 2 [.ref 29, .int (nI s), .int (nI o), .int (nI i), im_bad, im_bad, im_bad, im_bad, im_bad] [] sh ma mr (fun r sh2 m2 r2 => sh2 = sh ∧ (r = .int (nI (ho_all (cg_ H s o) G)) ∧ r2 = mr ∧ sc_ xQ mi m2)) := by
    intro j
    induction j with
    | zero =>
      intro i ma hi hs g1 hk
      have hx := xa_sc hx hs
      have h6 : i = H 0 0 := by omega
      subst h6
      refine ev_s (is_iload_n rfl rfl) ?_
      refine ev_s (is_aload_n rfl rfl) ?_
      refine ev_s (is_getI' rfl (pu_s hC 29 rfl rfl) rfl rfl hx.1) ?_
      refine ev_s (is_icmp_ge_t rfl (nI_le (by omega) (by omega))) ?_
      exact hk _ hs (fun q hq => by rw [ct_0]; exact g1 q (by omega))
    | succ j ih =>
      intro i ma hi hs g1 hk
      have hx := xa_sc hx hs
      refine ev_s (is_iload_n rfl rfl) ?_
      refine ev_s (is_aload_n rfl rfl) ?_
      refine ev_s (is_getI' rfl (pu_s hC 29 rfl rfl) rfl rfl hx.1) ?_
      refine ev_s (is_icmp_ge_f rfl (nI_ge (by omega) (by omega))) ?_
      refine ev_s (is_aload_n rfl rfl) ?_
      refine ev_s (is_iload_n rfl rfl) ?_
      refine ev_q1 (is_callR 2 [_] [] rfl rfl rfl rfl rfl (Nat.le_of_ble_eq_true rfl) rfl rfl rfl (pu_s hC 29 rfl rfl)) rfl rfl (x_thought hC hx (m := i) (by omega)) (fun r_12 mi mr hq_12 => ?_)
      obtain ⟨rfl, hmr, hsc, hok⟩ := hq_12
      have hmr := hmr.symm
      subst hmr
      have hs := hs.trans (hsc.mono (xM2_xQ (by omega)))
      have g1 : ∀ q, q < i + 1 → xm_ok mi (56 + 4 * q) (ho_row H q) := fun q hq => by
        rcases Nat.eq_or_lt_of_le (Nat.le_of_lt_succ hq) with c | c
        · rw [c]; exact hok
        · exact xm_row (g1 q c) (hsc _ (decide_eq_false (by omega))) (hsc _ (decide_eq_false (by omega)))
      refine ev_s (is_pop rfl rfl) ?_
      refine ev_s (st_iinc_3 _ rfl rfl (nI_inc _)) ?_
      refine ev_s (is_goto rfl) ?_
      exact ih (i + 1) _ (by omega) hs g1 hk
  have innerA : ∀ (h : Nat) (w8 : Value), h < 12 → ∀ (ma : im_MI), sc_ xQ mi ma → th_ok H ma s o (h * H 0 0) → (∀ (ma : im_MI), sc_ xQ mi ma → th_ok H ma s o (h * H 0 0 + H 0 0) → Ev (d + 5) 129 93 [.ref 29, .int (nI s), .int (nI o), .long (lN (lt_ s (h * H 0 0 + H 0 0))), im_bad, .int (nI (lo_sum (fun h => ho_col (cg_ H s o) G h) h)), .int (nI h), .int (nI (H 0 0)), w8] [] sh ma mr (fun r sh2 m2 r2 => sh2 = sh ∧ (r = .int (nI (ho_all (cg_ H s o) G)) ∧ r2 = mr ∧ sc_ xQ mi m2))) → Ev (d + 5) 129 43 [.ref 29, .int (nI s), .int (nI o), .long (lN (lt_ s (h * H 0 0))), im_bad, .int (nI (lo_sum (fun h => ho_col (cg_ H s o) G h) h)), .int (nI h), .int (nI 0), w8] [] sh ma mr (fun r sh2 m2 r2 => sh2 = sh ∧ (r = .int (nI (ho_all (cg_ H s o) G)) ∧ r2 = mr ∧ sc_ xQ mi m2)) := by
    intro h w8 hh ma hs ht hk
    have loop : ∀ (j i : Nat) (ma : im_MI), i + j = H 0 0 → sc_ xQ mi ma → th_ok H ma s o (h * H 0 0 + i) → (∀ (ma : im_MI), sc_ xQ mi ma → th_ok H ma s o (h * H 0 0 + H 0 0) → Ev (d + 5) 129 93 [.ref 29, .int (nI s), .int (nI o), .long (lN (lt_ s (h * H 0 0 + H 0 0))), im_bad, .int (nI (lo_sum (fun h => ho_col (cg_ H s o) G h) h)), .int (nI h), .int (nI (H 0 0)), w8] [] sh ma mr (fun r sh2 m2 r2 => sh2 = sh ∧ (r = .int (nI (ho_all (cg_ H s o) G)) ∧ r2 = mr ∧ sc_ xQ mi m2))) → Ev (d + 5) 129 43 [.ref 29, .int (nI s), .int (nI o), .long (lN (lt_ s (h * H 0 0 + i))), im_bad, .int (nI (lo_sum (fun h => ho_col (cg_ H s o) G h) h)), .int (nI h), .int (nI i), w8] [] sh ma mr (fun r sh2 m2 r2 => sh2 = sh ∧ (r = .int (nI (ho_all (cg_ H s o) G)) ∧ r2 = mr ∧ sc_ xQ mi m2)) := by
      intro j
      induction j with
      | zero =>
        intro i ma hi hs ht hk
        have hx := xa_sc hx hs
        have h6 : i = H 0 0 := by omega
        subst h6
        refine ev_s (is_iload rfl rfl) ?_
        refine ev_s (is_aload_n rfl rfl) ?_
        refine ev_s (is_getI' rfl (pu_s hC 29 rfl rfl) rfl rfl hx.1) ?_
        refine ev_s (is_icmp_ge_t rfl (nI_le (by omega) (by omega))) ?_
        exact hk _ hs ht
      | succ j ih =>
        intro i ma hi hs ht hk
        have hx := xa_sc hx hs
        refine ev_s (is_iload rfl rfl) ?_
        refine ev_s (is_aload_n rfl rfl) ?_
        refine ev_s (is_getI' rfl (pu_s hC 29 rfl rfl) rfl rfl hx.1) ?_
        refine ev_s (is_icmp_ge_f rfl (nI_ge (by omega) (by omega))) ?_
        refine ev_s (is_lload_n rfl rfl) ?_
        refine ev_s (is_ldc2 (lN 48271) rfl rfl) ?_
        refine ev_s (is_lmul _ rfl (lN_mul _ _)) ?_
        refine ev_s (is_ldc2 (lN 2147483647) rfl rfl) ?_
        refine ev_s (is_lrem _ rfl (by decide) (pk_lRem (lt_mul hs5) (by decide) (by decide))) ?_
        refine ev_s (st_lstore_n_3 rfl rfl) ?_
        have hls : lt_ s (h * H 0 0 + i) * 48271 % 2147483647 = lt_ s (h * H 0 0 + i + 1) := rfl
        rw [hls]
        have hl63 : lt_ s (h * H 0 0 + i + 1) < 2 ^ 63 := by have := lt_le hs5 (h * H 0 0 + i + 1); omega
        refine ev_s (is_lload_n rfl rfl) ?_
        refine ev_s (is_ldc2 (lN 10) rfl rfl) ?_
        refine ev_s (is_lrem _ rfl (by decide) (pk_lRem hl63 (by decide) (by decide))) ?_
        refine ev_s (is_iload_n rfl rfl) ?_
        refine ev_s (is_i2l _ rfl (nI_l (by omega))) ?_
        refine ev_s (is_lcmp _ rfl rfl) ?_
        refine ev_if_ge rfl (fun h_70 => ?_) (fun h_70 => ?_)
        · refine ev_s (st_iinc_7 _ rfl rfl (nI_inc _)) ?_
          refine ev_s (is_goto rfl) ?_
          first
            | exact ih (i + 1) _ (by omega) hs (th_no ht hh (by omega) (fun c => absurd ((lN_cmpge (by omega) (by omega)).mp h_70) (by omega))) hk
            | exact ih (i + 1) _ (by omega) (hs.u (xQ_t (by omega))) (th_yes ht hh (by omega) (Nat.not_le.mp (fun c => h_70 ((lN_cmpge (by omega) (by omega)).mpr c)))) hk
        · refine ev_s (is_aload_n rfl rfl) ?_
          refine ev_s (is_getR rfl (pu_s hC 29 rfl rfl) rfl rfl (pu_r hC 29 1 rfl rfl)) ?_
          refine ev_s (is_iload rfl rfl) ?_
          refine ev_s (is_aaload (k := 1) (i) rfl (pu_s hC 31 rfl rfl) rfl rfl rfl (by omega) (pu_rows hC (by omega)).2.1) ?_
          refine ev_s (is_getR rfl (pu_M hC (xm_Mt (m := i) (by omega))).1 rfl rfl (pu_M hC (xm_Mt (m := i) (by omega))).2.2) ?_
          refine ev_s (is_iload rfl rfl) ?_
          refine ev_s (is_iconst (nI 4) rfl rfl) ?_
          refine ev_s (is_iastore (h) rfl ((pu_M hC (xm_Mt (m := i) (by omega))).2.1) rfl rfl (by omega)) ?_
          refine ev_s (st_iinc_7 _ rfl rfl (nI_inc _)) ?_
          refine ev_s (is_goto rfl) ?_
          first
            | exact ih (i + 1) _ (by omega) hs (th_no ht hh (by omega) (fun c => absurd ((lN_cmpge (by omega) (by omega)).mp h_70) (by omega))) hk
            | exact ih (i + 1) _ (by omega) (hs.u (xQ_t (by omega))) (th_yes ht hh (by omega) (Nat.not_le.mp (fun c => h_70 ((lN_cmpge (by omega) (by omega)).mpr c)))) hk
    exact loop (H 0 0) 0 ma (by omega) hs ht hk
  have innerB : ∀ (h : Nat) (w8 : Value), h < 12 → ∀ (ma : im_MI), sc_ xQ mi ma → th_ok H ma s o (h * H 0 0 + H 0 0) → (∀ (w8 : Value) (ma : im_MI), sc_ xQ mi ma → th_ok H ma s o (h * H 0 0 + H 0 0) → Ev (d + 5) 129 152 [.ref 29, .int (nI s), .int (nI o), .long (lN (lt_ s (h * H 0 0 + H 0 0))), im_bad, .int (nI ((lo_sum (fun h => ho_col (cg_ H s o) G h) h) + (lo_sum (fun m => ho_days (cg_ H s o) G m h) (H 0 0)))), .int (nI h), .int (nI (H 0 0)), w8] [] sh ma mr (fun r sh2 m2 r2 => sh2 = sh ∧ (r = .int (nI (ho_all (cg_ H s o) G)) ∧ r2 = mr ∧ sc_ xQ mi m2))) → Ev (d + 5) 129 96 [.ref 29, .int (nI s), .int (nI o), .long (lN (lt_ s (h * H 0 0 + H 0 0))), im_bad, .int (nI (lo_sum (fun h => ho_col (cg_ H s o) G h) h)), .int (nI h), .int (nI 0), w8] [] sh ma mr (fun r sh2 m2 r2 => sh2 = sh ∧ (r = .int (nI (ho_all (cg_ H s o) G)) ∧ r2 = mr ∧ sc_ xQ mi m2)) := by
    intro h w8 hh ma hs ht hk
    have loop : ∀ (j i : Nat) (w8 : Value) (ma : im_MI), i + j = H 0 0 → sc_ xQ mi ma → th_ok H ma s o (h * H 0 0 + H 0 0) → (∀ (w8 : Value) (ma : im_MI), sc_ xQ mi ma → th_ok H ma s o (h * H 0 0 + H 0 0) → Ev (d + 5) 129 152 [.ref 29, .int (nI s), .int (nI o), .long (lN (lt_ s (h * H 0 0 + H 0 0))), im_bad, .int (nI ((lo_sum (fun h => ho_col (cg_ H s o) G h) h) + (lo_sum (fun m => ho_days (cg_ H s o) G m h) (H 0 0)))), .int (nI h), .int (nI (H 0 0)), w8] [] sh ma mr (fun r sh2 m2 r2 => sh2 = sh ∧ (r = .int (nI (ho_all (cg_ H s o) G)) ∧ r2 = mr ∧ sc_ xQ mi m2))) → Ev (d + 5) 129 96 [.ref 29, .int (nI s), .int (nI o), .long (lN (lt_ s (h * H 0 0 + H 0 0))), im_bad, .int (nI ((lo_sum (fun h => ho_col (cg_ H s o) G h) h) + (lo_sum (fun m => ho_days (cg_ H s o) G m h) i))), .int (nI h), .int (nI i), w8] [] sh ma mr (fun r sh2 m2 r2 => sh2 = sh ∧ (r = .int (nI (ho_all (cg_ H s o) G)) ∧ r2 = mr ∧ sc_ xQ mi m2)) := by
      intro j
      induction j with
      | zero =>
        intro i w8 ma hi hs ht hk
        have hx := xa_sc hx hs
        have h6 : i = H 0 0 := by omega
        subst h6
        refine ev_s (is_iload rfl rfl) ?_
        refine ev_s (is_aload_n rfl rfl) ?_
        refine ev_s (is_getI' rfl (pu_s hC 29 rfl rfl) rfl rfl hx.1) ?_
        refine ev_s (is_icmp_ge_t rfl (nI_le (by omega) (by omega))) ?_
        exact hk _ _ hs ht
      | succ j ih =>
        intro i w8 ma hi hs ht hk
        have hx := xa_sc hx hs
        refine ev_s (is_iload rfl rfl) ?_
        refine ev_s (is_aload_n rfl rfl) ?_
        refine ev_s (is_getI' rfl (pu_s hC 29 rfl rfl) rfl rfl hx.1) ?_
        refine ev_s (is_icmp_ge_f rfl (nI_ge (by omega) (by omega))) ?_
        refine ev_s (is_aload_n rfl rfl) ?_
        refine ev_s (is_iload rfl rfl) ?_
        refine ev_c1 (is_callR 2 [_] [] rfl rfl rfl rfl rfl (Nat.le_of_ble_eq_true rfl) rfl rfl rfl (pu_s hC 29 rfl rfl)) rfl rfl (x_mateN hC hx (m := i) (by omega)) ?_
        have hd0 := (cg_days H G s o (h := h) (m := i) (k := (h * H 0 0 + H 0 0)) hh (by omega) (by rw [Nat.add_mul, Nat.one_mul]; exact Nat.le_refl _))
        rcases eo : ho_mate H i with _ | q
        · rw [eo] at hd0
          dsimp only at hd0
          refine ev_s (st_istore_8 rfl rfl) ?_
          refine ev_s (is_iload rfl rfl) ?_
          refine ev_s (is_if_lt_t rfl (by decide)) ?_
          refine ev_s (st_iinc_7 _ rfl rfl (nI_inc _)) ?_
          refine ev_s (is_goto rfl) ?_
          have := ih (i + 1) (.int (-1)) _ (by omega) hs ht hk
          rw [lo_sum_s, hd0, Nat.add_zero] at this
          exact this
        · rw [eo] at hd0
          dsimp only at hd0
          have hql := ho_mate_lt eo
          show Ev _ _ _ [_, _, _, _, _, _, _, _, _] [.int (nI q)] _ _ _ _
          refine ev_s (st_istore_8 rfl rfl) ?_
          refine ev_s (is_iload rfl rfl) ?_
          refine ev_s (is_if_lt_f rfl (nI_pos (by omega))) ?_
          refine ev_s (is_iload rfl rfl) ?_
          refine ev_s (is_aload_n rfl rfl) ?_
          refine ev_s (is_getR rfl (pu_s hC 29 rfl rfl) rfl rfl (pu_r hC 29 3 rfl rfl)) ?_
          refine ev_s (is_aload_n rfl rfl) ?_
          refine ev_s (is_getR rfl (pu_s hC 29 rfl rfl) rfl rfl (pu_r hC 29 1 rfl rfl)) ?_
          refine ev_s (is_iload rfl rfl) ?_
          refine ev_s (is_aaload (k := 1) (i) rfl (pu_s hC 31 rfl rfl) rfl rfl rfl (by omega) (pu_rows hC (by omega)).2.1) ?_
          refine ev_s (is_aload_n rfl rfl) ?_
          refine ev_s (is_getR rfl (pu_s hC 29 rfl rfl) rfl rfl (pu_r hC 29 1 rfl rfl)) ?_
          refine ev_s (is_iload rfl rfl) ?_
          refine ev_s (is_aaload (k := 1) (q) rfl (pu_s hC 31 rfl rfl) rfl rfl rfl (by omega) (pu_rows hC (by omega)).2.1) ?_
          refine ev_s (is_iload rfl rfl) ?_
          refine ev_q1 (is_callR 4 [_, _, _] [_] rfl rfl rfl rfl rfl (Nat.le_of_ble_eq_true rfl) rfl rfl rfl (pu_s hC 104 rfl rfl)) rfl rfl (x_days hC (xa_r hx) (h := h) (xm_Mt (m := i) (by omega)) (ht i (by omega)) (xm_Mt (m := q) (by omega)) (ht q hql) hh) (fun r_140 mi mr hq_140 => ?_)
          obtain ⟨rfl, hmr, hsc⟩ := hq_140
          have hmr := hmr.symm
          subst hmr
          have ht := th_row ht hn6 (fun c h1 h2 => hsc c (xS_f (by omega) (by omega)))
          have hsc := hsc.mono (xS_xQ (Or.inl rfl))
          have hs := hs.trans hsc
          first
            | refine ev_s (is_iadd _ rfl (nI_add _ _)) ?_
            | refine ev_s (is_iadd _ rfl rfl) ?_
          refine ev_s (st_istore_5 rfl rfl) ?_
          refine ev_s (st_iinc_7 _ rfl rfl (nI_inc _)) ?_
          refine ev_s (is_goto rfl) ?_
          have := ih (i + 1) (.int (nI q)) _ (by omega) hs ht hk
          rw [lo_sum_s, hd0, ← Nat.add_assoc] at this
          exact this
    exact loop (H 0 0) 0 w8 ma (by omega) hs ht hk
  have outer : ∀ (j h : Nat) (w7 w8 : Value) (ma : im_MI), h + j = 12 → sc_ xQ mi ma → th_ok H ma s o (h * H 0 0) → Ev (d + 5) 129 33 [.ref 29, .int (nI s), .int (nI o), .long (lN (lt_ s (h * H 0 0))), im_bad, .int (nI (lo_sum (fun h => ho_col (cg_ H s o) G h) h)), .int (nI h), w7, w8] [] sh ma mr (fun r sh2 m2 r2 => sh2 = sh ∧ (r = .int (nI (ho_all (cg_ H s o) G)) ∧ r2 = mr ∧ sc_ xQ mi m2)) := by
    intro j
    induction j with
    | zero =>
      intro h w7 w8 ma hi hs ht
      refine ev_s (is_iload rfl rfl) ?_
      refine ev_s (is_bipush (nI 12) rfl rfl) ?_
      refine ev_s (is_icmp_ge_t rfl (nI_le (by omega) (by omega))) ?_
      refine ev_s (is_iload rfl rfl) ?_
      refine ev_ret (is_ireturn rfl rfl (by first | rfl | exact pu_b_nar | decide)) ?_
      exact ⟨rfl, by rw [show h = 12 by omega, ← ho_all_col], rfl, hs⟩
    | succ j ih =>
      intro h w7 w8 ma hi hs ht
      refine ev_s (is_iload rfl rfl) ?_
      refine ev_s (is_bipush (nI 12) rfl rfl) ?_
      refine ev_s (is_icmp_ge_f rfl (nI_ge (by omega) (by omega))) ?_
      refine ev_s (is_iconst (nI 0) rfl rfl) ?_
      refine ev_s (st_istore_7 rfl rfl) ?_
      refine innerA h _ (by omega) _ hs ht (fun ma hs ht => ?_)
      refine ev_s (is_iconst (nI 0) rfl rfl) ?_
      refine ev_s (st_istore_7 rfl rfl) ?_
      refine innerB h _ (by omega) _ hs ht (fun w8 ma hs ht => ?_)
      refine ev_s (st_iinc_6 _ rfl rfl (nI_inc _)) ?_
      refine ev_s (is_goto rfl) ?_
      have hm : (h + 1) * H 0 0 = h * H 0 0 + H 0 0 := by rw [Nat.add_mul, Nat.one_mul]
      have := ih (h + 1) (.int (nI (H 0 0))) w8 _ (by omega) hs (by rw [hm]; exact ht)
      rw [hm, lo_sum_s] at this
      exact this
  refine ev_s (is_iconst (nI 0) rfl rfl) ?_
  refine ev_s (st_istore_n_3 rfl rfl) ?_
  refine loop1 (H 0 0) 0 mi (by omega) sc_rf (fun q hq => by omega) (fun ma hs ht => ?_)
  refine ev_s (is_iload_n rfl rfl) ?_
  refine ev_s (is_iconst (nI 1) rfl rfl) ?_
  refine ev_s (is_iadd _ rfl rfl) ?_
  refine ev_s (is_i2l _ rfl (nI_l1 hs5)) ?_
  refine ev_s (st_lstore_n_3 rfl rfl) ?_
  refine ev_s (is_iconst (nI 0) rfl rfl) ?_
  refine ev_s (st_istore_5 rfl rfl) ?_
  refine ev_s (is_iconst (nI 0) rfl rfl) ?_
  refine ev_s (st_istore_6 rfl rfl) ?_
  have := outer 12 0 im_bad im_bad ma (by omega) hs (by rw [Nat.zero_mul]; exact ht)
  rw [Nat.zero_mul] at this
  exact this

theorem x_drawn {d : Nat} {sh : im_Sh} {mi : im_MI} {mr : im_MR} (hC : pu_C sh mr) {H : ho_T} {G : ho_G} (hx : xa_ok H G mi mr) (s o : Int32) : EvM (d + 6) 94 [.ref 29, .int s, .int o] sh mi mr (fun r sh2 m2 r2 => sh2 = sh ∧ (r = .int (an_drawn H G s o) ∧ r2 = mr ∧ sc_ xQ mi m2)) := by
  show Ev (d + 6) 94 0 [.ref 29, .int s, .int o] [] sh mi mr _
  have hn6 := xa_n hx
  have hs : sc_ xQ mi mi := sc_rf
  refine ev_s (is_iload_n rfl rfl) ?_
  refine ev_s (is_iconst (nI 0) rfl rfl) ?_
  refine ev_s (is_ldcw (nI 99999) rfl rfl) ?_
  refine ev_c1 (is_call0 3 [_, _, _] [] rfl rfl rfl rfl rfl (Nat.le_of_ble_eq_true rfl) rfl rfl rfl) rfl rfl (x_within' _ _ _) ?_
  refine ev_ifB_eq rfl (fun h_8 => ?_) (fun h_8 => ?_)
  · refine ev_s (is_bipush ((-2)) rfl rfl) ?_
    refine ev_ret (is_ireturn rfl rfl (by first | rfl | exact pu_b_nar | decide)) ?_
    first
      | exact ⟨rfl, by simp [an_drawn, h_8], rfl, sc_rf⟩
      | exact ⟨by simp [an_drawn, h_8], rfl, hsc⟩
  · obtain ⟨s0, rfl, ls0, us0, es0⟩ := ho_rng_n h_8 (by decide) (by decide)
    refine ev_s (is_iload_n rfl rfl) ?_
    refine ev_s (is_iconst (nI 0) rfl rfl) ?_
    refine ev_s (is_bipush (nI 10) rfl rfl) ?_
    refine ev_c1 (is_call0 3 [_, _, _] [] rfl rfl rfl rfl rfl (Nat.le_of_ble_eq_true rfl) rfl rfl rfl) rfl rfl (x_within' _ _ _) ?_
    refine ev_ifB_ne rfl (fun h_18 => ?_) (fun h_18 => ?_)
    · obtain ⟨o0, rfl, lo0, uo0, eo0⟩ := ho_rng_n h_18 (by decide) (by decide)
      refine ev_s (is_aload_n rfl rfl) ?_
      refine ev_s (is_iload_n rfl rfl) ?_
      refine ev_s (is_iload_n rfl rfl) ?_
      refine ev_q1 (is_callR 3 [_, _] [] rfl rfl rfl rfl rfl (Nat.le_of_ble_eq_true rfl) rfl rfl rfl (pu_s hC 29 rfl rfl)) rfl rfl (x_cough hC hx (s := s0) (o := o0) (by omega) (by omega)) (fun r_27 mi mr hq_27 => ?_)
      obtain ⟨rfl, hmr, hsc⟩ := hq_27
      have hmr := hmr.symm
      subst hmr
      refine ev_ret (is_ireturn rfl rfl (by first | rfl | exact pu_b_nar | decide)) ?_
      exact ⟨rfl, by simp [an_drawn, h_8, es0, h_18, eo0], rfl, hsc⟩
    · refine ev_s (is_bipush ((-2)) rfl rfl) ?_
      refine ev_ret (is_ireturn rfl rfl (by first | rfl | exact pu_b_nar | decide)) ?_
      first
        | exact ⟨rfl, by simp [an_drawn, h_8, es0, h_18], rfl, sc_rf⟩
        | exact ⟨by simp [an_drawn, h_8, es0, h_18], rfl, hsc⟩

theorem x_odds {d : Nat} {sh : im_Sh} {mi : im_MI} {mr : im_MR} (hC : pu_C sh mr) {H : ho_T} {G : ho_G} (hx : xa_ok H G mi mr) (s n o d1 p : Int32) : EvM (d + 6) 95 [.ref 29, .int s, .int n, .int o, .int d1, .int p] sh mi mr (fun r sh2 m2 r2 => sh2 = sh ∧ (r = .long (an_odds H G s n o d1 p) ∧ r2 = mr ∧ sc_ xQ mi m2)) := by
  show Ev (d + 6) 95 0 [.ref 29, .int s, .int n, .int o, .int d1, .int p, im_bad, im_bad] [] sh mi mr _
  have hn6 := xa_n hx
  have hs : sc_ xQ mi mi := sc_rf
  refine ev_s (is_iload_n rfl rfl) ?_
  refine ev_s (is_iconst (nI 0) rfl rfl) ?_
  refine ev_s (is_ldcw (nI 99999) rfl rfl) ?_
  refine ev_c1 (is_call0 3 [_, _, _] [] rfl rfl rfl rfl rfl (Nat.le_of_ble_eq_true rfl) rfl rfl rfl) rfl rfl (x_within' _ _ _) ?_
  refine ev_ifB_eq rfl (fun h_8 => ?_) (fun h_8 => ?_)
  · refine ev_s (is_ldc2 ((-4611686018427387904)) rfl rfl) ?_
    refine ev_ret (is_lreturn rfl) ?_
    refine ⟨rfl, ?_, rfl, sc_rf⟩
    simp [an_odds, h_8]
    all_goals (try rfl)
  · obtain ⟨s0, rfl, ls0, us0, es0⟩ := ho_rng_n h_8 (by decide) (by decide)
    refine ev_s (is_iload_n rfl rfl) ?_
    refine ev_s (is_iconst (nI 1) rfl rfl) ?_
    refine ev_s (is_bipush (nI 40) rfl rfl) ?_
    refine ev_c1 (is_call0 3 [_, _, _] [] rfl rfl rfl rfl rfl (Nat.le_of_ble_eq_true rfl) rfl rfl rfl) rfl rfl (x_within' _ _ _) ?_
    refine ev_ifB_eq rfl (fun h_18 => ?_) (fun h_18 => ?_)
    · refine ev_s (is_ldc2 ((-4611686018427387904)) rfl rfl) ?_
      refine ev_ret (is_lreturn rfl) ?_
      refine ⟨rfl, ?_, rfl, sc_rf⟩
      simp [an_odds, h_8, es0, h_18]
      all_goals (try rfl)
    · obtain ⟨n0, rfl, ln0, un0, en0⟩ := ho_rng_n h_18 (by decide) (by decide)
      refine ev_s (is_iload_n rfl rfl) ?_
      refine ev_s (is_iconst (nI 0) rfl rfl) ?_
      refine ev_s (is_bipush (nI 10) rfl rfl) ?_
      refine ev_c1 (is_call0 3 [_, _, _] [] rfl rfl rfl rfl rfl (Nat.le_of_ble_eq_true rfl) rfl rfl rfl) rfl rfl (x_within' _ _ _) ?_
      refine ev_ifB_ne rfl (fun h_28 => ?_) (fun h_28 => ?_)
      · obtain ⟨o0, rfl, lo0, uo0, eo0⟩ := ho_rng_n h_28 (by decide) (by decide)
        refine ev_s (is_iload rfl rfl) ?_
        refine ev_s (is_iconst (nI 0) rfl rfl) ?_
        refine ev_s (is_sipush (nI 9999) rfl rfl) ?_
        refine ev_c1 (is_call0 3 [_, _, _] [] rfl rfl rfl rfl rfl (Nat.le_of_ble_eq_true rfl) rfl rfl rfl) rfl rfl (x_within' _ _ _) ?_
        refine ev_ifB_eq rfl (fun h_44 => ?_) (fun h_44 => ?_)
        · refine ev_s (is_ldc2 ((-4611686018427387904)) rfl rfl) ?_
          refine ev_ret (is_lreturn rfl) ?_
          refine ⟨rfl, ?_, rfl, sc_rf⟩
          simp [an_odds, h_8, es0, h_18, en0, h_28, eo0, h_44]
          all_goals (try rfl)
        · obtain ⟨d0, rfl, ld0, ud0, ed0⟩ := ho_rng_n h_44 (by decide) (by decide)
          refine ev_s (is_iload rfl rfl) ?_
          refine ev_s (is_iconst (nI 0) rfl rfl) ?_
          refine ev_s (is_iconst (nI 1) rfl rfl) ?_
          refine ev_c1 (is_call0 3 [_, _, _] [] rfl rfl rfl rfl rfl (Nat.le_of_ble_eq_true rfl) rfl rfl rfl) rfl rfl (x_within' _ _ _) ?_
          refine ev_ifB_ne rfl (fun h_54 => ?_) (fun h_54 => ?_)
          · obtain ⟨p0, rfl, lp0, up0, ep0⟩ := ho_rng_n h_54 (by decide) (by decide)
            refine ev_s (is_iconst (nI 0) rfl rfl) ?_
            refine ev_s (st_istore_6 rfl rfl) ?_
            refine ev_s (is_iconst (nI 0) rfl rfl) ?_
            refine ev_s (st_istore_7 rfl rfl) ?_
            rw [show an_odds H G (nI s0) (nI n0) (nI o0) (nI d0) (nI p0) = lN (lw_ (od_n H G s0 o0 d0 n0) n0 p0) by simp [an_odds, h_8, es0, h_18, en0, h_28, eo0, h_44, ed0, h_54, ep0]]
            have loop : ∀ (j i : Nat) (ma : im_MI), i + j = n0 → xa_ok H G ma mr → sc_ xQ mi ma → Ev (d + 6) 95 67 [.ref 29, .int (nI s0), .int (nI n0), .int (nI o0), .int (nI d0), .int (nI p0), .int (nI (od_n H G s0 o0 d0 i)), .int (nI i)] [] sh ma mr (fun r sh2 m2 r2 => sh2 = sh ∧ (r = .long (lN (lw_ (od_n H G s0 o0 d0 n0) n0 p0)) ∧ r2 = mr ∧ sc_ xQ mi m2)) := by
              intro j
              induction j with
              | zero =>
                intro i ma hi hx hs
                have hodl : (od_n H G s0 o0 d0 i) ≤ i * 1 := lo_sum_le i (fun q _ => by show (if _ then 1 else 0) ≤ 1; split <;> omega)
                refine ev_s (is_iload rfl rfl) ?_
                refine ev_s (is_iload_n rfl rfl) ?_
                refine ev_s (is_icmp_ge_t rfl (nI_le (by omega) (by omega))) ?_
                refine ev_s (is_iload rfl rfl) ?_
                refine ev_s (is_i2l _ rfl (nI_l (by omega))) ?_
                refine ev_s (is_iload_n rfl rfl) ?_
                refine ev_s (is_i2l _ rfl (nI_l (by omega))) ?_
                refine ev_s (is_iload rfl rfl) ?_
                refine ev_c1 (is_call0 3 [_, _, _] [] rfl rfl rfl rfl rfl (Nat.le_of_ble_eq_true rfl) rfl rfl rfl) rfl rfl (x_lowest (a := (od_n H G s0 o0 d0 i)) (b := n0) (p := p0) (by omega) (by omega) (by omega) (by omega)) ?_
                refine ev_ret (is_lreturn rfl) ?_
                exact ⟨rfl, by rw [show i = n0 by omega], rfl, hs⟩
              | succ j ih =>
                intro i ma hi hx hs
                refine ev_s (is_iload rfl rfl) ?_
                refine ev_s (is_iload_n rfl rfl) ?_
                refine ev_s (is_icmp_ge_f rfl (nI_ge (by omega) (by omega))) ?_
                refine ev_s (is_aload_n rfl rfl) ?_
                refine ev_s (is_iload_n rfl rfl) ?_
                refine ev_s (is_iload rfl rfl) ?_
                first
                  | refine ev_s (is_iadd _ rfl (nI_add _ _)) ?_
                  | refine ev_s (is_iadd _ rfl rfl) ?_
                refine ev_s (is_iload_n rfl rfl) ?_
                refine ev_q1 (is_callR 3 [_, _] [] rfl rfl rfl rfl rfl (Nat.le_of_ble_eq_true rfl) rfl rfl rfl (pu_s hC 29 rfl rfl)) rfl rfl (x_cough hC hx (s := s0 + i) (o := o0) (by omega) (by omega)) (fun r_79 mi mr hq_79 => ?_)
                obtain ⟨rfl, hmr, hsc⟩ := hq_79
                have hmr := hmr.symm
                subst hmr
                have hs := hs.trans hsc
                have hx := xa_sc hx hsc
                have hal := ho_all_le (H := cg_ H (s0 + i) o0) G (by unfold cg_; rw [ct_lo H (s0 + i) o0 _ (by decide)]; exact hn6)
                refine ev_s (is_iload rfl rfl) ?_
                refine ev_icmpN_gt rfl (by omega) (by omega) (fun h_84 => ?_) (fun h_84 => ?_)
                · have hf : (od_n H G s0 o0 d0 (i + 1)) = (od_n H G s0 o0 d0 i) := by show lo_sum _ (i + 1) = _; rw [lo_sum_s]; rw [if_neg (by omega)]; rfl
                  refine ev_s (st_iinc_7 _ rfl rfl (nI_inc _)) ?_
                  refine ev_s (is_goto rfl) ?_
                  have := ih (i + 1) _ (by omega) hx hs
                  rw [hf] at this
                  exact this
                · have hf : (od_n H G s0 o0 d0 (i + 1)) = (od_n H G s0 o0 d0 i) + 1 := by show lo_sum _ (i + 1) = _; rw [lo_sum_s]; rw [if_pos (by omega)]; rfl
                  refine ev_s (st_iinc_6 _ rfl rfl (nI_inc _)) ?_
                  refine ev_s (st_iinc_7 _ rfl rfl (nI_inc _)) ?_
                  refine ev_s (is_goto rfl) ?_
                  have := ih (i + 1) _ (by omega) hx hs
                  rw [hf] at this
                  exact this
            exact loop n0 0 mi (by omega) hx sc_rf
          · refine ev_s (is_ldc2 ((-4611686018427387904)) rfl rfl) ?_
            refine ev_ret (is_lreturn rfl) ?_
            refine ⟨rfl, ?_, rfl, sc_rf⟩
            simp [an_odds, h_8, es0, h_18, en0, h_28, eo0, h_44, ed0, h_54]
            all_goals (try rfl)
      · refine ev_s (is_ldc2 ((-4611686018427387904)) rfl rfl) ?_
        refine ev_ret (is_lreturn rfl) ?_
        refine ⟨rfl, ?_, rfl, sc_rf⟩
        simp [an_odds, h_8, es0, h_18, en0, h_28]
        all_goals (try rfl)
