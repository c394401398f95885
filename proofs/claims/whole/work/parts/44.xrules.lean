/-! ===== PURE, the class: Rules ===== -/

theorem x_says {d : Nat} {sh : im_Sh} {mi : im_MI} {mr : im_MR} (hC : pu_C sh mr) {R t w : Nat} {G : ho_G} (hr : xr_ok mi mr R G t w) {k q h : Nat} {a b : Nat → Nat} (hk : xm_M k) (ha : xm_ok mi k a) (hq : xm_M q) (hb : xm_ok mi q b) (hh : h < 12) {p : Nat} (hp : p < 3) : EvM (d + 2) 17 [.ref R, .int (nI p), .ref k, .ref q, .int (nI h)] sh mi mr (fun r sh2 m2 r2 => sh2 = sh ∧ (r = .int (nI (md_say (G t p) (if p = 2 then 100 else 99) w a b h)) ∧ r2 = mr ∧ sc_ (xS R) mi m2)) := by
  show Ev (d + 2) 17 0 [.ref R, .int (nI p), .ref k, .ref q, .int (nI h), im_bad] [] sh mi mr _
  have ht6 := hr.2.2.1
  have hRb : 104 ≤ R ∧ R ≤ 107 := by rcases hr.1 with rfl | rfl <;> omega
  have hkb := xm_M_ne hk
  have hqb := xm_M_ne hq
  refine ev_s (is_iload rfl rfl) ?_
  refine ev_c1 (is_call0 1 [_] [] rfl rfl rfl rfl rfl (Nat.le_of_ble_eq_true rfl) rfl rfl rfl) rfl rfl (x_noHour _) ?_
  rw [pu_noHour hh]
  refine ev_s (is_if_eq_t rfl rfl) ?_
  refine ev_s (is_aload_n rfl rfl) ?_
  refine ev_s (is_getR rfl (pu_R hC hr.1).1 rfl rfl (pu_R hC hr.1).2.2.2.1) ?_
  refine ev_s (is_iconst (nI 0) rfl rfl) ?_
  refine ev_s (is_aload_n rfl rfl) ?_
  refine ev_s (is_getR rfl (pu_M hC hk).1 rfl rfl (pu_M hC hk).2.2) ?_
  refine ev_s (is_iload rfl rfl) ?_
  refine ev_s (is_iaload' (h) rfl ((pu_M hC hk).2.1) rfl rfl hh (ha.2.2.2.2.1 h hh)) ?_
  refine ev_s (is_iastore (0) rfl ((pu_R hC hr.1).2.1) rfl rfl (by decide)) ?_
  refine ev_s (is_aload_n rfl rfl) ?_
  refine ev_s (is_getR rfl (pu_R hC hr.1).1 rfl rfl (pu_R hC hr.1).2.2.2.1) ?_
  refine ev_s (is_iconst (nI 1) rfl rfl) ?_
  refine ev_s (is_aload_n rfl rfl) ?_
  refine ev_s (is_ifnonnull rfl) ?_
  refine ev_s (is_aload_n rfl rfl) ?_
  refine ev_s (is_iload rfl rfl) ?_
  refine ev_c1 (is_callR 2 [_] [_, _] rfl rfl rfl rfl rfl (Nat.le_of_ble_eq_true rfl) rfl rfl rfl (pu_M hC hq).1) rfl rfl (x_signIn hC (k := q) (h := h) hq (xm_row hb (im_u_row' (by omega)) (im_u_row' (by omega))) hh) ?_
  refine ev_s (is_iastore (1) rfl ((pu_R hC hr.1).2.1) rfl rfl (by decide)) ?_
  refine ev_s (is_aload_n rfl rfl) ?_
  refine ev_s (is_getR rfl (pu_R hC hr.1).1 rfl rfl (pu_R hC hr.1).2.2.2.1) ?_
  refine ev_s (is_iconst (nI 2) rfl rfl) ?_
  refine ev_s (is_iload rfl rfl) ?_
  refine ev_s (is_iastore (2) rfl ((pu_R hC hr.1).2.1) rfl rfl (by decide)) ?_
  refine ev_s (is_aload_n rfl rfl) ?_
  refine ev_s (is_getR rfl (pu_R hC hr.1).1 rfl rfl (pu_R hC hr.1).2.2.2.1) ?_
  refine ev_s (is_iconst (nI 3) rfl rfl) ?_
  refine ev_s (is_aload_n rfl rfl) ?_
  refine ev_s (is_getI' rfl (pu_M hC hk).1 rfl rfl ((im_u_k _ _ _ _ (by omega)).trans ((im_u_k _ _ _ _ (by omega)).trans ((im_u_k _ _ _ _ (by omega)).trans ha.2.2.1)))) ?_
  refine ev_s (is_iastore (3) rfl ((pu_R hC hr.1).2.1) rfl rfl (by decide)) ?_
  refine ev_s (is_aload_n rfl rfl) ?_
  refine ev_s (is_getR rfl (pu_R hC hr.1).1 rfl rfl (pu_R hC hr.1).2.2.2.1) ?_
  refine ev_s (is_iconst (nI 4) rfl rfl) ?_
  refine ev_s (is_aload_n rfl rfl) ?_
  refine ev_s (is_getI' rfl (pu_M hC hk).1 rfl rfl ((im_u_k _ _ _ _ (by omega)).trans ((im_u_k _ _ _ _ (by omega)).trans ((im_u_k _ _ _ _ (by omega)).trans ((im_u_k _ _ _ _ (by omega)).trans ha.2.1))))) ?_
  refine ev_s (is_iastore (4) rfl ((pu_R hC hr.1).2.1) rfl rfl (by decide)) ?_
  refine ev_s (is_aload_n rfl rfl) ?_
  refine ev_s (is_getR rfl (pu_R hC hr.1).1 rfl rfl (pu_R hC hr.1).2.2.2.1) ?_
  refine ev_s (is_iconst (nI 5) rfl rfl) ?_
  refine ev_s (is_aload_n rfl rfl) ?_
  refine ev_s (is_iload rfl rfl) ?_
  refine ev_c1 (is_callR 2 [_] [_, _] rfl rfl rfl rfl rfl (Nat.le_of_ble_eq_true rfl) rfl rfl rfl (pu_R hC hr.1).1) rfl rfl (x_isWatched hC hr.1 (w := w) (i := h) ((im_u_k _ _ _ _ (by omega)).trans ((im_u_k _ _ _ _ (by omega)).trans ((im_u_k _ _ _ _ (by omega)).trans ((im_u_k _ _ _ _ (by omega)).trans ((im_u_k _ _ _ _ (by omega)).trans hr.2.2.2.2.1))))) (by have := hr.2.2.2.2.2; omega) (by omega)) ?_
  have hwl : w / 2 ^ h % 2 < 2 := Nat.mod_lt _ (by decide)
  refine ev_selN1 (w / 2 ^ h % 2 = 1) (1) (0) (pcJ := 90) (fun hS kS => ?_) (fun hS kS => ?_) ?_
  · have hwl : w / 2 ^ h % 2 < 2 := Nat.mod_lt _ (by decide)
    refine ev_s (is_if_eq_f rfl (by rw [pu_b, if_pos hS]; decide)) ?_
    refine ev_s (is_iconst (nI 1) rfl rfl) ?_
    refine ev_s (is_goto rfl) ?_
    exact kS
  · have hwl : w / 2 ^ h % 2 < 2 := Nat.mod_lt _ (by decide)
    refine ev_s (is_if_eq_t rfl (by rw [pu_b, if_neg hS]; decide)) ?_
    refine ev_s (is_iconst (nI 0) rfl rfl) ?_
    exact kS
  rw [show (if w / 2 ^ h % 2 = 1 then 1 else 0) = w / 2 ^ h % 2 by split <;> omega]
  refine ev_s (is_iastore (5) rfl ((pu_R hC hr.1).2.1) rfl rfl (by decide)) ?_
  have hnm : ∀ c, c < 6 → im_u (im_u (im_u (im_u (im_u (im_u mi (R + 1) 0 (nI (a h))) (R + 1) 1 (nI (kd_signs (b 14) (b h)))) (R + 1) 2 (nI h)) (R + 1) 3 (nI (a 12))) (R + 1) 4 (nI (a 15))) (R + 1) 5 (nI (w / 2 ^ h % 2)) (R + 1) c = ho_nm (fun _ _ => 0) (a h) (kd_signs (b 14) (b h)) h (a 12) (a 15) (w / 2 ^ h % 2) c := by
    intro c hc
    rcases (show c = 0 ∨ c = 1 ∨ c = 2 ∨ c = 3 ∨ c = 4 ∨ c = 5 by omega) with rfl | rfl | rfl | rfl | rfl | rfl <;> simp [im_u, ho_nm]
  refine ev_s (is_iload_n rfl rfl) ?_
  refine ev_s (is_iconst (nI 2) rfl rfl) ?_
  refine ev_selN2 (p = 2) (100) (99) (pcJ := 103) (fun hS kS => ?_) (fun hS kS => ?_) ?_
  · refine ev_s (is_icmp_ne_f rfl (fun q => q (by rw [hS]))) ?_
    refine ev_s (is_bipush (nI 100) rfl rfl) ?_
    refine ev_s (is_goto rfl) ?_
    exact kS
  · refine ev_s (is_icmp_ne_t rfl (fun q => hS ((nI_eq (by omega) (by omega)).mp q))) ?_
    refine ev_s (is_bipush (nI 99) rfl rfl) ?_
    exact kS
  refine ev_s (st_istore_5 rfl rfl) ?_
  refine ev_s (is_iconst (nI 0) rfl rfl) ?_
  refine ev_s (is_iload rfl rfl) ?_
  refine ev_s (is_aload_n rfl rfl) ?_
  refine ev_s (is_getR rfl (pu_R hC hr.1).1 rfl rfl hr.2.1) ?_
  refine ev_s (is_iload_n rfl rfl) ?_
  refine ev_s (is_aload_n rfl rfl) ?_
  refine ev_s (is_getR rfl (pu_R hC hr.1).1 rfl rfl (pu_R hC hr.1).2.2.2.1) ?_
  refine ev_s (is_aload_n rfl rfl) ?_
  refine ev_s (is_getR rfl (pu_R hC hr.1).1 rfl rfl (pu_R hC hr.1).2.2.2.2) ?_
  refine ev_q1 (is_callR 4 [_, _, _] [_, _] rfl rfl rfl rfl rfl (Nat.le_of_ble_eq_true rfl) rfl rfl rfl (pu_T hC hr.2.2.1).1) rfl rfl (x_valueOf hC hr.2.2.1 (G := G) (xt_row (xt_row (xt_row (xt_row (xt_row (xt_row hr.2.2.2.1 (im_u_row' (by omega)) (im_u_row' (by omega))) (im_u_row' (by omega)) (im_u_row' (by omega))) (im_u_row' (by omega)) (im_u_row' (by omega))) (im_u_row' (by omega)) (im_u_row' (by omega))) (im_u_row' (by omega)) (im_u_row' (by omega))) (im_u_row' (by omega)) (im_u_row' (by omega))) (p := p) hp hr.1 (nm := ho_nm (fun _ _ => 0) (a h) (kd_signs (b 14) (b h)) h (a 12) (a 15) (w / 2 ^ h % 2)) hnm) (fun r_121 mi mr hq_121 => ?_)
  obtain ⟨rfl, hmr, hsc⟩ := hq_121
  have hmr := hmr.symm
  subst hmr
  refine ev_c1 (is_call0 2 [_, _] [_] rfl rfl rfl rfl rfl (Nat.le_of_ble_eq_true rfl) rfl rfl rfl) rfl rfl (x_min _ _) ?_
  refine ev_c1 (is_call0 2 [_, _] [] rfl rfl rfl rfl rfl (Nat.le_of_ble_eq_true rfl) rfl rfl rfl) rfl rfl (x_max _ _) ?_
  refine ev_ret (is_ireturn rfl rfl (by first | rfl | exact pu_b_nar | decide)) ?_
  refine ⟨rfl, ?_, rfl, ?_⟩
  · rw [pu_clamp _ _ (by split <;> decide)]; rfl
  · exact ((((((sc_rf.u (xS_1 R)).u (xS_1 R)).u (xS_1 R)).u (xS_1 R)).u (xS_1 R)).u (xS_1 R)).trans (fun k hk => hsc k (xS_2 hk))

theorem x_comp {d : Nat} {sh : im_Sh} {mi : im_MI} {mr : im_MR} (hC : pu_C sh mr) {R t w : Nat} {G : ho_G} (hr : xr_ok mi mr R G t w) {k q h : Nat} {a b : Nat → Nat} (hk : xm_M k) (ha : xm_ok mi k a) (hq : xm_M q) (hb : xm_ok mi q b) (hh : h < 12) : EvM (d + 3) 18 [.ref R, .ref k, .ref q, .int (nI h)] sh mi mr (fun r sh2 m2 r2 => sh2 = sh ∧ (r = .int (nI (md_comp G t w a b h)) ∧ r2 = mr ∧ sc_ (xS R) mi m2)) := by
  show Ev (d + 3) 18 0 [.ref R, .ref k, .ref q, .int (nI h)] [] sh mi mr _
  refine ev_s (is_aload_n rfl rfl) ?_
  refine ev_s (is_ifnull rfl) ?_
  refine ev_s (is_aload_n rfl rfl) ?_
  refine ev_s (is_ifnonnull rfl) ?_
  refine ev_s (is_aload_n rfl rfl) ?_
  refine ev_s (is_getI' rfl (pu_M hC hk).1 rfl rfl ha.1) ?_
  refine ev_s (is_aload_n rfl rfl) ?_
  refine ev_s (is_getI' rfl (pu_M hC hk).1 rfl rfl ha.2.1) ?_
  refine ev_s (is_aload_n rfl rfl) ?_
  refine ev_s (is_iconst (nI 0) rfl rfl) ?_
  refine ev_s (is_aload_n rfl rfl) ?_
  refine ev_s (is_aload_n rfl rfl) ?_
  refine ev_s (is_iload_n rfl rfl) ?_
  refine ev_q1 (is_callR 5 [_, _, _, _] [_, _] rfl rfl rfl rfl rfl (Nat.le_of_ble_eq_true rfl) rfl rfl rfl (pu_R hC hr.1).1) rfl rfl (x_says hC hr hk ha hq hb hh (p := 0) (by decide)) (fun r_23 mi mr hq_23 => ?_)
  obtain ⟨rfl, hmr, hsc⟩ := hq_23
  have hmr := hmr.symm
  subst hmr
  have hle := md_say_le (G t 0) (if 0 = 2 then 100 else 99) w a b h (by decide)
  refine ev_c1 (is_call0 3 [_, _, _] [] rfl rfl rfl rfl rfl (Nat.le_of_ble_eq_true rfl) rfl rfl rfl) rfl rfl (x_minds ha.2.2.2.2.2.1 ha.2.2.2.2.2.2.1 (Nat.le_trans hle (by decide))) ?_
  refine ev_ret (is_ireturn rfl rfl (by first | rfl | exact pu_b_nar | decide)) ?_
  exact ⟨rfl, rfl, rfl, hsc⟩

theorem x_compN {d : Nat} {sh : im_Sh} {mi : im_MI} {mr : im_MR} {R k h : Nat} : EvM (d) 18 [.ref R, .ref k, .null, .int (nI h)] sh mi mr (ev_R sh (.int (nI 0)) mi mr) := by
  show Ev (d) 18 0 [.ref R, .ref k, .null, .int (nI h)] [] sh mi mr _
  first
    | refine ev_s (is_aload_n rfl rfl) ?_
    | refine ev_s (is_aload_nN rfl rfl) ?_
  refine ev_s (is_ifnull rfl) ?_
  first
    | refine ev_s (is_aload_n rfl rfl) ?_
    | refine ev_s (is_aload_nN rfl rfl) ?_
  refine ev_s (is_ifnonnullN rfl) ?_
  refine ev_s (is_iconst (nI 0) rfl rfl) ?_
  refine ev_ret (is_ireturn rfl rfl (by first | rfl | exact pu_b_nar | decide)) ?_
  exact ⟨rfl, rfl, rfl, rfl⟩

theorem x_compN2 {d : Nat} {sh : im_Sh} {mi : im_MI} {mr : im_MR} {R h k : Nat} : EvM (d) 18 [.ref R, .null, .ref k, .int (nI h)] sh mi mr (ev_R sh (.int (nI 0)) mi mr) := by
  show Ev (d) 18 0 [.ref R, .null, .ref k, .int (nI h)] [] sh mi mr _
  first
    | refine ev_s (is_aload_n rfl rfl) ?_
    | refine ev_s (is_aload_nN rfl rfl) ?_
  refine ev_s (is_ifnullN rfl) ?_
  refine ev_s (is_iconst (nI 0) rfl rfl) ?_
  refine ev_ret (is_ireturn rfl rfl (by first | rfl | exact pu_b_nar | decide)) ?_
  exact ⟨rfl, rfl, rfl, rfl⟩

theorem x_compN3 {d : Nat} {sh : im_Sh} {mi : im_MI} {mr : im_MR} {R h : Nat} : EvM (d) 18 [.ref R, .null, .null, .int (nI h)] sh mi mr (ev_R sh (.int (nI 0)) mi mr) := by
  show Ev (d) 18 0 [.ref R, .null, .null, .int (nI h)] [] sh mi mr _
  first
    | refine ev_s (is_aload_n rfl rfl) ?_
    | refine ev_s (is_aload_nN rfl rfl) ?_
  refine ev_s (is_ifnullN rfl) ?_
  refine ev_s (is_iconst (nI 0) rfl rfl) ?_
  refine ev_ret (is_ireturn rfl rfl (by first | rfl | exact pu_b_nar | decide)) ?_
  exact ⟨rfl, rfl, rfl, rfl⟩

theorem x_days {d : Nat} {sh : im_Sh} {mi : im_MI} {mr : im_MR} (hC : pu_C sh mr) {R t w : Nat} {G : ho_G} (hr : xr_ok mi mr R G t w) {k q h : Nat} {a b : Nat → Nat} (hk : xm_M k) (ha : xm_ok mi k a) (hq : xm_M q) (hb : xm_ok mi q b) (hh : h < 12) : EvM (d + 4) 19 [.ref R, .ref k, .ref q, .int (nI h)] sh mi mr (fun r sh2 m2 r2 => sh2 = sh ∧ (r = .int (nI (md_days G t w a b h)) ∧ r2 = mr ∧ sc_ (xS R) mi m2)) := by
  show Ev (d + 4) 19 0 [.ref R, .ref k, .ref q, .int (nI h)] [] sh mi mr _
  refine ev_s (is_aload_n rfl rfl) ?_
  refine ev_s (is_iload_n rfl rfl) ?_
  refine ev_c1 (is_callR 2 [_] [] rfl rfl rfl rfl rfl (Nat.le_of_ble_eq_true rfl) rfl rfl rfl (pu_R hC hr.1).1) rfl rfl (x_isWatched hC hr.1 (w := w) (i := h) hr.2.2.2.2.1 (by have := hr.2.2.2.2.2; omega) (by omega)) ?_
  have hwl : w / 2 ^ h % 2 < 2 := Nat.mod_lt _ (by decide)
  by_cases hwb : w / 2 ^ h % 2 = 1
  · refine ev_s (is_if_eq_f rfl (by rw [pu_b, if_pos hwb]; decide)) ?_
    refine ev_s (is_aload_n rfl rfl) ?_
    refine ev_s (is_aload_n rfl rfl) ?_
    refine ev_s (is_aload_n rfl rfl) ?_
    refine ev_s (is_iload_n rfl rfl) ?_
    refine ev_q1 (is_callR 4 [_, _, _] [] rfl rfl rfl rfl rfl (Nat.le_of_ble_eq_true rfl) rfl rfl rfl (pu_R hC hr.1).1) rfl rfl (x_comp hC hr hk ha hq hb hh) (fun r_12 mi mr hq_12 => ?_)
    obtain ⟨rfl, hmr, hsc⟩ := hq_12
    have hmr := hmr.symm
    subst hmr
    have hcl : md_comp G t w a b h ≤ 109 := kd_minds_le _ _ _ ha.2.2.2.2.2.2.1 (Nat.le_trans (md_say_le _ _ _ _ _ _ (by decide)) (by decide))
    refine ev_ifN_ne rfl (by omega) (fun h_15 => ?_) (fun h_15 => ?_)
    · refine ev_s (is_aload_n rfl rfl) ?_
      refine ev_s (is_getI' rfl (pu_M hC hk).1 rfl rfl ((xm_sc hk ha hr.1 hsc).1)) ?_
      refine ev_s (is_aload_n rfl rfl) ?_
      refine ev_s (is_getI' rfl (pu_M hC hk).1 rfl rfl ((xm_sc hk ha hr.1 hsc).2.1)) ?_
      refine ev_s (is_aload_n rfl rfl) ?_
      refine ev_s (is_iconst (nI 1) rfl rfl) ?_
      refine ev_s (is_aload_n rfl rfl) ?_
      refine ev_s (is_aload_n rfl rfl) ?_
      refine ev_s (is_iload_n rfl rfl) ?_
      refine ev_q1 (is_callR 5 [_, _, _, _] [_, _] rfl rfl rfl rfl rfl (Nat.le_of_ble_eq_true rfl) rfl rfl rfl (pu_R hC hr.1).1) rfl rfl (x_says hC (xr_sc hr hr.1 hsc) hk (xm_sc hk ha hr.1 hsc) hq (xm_sc hq hb hr.1 hsc) hh (p := 1) (by decide)) (fun r_33 mi mr hq_33 => ?_)
      obtain ⟨rfl, hmr, hsc2⟩ := hq_33
      have hmr := hmr.symm
      subst hmr
      have hsc3 := hsc.trans hsc2
      have hle := md_say_le (G t 1) (if 1 = 2 then 100 else 99) w a b h (by decide)
      refine ev_c1 (is_call0 3 [_, _, _] [] rfl rfl rfl rfl rfl (Nat.le_of_ble_eq_true rfl) rfl rfl rfl) rfl rfl (x_serves ha.2.2.2.2.2.1 ha.2.2.2.2.2.2.1 (Nat.le_trans hle (by decide))) ?_
      refine ev_ret (is_ireturn rfl rfl (by first | rfl | exact pu_b_nar | decide)) ?_
      exact ⟨rfl, congrArg Value.int (congrArg nI (by unfold md_days; rw [if_neg (show ¬ (w / 2 ^ h % 2 = 0 ∨ md_comp G t w a b h = 0) by omega)]; rfl)), rfl, hsc3⟩
    · refine ev_s (is_iconst (nI 0) rfl rfl) ?_
      refine ev_ret (is_ireturn rfl rfl (by first | rfl | exact pu_b_nar | decide)) ?_
      first
        | exact ⟨rfl, congrArg Value.int (congrArg nI (by unfold md_days; rw [if_pos (Or.inl (by omega))])), rfl, sc_rf⟩
        | exact ⟨rfl, congrArg Value.int (congrArg nI (by unfold md_days; rw [if_pos (Or.inr h_15)])), rfl, hsc⟩
  · refine ev_s (is_if_eq_t rfl (by rw [pu_b, if_neg hwb]; rfl)) ?_
    refine ev_s (is_iconst (nI 0) rfl rfl) ?_
    refine ev_ret (is_ireturn rfl rfl (by first | rfl | exact pu_b_nar | decide)) ?_
    first
      | exact ⟨rfl, congrArg Value.int (congrArg nI (by unfold md_days; rw [if_pos (Or.inl (by omega))])), rfl, sc_rf⟩
      | exact ⟨rfl, congrArg Value.int (congrArg nI (by unfold md_days; rw [if_pos (Or.inr h_15)])), rfl, hsc⟩

theorem x_daysN {d : Nat} {sh : im_Sh} {mi : im_MI} {mr : im_MR} (hC : pu_C sh mr) {R t w : Nat} {G : ho_G} (hr : xr_ok mi mr R G t w) {h : Nat} (hh : h < 12) {k : Nat} : EvM (d + 4) 19 [.ref R, .ref k, .null, .int (nI h)] sh mi mr (ev_R sh (.int (nI 0)) mi mr) := by
  show Ev (d + 4) 19 0 [.ref R, .ref k, .null, .int (nI h)] [] sh mi mr _
  first
    | refine ev_s (is_aload_n rfl rfl) ?_
    | refine ev_s (is_aload_nN rfl rfl) ?_
  refine ev_s (is_iload_n rfl rfl) ?_
  refine ev_c1 (is_callR 2 [_] [] rfl rfl rfl rfl rfl (Nat.le_of_ble_eq_true rfl) rfl rfl rfl (pu_R hC hr.1).1) rfl rfl (x_isWatched hC hr.1 (w := w) (i := h) hr.2.2.2.2.1 (by have := hr.2.2.2.2.2; omega) (by omega)) ?_
  by_cases hwb : w / 2 ^ h % 2 = 1
  · refine ev_s (is_if_eq_f rfl (by rw [pu_b, if_pos hwb]; decide)) ?_
    first
      | refine ev_s (is_aload_n rfl rfl) ?_
      | refine ev_s (is_aload_nN rfl rfl) ?_
    first
      | refine ev_s (is_aload_n rfl rfl) ?_
      | refine ev_s (is_aload_nN rfl rfl) ?_
    first
      | refine ev_s (is_aload_n rfl rfl) ?_
      | refine ev_s (is_aload_nN rfl rfl) ?_
    refine ev_s (is_iload_n rfl rfl) ?_
    refine ev_c1 (is_callR 4 [_, _, _] [] rfl rfl rfl rfl rfl (Nat.le_of_ble_eq_true rfl) rfl rfl rfl (pu_R hC hr.1).1) rfl rfl (x_compN) ?_
    refine ev_s (is_if_ne_f rfl (fun q => q rfl)) ?_
    refine ev_s (is_iconst (nI 0) rfl rfl) ?_
    refine ev_ret (is_ireturn rfl rfl (by first | rfl | exact pu_b_nar | decide)) ?_
    exact ⟨rfl, rfl, rfl, rfl⟩
  · refine ev_s (is_if_eq_t rfl (by rw [pu_b, if_neg hwb]; rfl)) ?_
    refine ev_s (is_iconst (nI 0) rfl rfl) ?_
    refine ev_ret (is_ireturn rfl rfl (by first | rfl | exact pu_b_nar | decide)) ?_
    exact ⟨rfl, rfl, rfl, rfl⟩

theorem x_daysN2 {d : Nat} {sh : im_Sh} {mi : im_MI} {mr : im_MR} (hC : pu_C sh mr) {R t w : Nat} {G : ho_G} (hr : xr_ok mi mr R G t w) {h : Nat} (hh : h < 12) {k : Nat} : EvM (d + 4) 19 [.ref R, .null, .ref k, .int (nI h)] sh mi mr (ev_R sh (.int (nI 0)) mi mr) := by
  show Ev (d + 4) 19 0 [.ref R, .null, .ref k, .int (nI h)] [] sh mi mr _
  first
    | refine ev_s (is_aload_n rfl rfl) ?_
    | refine ev_s (is_aload_nN rfl rfl) ?_
  refine ev_s (is_iload_n rfl rfl) ?_
  refine ev_c1 (is_callR 2 [_] [] rfl rfl rfl rfl rfl (Nat.le_of_ble_eq_true rfl) rfl rfl rfl (pu_R hC hr.1).1) rfl rfl (x_isWatched hC hr.1 (w := w) (i := h) hr.2.2.2.2.1 (by have := hr.2.2.2.2.2; omega) (by omega)) ?_
  by_cases hwb : w / 2 ^ h % 2 = 1
  · refine ev_s (is_if_eq_f rfl (by rw [pu_b, if_pos hwb]; decide)) ?_
    first
      | refine ev_s (is_aload_n rfl rfl) ?_
      | refine ev_s (is_aload_nN rfl rfl) ?_
    first
      | refine ev_s (is_aload_n rfl rfl) ?_
      | refine ev_s (is_aload_nN rfl rfl) ?_
    first
      | refine ev_s (is_aload_n rfl rfl) ?_
      | refine ev_s (is_aload_nN rfl rfl) ?_
    refine ev_s (is_iload_n rfl rfl) ?_
    refine ev_c1 (is_callR 4 [_, _, _] [] rfl rfl rfl rfl rfl (Nat.le_of_ble_eq_true rfl) rfl rfl rfl (pu_R hC hr.1).1) rfl rfl (x_compN2) ?_
    refine ev_s (is_if_ne_f rfl (fun q => q rfl)) ?_
    refine ev_s (is_iconst (nI 0) rfl rfl) ?_
    refine ev_ret (is_ireturn rfl rfl (by first | rfl | exact pu_b_nar | decide)) ?_
    exact ⟨rfl, rfl, rfl, rfl⟩
  · refine ev_s (is_if_eq_t rfl (by rw [pu_b, if_neg hwb]; rfl)) ?_
    refine ev_s (is_iconst (nI 0) rfl rfl) ?_
    refine ev_ret (is_ireturn rfl rfl (by first | rfl | exact pu_b_nar | decide)) ?_
    exact ⟨rfl, rfl, rfl, rfl⟩

theorem x_daysN3 {d : Nat} {sh : im_Sh} {mi : im_MI} {mr : im_MR} (hC : pu_C sh mr) {R t w : Nat} {G : ho_G} (hr : xr_ok mi mr R G t w) {h : Nat} (hh : h < 12) : EvM (d + 4) 19 [.ref R, .null, .null, .int (nI h)] sh mi mr (ev_R sh (.int (nI 0)) mi mr) := by
  show Ev (d + 4) 19 0 [.ref R, .null, .null, .int (nI h)] [] sh mi mr _
  first
    | refine ev_s (is_aload_n rfl rfl) ?_
    | refine ev_s (is_aload_nN rfl rfl) ?_
  refine ev_s (is_iload_n rfl rfl) ?_
  refine ev_c1 (is_callR 2 [_] [] rfl rfl rfl rfl rfl (Nat.le_of_ble_eq_true rfl) rfl rfl rfl (pu_R hC hr.1).1) rfl rfl (x_isWatched hC hr.1 (w := w) (i := h) hr.2.2.2.2.1 (by have := hr.2.2.2.2.2; omega) (by omega)) ?_
  by_cases hwb : w / 2 ^ h % 2 = 1
  · refine ev_s (is_if_eq_f rfl (by rw [pu_b, if_pos hwb]; decide)) ?_
    first
      | refine ev_s (is_aload_n rfl rfl) ?_
      | refine ev_s (is_aload_nN rfl rfl) ?_
    first
      | refine ev_s (is_aload_n rfl rfl) ?_
      | refine ev_s (is_aload_nN rfl rfl) ?_
    first
      | refine ev_s (is_aload_n rfl rfl) ?_
      | refine ev_s (is_aload_nN rfl rfl) ?_
    refine ev_s (is_iload_n rfl rfl) ?_
    refine ev_c1 (is_callR 4 [_, _, _] [] rfl rfl rfl rfl rfl (Nat.le_of_ble_eq_true rfl) rfl rfl rfl (pu_R hC hr.1).1) rfl rfl (x_compN3) ?_
    refine ev_s (is_if_ne_f rfl (fun q => q rfl)) ?_
    refine ev_s (is_iconst (nI 0) rfl rfl) ?_
    refine ev_ret (is_ireturn rfl rfl (by first | rfl | exact pu_b_nar | decide)) ?_
    exact ⟨rfl, rfl, rfl, rfl⟩
  · refine ev_s (is_if_eq_t rfl (by rw [pu_b, if_neg hwb]; rfl)) ?_
    refine ev_s (is_iconst (nI 0) rfl rfl) ?_
    refine ev_ret (is_ireturn rfl rfl (by first | rfl | exact pu_b_nar | decide)) ?_
    exact ⟨rfl, rfl, rfl, rfl⟩

theorem x_day {d : Nat} {sh : im_Sh} {mi : im_MI} {mr : im_MR} (hC : pu_C sh mr) {R t w : Nat} {G : ho_G} (hr : xr_ok mi mr R G t w) {k q : Nat} {a b : Nat → Nat} (hk : xm_M k) (ha : xm_ok mi k a) (hq : xm_M q) (hb : xm_ok mi q b) : EvM (d + 5) 21 [.ref R, .ref k, .ref q] sh mi mr (fun r sh2 m2 r2 => sh2 = sh ∧ (r = .int (nI (md_day G t w a b)) ∧ r2 = mr ∧ sc_ (xS R) mi m2)) := by
  show Ev (d + 5) 21 0 [.ref R, .ref k, .ref q, im_bad, im_bad] [] sh mi mr _
  have loop : ∀ (j i : Nat) (mi2 : im_MI), i + j = 12 → sc_ (xS R) mi mi2 → Ev (d + 5) 21 5 [.ref R, .ref k, .ref q, .int (nI (lo_sum (fun h => md_days G t w a b h) i)), .int (nI i)] [] sh mi2 mr (fun r sh2 m2 r2 => sh2 = sh ∧ (r = .int (nI (md_day G t w a b)) ∧ r2 = mr ∧ sc_ (xS R) mi m2)) := by
    intro j
    induction j with
    | zero =>
      intro i mi2 hi hsc
      refine ev_s (is_iload rfl rfl) ?_
      refine ev_s (is_bipush (nI 12) rfl rfl) ?_
      refine ev_s (is_icmp_ge_t rfl (nI_le (by omega) (by omega))) ?_
      refine ev_s (is_iload_n rfl rfl) ?_
      refine ev_ret (is_ireturn rfl rfl (by first | rfl | exact pu_b_nar | decide)) ?_
      exact ⟨rfl, by rw [show i = 12 by omega]; rfl, rfl, hsc⟩
    | succ j ih =>
      intro i mi2 hi hsc
      refine ev_s (is_iload rfl rfl) ?_
      refine ev_s (is_bipush (nI 12) rfl rfl) ?_
      refine ev_s (is_icmp_ge_f rfl (nI_ge (by omega) (by omega))) ?_
      refine ev_s (is_iload_n rfl rfl) ?_
      refine ev_s (is_aload_n rfl rfl) ?_
      refine ev_s (is_aload_n rfl rfl) ?_
      refine ev_s (is_aload_n rfl rfl) ?_
      refine ev_s (is_iload rfl rfl) ?_
      refine ev_q1 (is_callR 4 [_, _, _] [_] rfl rfl rfl rfl rfl (Nat.le_of_ble_eq_true rfl) rfl rfl rfl (pu_R hC hr.1).1) rfl rfl (x_days hC (xr_sc hr hr.1 hsc) hk (xm_sc hk ha hr.1 hsc) hq (xm_sc hq hb hr.1 hsc) (h := i) (by omega)) (fun r_18 mi mr hq_18 => ?_)
      obtain ⟨rfl, hmr, hsc2⟩ := hq_18
      have hmr := hmr.symm
      subst hmr
      first
        | refine ev_s (is_iadd _ rfl (nI_add _ _)) ?_
        | refine ev_s (is_iadd _ rfl rfl) ?_
      refine ev_s (st_istore_n_3 rfl rfl) ?_
      refine ev_s (st_iinc_4 _ rfl rfl (nI_inc _)) ?_
      refine ev_s (is_goto rfl) ?_
      exact ih (i + 1) mi (by omega) (hsc.trans hsc2)
  refine ev_s (is_iconst (nI 0) rfl rfl) ?_
  refine ev_s (st_istore_n_3 rfl rfl) ?_
  refine ev_s (is_iconst (nI 0) rfl rfl) ?_
  refine ev_s (st_istore_4 rfl rfl) ?_
  exact loop 12 0 mi (by omega) sc_rf

theorem x_dayN {d : Nat} {sh : im_Sh} {mi : im_MI} {mr : im_MR} (hC : pu_C sh mr) {R t w : Nat} {G : ho_G} (hr : xr_ok mi mr R G t w) {k : Nat} : EvM (d + 5) 21 [.ref R, .ref k, .null] sh mi mr (ev_R sh (.int (nI 0)) mi mr) := by
  show Ev (d + 5) 21 0 [.ref R, .ref k, .null, im_bad, im_bad] [] sh mi mr _
  have loop : ∀ (j i : Nat), i + j = 12 → Ev (d + 5) 21 5 [.ref R, .ref k, .null, .int (nI 0), .int (nI i)] [] sh mi mr (ev_R sh (.int (nI 0)) mi mr) := by
    intro j
    induction j with
    | zero =>
      intro i hi
      refine ev_s (is_iload rfl rfl) ?_
      refine ev_s (is_bipush (nI 12) rfl rfl) ?_
      refine ev_s (is_icmp_ge_t rfl (nI_le (by omega) (by omega))) ?_
      refine ev_s (is_iload_n rfl rfl) ?_
      refine ev_ret (is_ireturn rfl rfl (by first | rfl | exact pu_b_nar | decide)) ?_
      exact ⟨rfl, rfl, rfl, rfl⟩
    | succ j ih =>
      intro i hi
      refine ev_s (is_iload rfl rfl) ?_
      refine ev_s (is_bipush (nI 12) rfl rfl) ?_
      refine ev_s (is_icmp_ge_f rfl (nI_ge (by omega) (by omega))) ?_
      refine ev_s (is_iload_n rfl rfl) ?_
      first
        | refine ev_s (is_aload_n rfl rfl) ?_
        | refine ev_s (is_aload_nN rfl rfl) ?_
      first
        | refine ev_s (is_aload_n rfl rfl) ?_
        | refine ev_s (is_aload_nN rfl rfl) ?_
      first
        | refine ev_s (is_aload_n rfl rfl) ?_
        | refine ev_s (is_aload_nN rfl rfl) ?_
      refine ev_s (is_iload rfl rfl) ?_
      refine ev_c1 (is_callR 4 [_, _, _] [_] rfl rfl rfl rfl rfl (Nat.le_of_ble_eq_true rfl) rfl rfl rfl (pu_R hC hr.1).1) rfl rfl (x_daysN hC hr (h := i) (by omega)) ?_
      first
        | refine ev_s (is_iadd _ rfl (nI_add _ _)) ?_
        | refine ev_s (is_iadd _ rfl rfl) ?_
      refine ev_s (st_istore_n_3 rfl rfl) ?_
      refine ev_s (st_iinc_4 _ rfl rfl (nI_inc _)) ?_
      refine ev_s (is_goto rfl) ?_
      exact ih (i + 1) (by omega)
  refine ev_s (is_iconst (nI 0) rfl rfl) ?_
  refine ev_s (st_istore_n_3 rfl rfl) ?_
  refine ev_s (is_iconst (nI 0) rfl rfl) ?_
  refine ev_s (st_istore_4 rfl rfl) ?_
  exact loop 12 0 (by omega)
