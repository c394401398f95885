/-! ===== PURE, the class: its calls, first half ===== -/

theorem x_within' {d : Nat} {sh : im_Sh} {mi : im_MI} {mr : im_MR} (v lo hi : Int32) : EvM (d) 103 [.int v, .int lo, .int hi] sh mi mr (ev_R sh (.int (pu_b (ho_rng lo v hi = true))) mi mr) := by
  rw [pu_b_c (q := lo ≤ v ∧ v ≤ hi) (by unfold ho_rng; exact decide_eq_true_iff)]
  exact x_within v lo hi
theorem x_noMan' {d : Nat} {sh : im_Sh} {mi : im_MI} {mr : im_MR} (hC : pu_C sh mr) {H : ho_T} {G : ho_G} (hx : xa_ok H G mi mr) (m : Int32) : EvM (d + 1) 108 [.ref 29, .int m] sh mi mr (ev_R sh (.int (pu_b (¬ ho_isM H m = true))) mi mr) := by
  rw [pu_b_c (q := ¬ (nI 0 ≤ m ∧ m ≤ nI (H 0 0) - nI 1)) (by unfold ho_isM ho_rng; rw [decide_eq_true_iff])]
  exact x_noMan hC hx m
theorem pu_hour (h : Int32) : (h < 0 ∨ nI 12 ≤ h) ↔ ¬ ho_rng (nI 0) h (nI 11) = true := by
  unfold ho_rng
  rw [decide_eq_true_iff]
  simp only [Int32.le_iff_toInt_le, Int32.lt_iff_toInt_lt]
  rw [nI_toInt (n := 12) (by decide), nI_toInt (n := 0) (by decide), nI_toInt (n := 11) (by decide), show (0 : Int32).toInt = 0 by decide]
  omega
theorem x_noHour' {d : Nat} {sh : im_Sh} {mi : im_MI} {mr : im_MR} (h : Int32) : EvM (d) 106 [.int h] sh mi mr (ev_R sh (.int (pu_b (¬ ho_rng (nI 0) h (nI 11) = true))) mi mr) := by
  rw [← pu_b_c (pu_hour h)]
  exact x_noHour h

theorem x_isByte {d : Nat} {sh : im_Sh} {mi : im_MI} {mr : im_MR} (v : Int32) : EvM (d + 1) 104 [.int v] sh mi mr (ev_R sh (.int (pu_b (ho_rng (nI 0) v (nI 255) = true))) mi mr) := by
  show Ev (d + 1) 104 0 [.int v] [] sh mi mr _
  refine ev_s (is_iload_n rfl rfl) ?_
  refine ev_s (is_iconst (nI 0) rfl rfl) ?_
  refine ev_s (is_sipush (nI 255) rfl rfl) ?_
  refine ev_c1 (is_call0 3 [_, _, _] [] rfl rfl rfl rfl rfl (Nat.le_of_ble_eq_true rfl) rfl rfl rfl) rfl rfl (x_within' _ _ _) ?_
  refine ev_ret (is_ireturn rfl rfl (by first | rfl | exact pu_b_nar | decide)) ?_
  exact ⟨rfl, rfl, rfl, rfl⟩

theorem x_noSheet {d : Nat} {sh : im_Sh} {mi : im_MI} {mr : im_MR} (v : Int32) : EvM (d + 1) 107 [.int v] sh mi mr (ev_R sh (.int (pu_b (¬ ho_rng (nI 0) v (nI 3) = true))) mi mr) := by
  show Ev (d + 1) 107 0 [.int v] [] sh mi mr _
  refine ev_s (is_iload_n rfl rfl) ?_
  refine ev_s (is_iconst (nI 0) rfl rfl) ?_
  refine ev_s (is_iconst (nI 3) rfl rfl) ?_
  refine ev_c1 (is_call0 3 [_, _, _] [] rfl rfl rfl rfl rfl (Nat.le_of_ble_eq_true rfl) rfl rfl rfl) rfl rfl (x_within' _ _ _) ?_
  refine ev_ifB_ne rfl (fun h_6 => ?_) (fun h_6 => ?_)
  · refine ev_s (is_iconst (nI 0) rfl rfl) ?_
    refine ev_ret (is_ireturn rfl rfl (by first | rfl | exact pu_b_nar | decide)) ?_
    first
      | exact ⟨pu_b_f (fun q => q h_6), rfl, rfl, rfl⟩
      | exact ⟨pu_b_t h_6, rfl, rfl, rfl⟩
  · refine ev_s (is_iconst (nI 1) rfl rfl) ?_
    refine ev_s (is_goto rfl) ?_
    refine ev_ret (is_ireturn rfl rfl (by first | rfl | exact pu_b_nar | decide)) ?_
    first
      | exact ⟨pu_b_f (fun q => q h_6), rfl, rfl, rfl⟩
      | exact ⟨pu_b_t h_6, rfl, rfl, rfl⟩

def md_sayO (g : List Nat) (hi w : Nat) (a : Nat → Nat) (o : Option Nat) (b : Nat → Nat) (h : Nat) : Nat := ho_say g hi (a h) (match o with
  | none => 0
  | some _ => kd_signs (b 14) (b h)) h (a 12) (a 15) (w / 2 ^ h % 2)
theorem ho_asks_md (H : ho_T) (G : ho_G) (p m h : Nat) (hh : h < 12) : ho_asks H G p m h = md_sayO (G (H 0 3) p) (if p = 2 then 100 else 99) (H 0 1) (ho_row H m) (ho_mcell H m) (ho_mrow H m) h := by
  have h1 : h ≠ 14 := by omega
  have h2 : h ≠ 15 := by omega
  unfold md_sayO ho_mcell ho_asks ho_sign ho_mrow
  cases ho_mate H m with
  | none => simp [ho_row, ho_w, h1, h2]
  | some o => simp [ho_row, ho_w, h1, h2]

theorem x_saysN {d : Nat} {sh : im_Sh} {mi : im_MI} {mr : im_MR} (hC : pu_C sh mr) {R t w : Nat} {G : ho_G} (hr : xr_ok mi mr R G t w) {k h : Nat} {a : Nat → Nat} (hk : xm_M k) (ha : xm_ok mi k a) (hh : h < 12) {p : Nat} (hp : p < 3) : EvM (d + 2) 17 [.ref R, .int (nI p), .ref k, .null, .int (nI h)] sh mi mr (fun r sh2 m2 r2 => sh2 = sh ∧ (r = .int (nI (ho_say (G t p) (if p = 2 then 100 else 99) (a h) 0 h (a 12) (a 15) (w / 2 ^ h % 2))) ∧ r2 = mr ∧ sc_ (xS R) mi m2)) := by
  show Ev (d + 2) 17 0 [.ref R, .int (nI p), .ref k, .null, .int (nI h), im_bad] [] sh mi mr _
  have ht6 := hr.2.2.1
  have hRb : 104 ≤ R ∧ R ≤ 107 := by rcases hr.1 with rfl | rfl <;> omega
  have hkb := xm_M_ne hk
  have hkb2 := hkb
  refine ev_s (is_iload rfl rfl) ?_
  refine ev_c1 (is_call0 1 [_] [] rfl rfl rfl rfl rfl (Nat.le_of_ble_eq_true rfl) rfl rfl rfl) rfl rfl (x_noHour _) ?_
  rw [pu_noHour hh]
  refine ev_s (is_if_eq_t rfl rfl) ?_
  first
    | refine ev_s (is_aload_n rfl rfl) ?_
    | refine ev_s (is_aload_nN rfl rfl) ?_
  refine ev_s (is_getR rfl (pu_R hC hr.1).1 rfl rfl (pu_R hC hr.1).2.2.2.1) ?_
  refine ev_s (is_iconst (nI 0) rfl rfl) ?_
  first
    | refine ev_s (is_aload_n rfl rfl) ?_
    | refine ev_s (is_aload_nN rfl rfl) ?_
  refine ev_s (is_getR rfl (pu_M hC hk).1 rfl rfl (pu_M hC hk).2.2) ?_
  refine ev_s (is_iload rfl rfl) ?_
  refine ev_s (is_iaload' (h) rfl ((pu_M hC hk).2.1) rfl rfl hh (ha.2.2.2.2.1 h hh)) ?_
  refine ev_s (is_iastore (0) rfl ((pu_R hC hr.1).2.1) rfl rfl (by decide)) ?_
  first
    | refine ev_s (is_aload_n rfl rfl) ?_
    | refine ev_s (is_aload_nN rfl rfl) ?_
  refine ev_s (is_getR rfl (pu_R hC hr.1).1 rfl rfl (pu_R hC hr.1).2.2.2.1) ?_
  refine ev_s (is_iconst (nI 1) rfl rfl) ?_
  first
    | refine ev_s (is_aload_n rfl rfl) ?_
    | refine ev_s (is_aload_nN rfl rfl) ?_
  refine ev_s (is_ifnonnullN rfl) ?_
  refine ev_s (is_iconst (nI 0) rfl rfl) ?_
  refine ev_s (is_goto rfl) ?_
  refine ev_s (is_iastore (1) rfl ((pu_R hC hr.1).2.1) rfl rfl (by decide)) ?_
  first
    | refine ev_s (is_aload_n rfl rfl) ?_
    | refine ev_s (is_aload_nN rfl rfl) ?_
  refine ev_s (is_getR rfl (pu_R hC hr.1).1 rfl rfl (pu_R hC hr.1).2.2.2.1) ?_
  refine ev_s (is_iconst (nI 2) rfl rfl) ?_
  refine ev_s (is_iload rfl rfl) ?_
  refine ev_s (is_iastore (2) rfl ((pu_R hC hr.1).2.1) rfl rfl (by decide)) ?_
  first
    | refine ev_s (is_aload_n rfl rfl) ?_
    | refine ev_s (is_aload_nN rfl rfl) ?_
  refine ev_s (is_getR rfl (pu_R hC hr.1).1 rfl rfl (pu_R hC hr.1).2.2.2.1) ?_
  refine ev_s (is_iconst (nI 3) rfl rfl) ?_
  first
    | refine ev_s (is_aload_n rfl rfl) ?_
    | refine ev_s (is_aload_nN rfl rfl) ?_
  refine ev_s (is_getI' rfl (pu_M hC hk).1 rfl rfl ((im_u_k _ _ _ _ (by omega)).trans ((im_u_k _ _ _ _ (by omega)).trans ((im_u_k _ _ _ _ (by omega)).trans ha.2.2.1)))) ?_
  refine ev_s (is_iastore (3) rfl ((pu_R hC hr.1).2.1) rfl rfl (by decide)) ?_
  first
    | refine ev_s (is_aload_n rfl rfl) ?_
    | refine ev_s (is_aload_nN rfl rfl) ?_
  refine ev_s (is_getR rfl (pu_R hC hr.1).1 rfl rfl (pu_R hC hr.1).2.2.2.1) ?_
  refine ev_s (is_iconst (nI 4) rfl rfl) ?_
  first
    | refine ev_s (is_aload_n rfl rfl) ?_
    | refine ev_s (is_aload_nN rfl rfl) ?_
  refine ev_s (is_getI' rfl (pu_M hC hk).1 rfl rfl ((im_u_k _ _ _ _ (by omega)).trans ((im_u_k _ _ _ _ (by omega)).trans ((im_u_k _ _ _ _ (by omega)).trans ((im_u_k _ _ _ _ (by omega)).trans ha.2.1))))) ?_
  refine ev_s (is_iastore (4) rfl ((pu_R hC hr.1).2.1) rfl rfl (by decide)) ?_
  first
    | refine ev_s (is_aload_n rfl rfl) ?_
    | refine ev_s (is_aload_nN rfl rfl) ?_
  refine ev_s (is_getR rfl (pu_R hC hr.1).1 rfl rfl (pu_R hC hr.1).2.2.2.1) ?_
  refine ev_s (is_iconst (nI 5) rfl rfl) ?_
  first
    | refine ev_s (is_aload_n rfl rfl) ?_
    | refine ev_s (is_aload_nN rfl rfl) ?_
  refine ev_s (is_iload rfl rfl) ?_
  refine ev_c1 (is_callR 2 [_] [_, _] rfl rfl rfl rfl rfl (Nat.le_of_ble_eq_true rfl) rfl rfl rfl (pu_R hC hr.1).1) rfl rfl (x_isWatched hC hr.1 (w := w) (i := h) ((im_u_k _ _ _ _ (by omega)).trans ((im_u_k _ _ _ _ (by omega)).trans ((im_u_k _ _ _ _ (by omega)).trans ((im_u_k _ _ _ _ (by omega)).trans ((im_u_k _ _ _ _ (by omega)).trans hr.2.2.2.2.1))))) (by have := hr.2.2.2.2.2; omega) (by omega)) ?_
  have hwl : w / 2 ^ h % 2 < 2 := Nat.mod_lt _ (by decide)
  refine ev_selN1 (w / 2 ^ h % 2 = 1) (1) (0) (pcJ := 90) (fun hS kS => ?_) (fun hS kS => ?_) ?_
  · have hwl : w / 2 ^ h % 2 < 2 := Nat.mod_lt _ (by decide)
    refine ev_s (is_if_eq_f rfl (by rw [pu_b, if_pos hS]; decide)) ?_
    refine ev_s (is_iconst (nI 1) rfl rfl) ?_
    refine ev_s (is_goto rfl) ?_
    exact kS
  · have hwl : w / 2 ^ h % 2 < 2 := Nat.mod_lt _ (by decide)
    refine ev_s (is_if_eq_t rfl (by rw [pu_b, if_neg hS]; decide)) ?_
    refine ev_s (is_iconst (nI 0) rfl rfl) ?_
    exact kS
  rw [show (if w / 2 ^ h % 2 = 1 then 1 else 0) = w / 2 ^ h % 2 by split <;> omega]
  refine ev_s (is_iastore (5) rfl ((pu_R hC hr.1).2.1) rfl rfl (by decide)) ?_
  have hnm : ∀ c, c < 6 → im_u (im_u (im_u (im_u (im_u (im_u mi (R + 1) 0 (nI (a h))) (R + 1) 1 (nI 0)) (R + 1) 2 (nI h)) (R + 1) 3 (nI (a 12))) (R + 1) 4 (nI (a 15))) (R + 1) 5 (nI (w / 2 ^ h % 2)) (R + 1) c = ho_nm (fun _ _ => 0) (a h) 0 h (a 12) (a 15) (w / 2 ^ h % 2) c := by
    intro c hc
    rcases (show c = 0 ∨ c = 1 ∨ c = 2 ∨ c = 3 ∨ c = 4 ∨ c = 5 by omega) with rfl | rfl | rfl | rfl | rfl | rfl <;> simp [im_u, ho_nm]
  refine ev_s (is_iload_n rfl rfl) ?_
  refine ev_s (is_iconst (nI 2) rfl rfl) ?_
  refine ev_selN2 (p = 2) (100) (99) (pcJ := 103) (fun hS kS => ?_) (fun hS kS => ?_) ?_
  · refine ev_s (is_icmp_ne_f rfl (fun q => q (by rw [hS]))) ?_
    refine ev_s (is_bipush (nI 100) rfl rfl) ?_
    refine ev_s (is_goto rfl) ?_
    exact kS
  · refine ev_s (is_icmp_ne_t rfl (fun q => hS ((nI_eq (by omega) (by omega)).mp q))) ?_
    refine ev_s (is_bipush (nI 99) rfl rfl) ?_
    exact kS
  refine ev_s (st_istore_5 rfl rfl) ?_
  refine ev_s (is_iconst (nI 0) rfl rfl) ?_
  refine ev_s (is_iload rfl rfl) ?_
  first
    | refine ev_s (is_aload_n rfl rfl) ?_
    | refine ev_s (is_aload_nN rfl rfl) ?_
  refine ev_s (is_getR rfl (pu_R hC hr.1).1 rfl rfl hr.2.1) ?_
  refine ev_s (is_iload_n rfl rfl) ?_
  first
    | refine ev_s (is_aload_n rfl rfl) ?_
    | refine ev_s (is_aload_nN rfl rfl) ?_
  refine ev_s (is_getR rfl (pu_R hC hr.1).1 rfl rfl (pu_R hC hr.1).2.2.2.1) ?_
  first
    | refine ev_s (is_aload_n rfl rfl) ?_
    | refine ev_s (is_aload_nN rfl rfl) ?_
  refine ev_s (is_getR rfl (pu_R hC hr.1).1 rfl rfl (pu_R hC hr.1).2.2.2.2) ?_
  refine ev_q1 (is_callR 4 [_, _, _] [_, _] rfl rfl rfl rfl rfl (Nat.le_of_ble_eq_true rfl) rfl rfl rfl (pu_T hC hr.2.2.1).1) rfl rfl (x_valueOf hC hr.2.2.1 (G := G) (xt_row (xt_row (xt_row (xt_row (xt_row (xt_row hr.2.2.2.1 (im_u_row' (by omega)) (im_u_row' (by omega))) (im_u_row' (by omega)) (im_u_row' (by omega))) (im_u_row' (by omega)) (im_u_row' (by omega))) (im_u_row' (by omega)) (im_u_row' (by omega))) (im_u_row' (by omega)) (im_u_row' (by omega))) (im_u_row' (by omega)) (im_u_row' (by omega))) (p := p) hp hr.1 (nm := ho_nm (fun _ _ => 0) (a h) 0 h (a 12) (a 15) (w / 2 ^ h % 2)) hnm) (fun r_121 mi mr hq_121 => ?_)
  obtain ⟨rfl, hmr, hsc⟩ := hq_121
  have hmr := hmr.symm
  subst hmr
  refine ev_c1 (is_call0 2 [_, _] [_] rfl rfl rfl rfl rfl (Nat.le_of_ble_eq_true rfl) rfl rfl rfl) rfl rfl (x_min _ _) ?_
  refine ev_c1 (is_call0 2 [_, _] [] rfl rfl rfl rfl rfl (Nat.le_of_ble_eq_true rfl) rfl rfl rfl) rfl rfl (x_max _ _) ?_
  refine ev_ret (is_ireturn rfl rfl (by first | rfl | exact pu_b_nar | decide)) ?_
  refine ⟨rfl, ?_, rfl, ?_⟩
  · rw [pu_clamp _ _ (by split <;> decide)]; rfl
  · exact ((((((sc_rf.u (xS_1 R)).u (xS_1 R)).u (xS_1 R)).u (xS_1 R)).u (xS_1 R)).u (xS_1 R)).trans (fun k hk => hsc k (xS_2 hk))

theorem x_saysO {d : Nat} {sh : im_Sh} {mi : im_MI} {mr : im_MR} (hC : pu_C sh mr) {R t w : Nat} {G : ho_G} (hr : xr_ok mi mr R G t w) {k h : Nat} {a b : Nat → Nat} (hk : xm_M k) (ha : xm_ok mi k a) {o : Option Nat} (ho : xo_ok mi o b) (hh : h < 12) {p : Nat} (hp : p < 3) : EvM (d + 2) 17 [.ref R, .int (nI p), .ref k, xoc o, .int (nI h)] sh mi mr (fun r sh2 m2 r2 => sh2 = sh ∧ (r = .int (nI (md_sayO (G t p) (if p = 2 then 100 else 99) w a o b h)) ∧ r2 = mr ∧ sc_ (xS R) mi m2)) := by
  cases o with
  | none => exact x_saysN hC hr hk ha hh hp
  | some q => exact x_says hC hr hk ha (ho q rfl).1 (ho q rfl).2 hh hp

theorem x_count {d : Nat} {sh : im_Sh} {mi : im_MI} {mr : im_MR} (hC : pu_C sh mr) {H K : ho_T} {G : ho_G} (hx : xa_ok H G mi mr) (hz : xh_ok H K mi) (v : Int32) : EvM (d) 65 [.ref 29, .int v] sh mi mr (ev_R sh (.int (an_count H v)) mi mr) := by
  show Ev (d) 65 0 [.ref 29, .int v] [] sh mi mr _
  refine ev_s (is_iload_n rfl rfl) ?_
  by_cases s_0 : v = nI 0
  · subst s_0
    refine ev_s (is_tsw 36 rfl (by decide)) ?_
    refine ev_s (is_aload_n rfl rfl) ?_
    refine ev_s (is_getI' rfl (pu_s hC 29 rfl rfl) rfl rfl hx.1) ?_
    refine ev_ret (is_ireturn rfl rfl (by first | rfl | exact pu_b_nar | decide)) ?_
    refine ⟨?_, rfl, rfl, rfl⟩
    simp [an_count]
  by_cases s_1 : v = nI 1
  · subst s_1
    refine ev_s (is_tsw 41 rfl (by decide)) ?_
    refine ev_s (is_aload_n rfl rfl) ?_
    refine ev_s (is_getR rfl (pu_s hC 29 rfl rfl) rfl rfl (pu_r hC 29 3 rfl rfl)) ?_
    refine ev_s (is_getI' rfl (pu_s hC 104 rfl rfl) rfl rfl hx.2.2.2.1) ?_
    refine ev_ret (is_ireturn rfl rfl (by first | rfl | exact pu_b_nar | decide)) ?_
    refine ⟨?_, rfl, rfl, rfl⟩
    simp [an_count, s_0]
  by_cases s_2 : v = nI 2
  · subst s_2
    refine ev_s (is_tsw 49 rfl (by decide)) ?_
    refine ev_s (is_aload_n rfl rfl) ?_
    refine ev_s (is_getI' rfl (pu_s hC 29 rfl rfl) rfl rfl hx.2.1) ?_
    refine ev_ret (is_ireturn rfl rfl (by first | rfl | exact pu_b_nar | decide)) ?_
    refine ⟨?_, rfl, rfl, rfl⟩
    simp [an_count, s_0, s_1]
  by_cases s_3 : v = nI 3
  · subst s_3
    refine ev_s (is_tsw 54 rfl (by decide)) ?_
    refine ev_s (is_aload_n rfl rfl) ?_
    refine ev_s (is_getI' rfl (pu_s hC 29 rfl rfl) rfl rfl hx.2.2.1) ?_
    refine ev_ret (is_ireturn rfl rfl (by first | rfl | exact pu_b_nar | decide)) ?_
    refine ⟨?_, rfl, rfl, rfl⟩
    simp [an_count, s_0, s_1, s_2]
  by_cases s_4 : v = nI 4
  · subst s_4
    refine ev_s (is_tsw 59 rfl (by decide)) ?_
    refine ev_s (is_aload_n rfl rfl) ?_
    refine ev_s (is_getR rfl (pu_s hC 29 rfl rfl) rfl rfl (pu_r hC 29 8 rfl rfl)) ?_
    refine ev_s (is_getI' rfl (pu_s hC 33 rfl rfl) rfl rfl hz.2.1) ?_
    refine ev_ret (is_ireturn rfl rfl (by first | rfl | exact pu_b_nar | decide)) ?_
    refine ⟨?_, rfl, rfl, rfl⟩
    simp [an_count, s_0, s_1, s_2, s_3]
  have t_0 := pu_ne_toInt s_0 (by decide)
  have t_1 := pu_ne_toInt s_1 (by decide)
  have t_2 := pu_ne_toInt s_2 (by decide)
  have t_3 := pu_ne_toInt s_3 (by decide)
  have t_4 := pu_ne_toInt s_4 (by decide)
  refine ev_s (is_tswD 67 rfl (by omega) (by decide)) ?_
  refine ev_s (is_bipush ((-2)) rfl rfl) ?_
  refine ev_ret (is_ireturn rfl rfl (by first | rfl | exact pu_b_nar | decide)) ?_
  refine ⟨?_, rfl, rfl, rfl⟩
  simp [an_count, s_0, s_1, s_2, s_3, s_4]

theorem x_asks {d : Nat} {sh : im_Sh} {mi : im_MI} {mr : im_MR} (hC : pu_C sh mr) {H : ho_T} {G : ho_G} (hx : xa_ok H G mi mr) (p m h : Int32) : EvM (d + 3) 70 [.ref 29, .int p, .int m, .int h] sh mi mr (fun r sh2 m2 r2 => sh2 = sh ∧ (r = .int (an_asks H G p m h) ∧ r2 = mr ∧ sc_ xQ mi m2)) := by
  show Ev (d + 3) 70 0 [.ref 29, .int p, .int m, .int h] [] sh mi mr _
  have hn6 := xa_n hx
  have hs : sc_ xQ mi mi := sc_rf
  refine ev_s (is_iload_n rfl rfl) ?_
  refine ev_s (is_iconst (nI 0) rfl rfl) ?_
  refine ev_s (is_iconst (nI 2) rfl rfl) ?_
  refine ev_c1 (is_call0 3 [_, _, _] [] rfl rfl rfl rfl rfl (Nat.le_of_ble_eq_true rfl) rfl rfl rfl) rfl rfl (x_within' _ _ _) ?_
  refine ev_ifB_eq rfl (fun h_6 => ?_) (fun h_6 => ?_)
  · refine ev_s (is_bipush ((-2)) rfl rfl) ?_
    refine ev_ret (is_ireturn rfl rfl (by first | rfl | exact pu_b_nar | decide)) ?_
    refine ⟨rfl, ?_, rfl, hs⟩
    simp [an_asks, h_6]
  · obtain ⟨p0, rfl, lp0, up0, ep0⟩ := ho_rng_n h_6 (by decide) (by decide)
    refine ev_s (is_aload_n rfl rfl) ?_
    refine ev_s (is_iload_n rfl rfl) ?_
    refine ev_c1 (is_callR 2 [_] [] rfl rfl rfl rfl rfl (Nat.le_of_ble_eq_true rfl) rfl rfl rfl (pu_s hC 29 rfl rfl)) rfl rfl (x_noMan' hC hx _) ?_
    refine ev_ifB_ne rfl (fun h_14 => ?_) (fun h_14 => ?_)
    · refine ev_s (is_bipush ((-2)) rfl rfl) ?_
      refine ev_ret (is_ireturn rfl rfl (by first | rfl | exact pu_b_nar | decide)) ?_
      refine ⟨rfl, ?_, rfl, hs⟩
      simp [an_asks, h_6, ep0, h_14]
    · have h_14 := Decidable.of_not_not h_14
      obtain ⟨p1, rfl, hp1, ep1⟩ := ho_isM_n hn6 h_14
      refine ev_s (is_iload_n rfl rfl) ?_
      refine ev_c1 (is_call0 1 [_] [] rfl rfl rfl rfl rfl (Nat.le_of_ble_eq_true rfl) rfl rfl rfl) rfl rfl (x_noHour' _) ?_
      refine ev_ifB_eq rfl (fun h_21 => ?_) (fun h_21 => ?_)
      · have h_21 := Decidable.of_not_not h_21
        obtain ⟨p2, rfl, lp2, up2, ep2⟩ := ho_rng_n h_21 (by decide) (by decide)
        refine ev_s (is_aload_n rfl rfl) ?_
        refine ev_s (is_getR rfl (pu_s hC 29 rfl rfl) rfl rfl (pu_r hC 29 3 rfl rfl)) ?_
        refine ev_s (is_iload_n rfl rfl) ?_
        refine ev_s (is_aload_n rfl rfl) ?_
        refine ev_s (is_getR rfl (pu_s hC 29 rfl rfl) rfl rfl (pu_r hC 29 0 rfl rfl)) ?_
        refine ev_s (is_iload_n rfl rfl) ?_
        refine ev_s (is_aaload (k := 1) (p1) rfl (pu_s hC 30 rfl rfl) rfl rfl rfl (by omega) (pu_rows hC (by omega)).1) ?_
        refine ev_s (is_aload_n rfl rfl) ?_
        refine ev_s (is_iload_n rfl rfl) ?_
        refine ev_c1 (is_callR 2 [_] [_, _, _] rfl rfl rfl rfl rfl (Nat.le_of_ble_eq_true rfl) rfl rfl rfl (pu_s hC 29 rfl rfl)) rfl rfl (x_mate hC hx (by omega)) ?_
        refine ev_s (is_iload_n rfl rfl) ?_
        refine ev_q1 (is_callR 5 [_, _, _, _] [] rfl rfl rfl rfl rfl (Nat.le_of_ble_eq_true rfl) rfl rfl rfl (pu_s hC 104 rfl rfl)) rfl (by cases ho_mcell H p1 <;> rfl) (x_saysO hC (xa_r hx) (p := p0) (h := p2) (xm_Mi (m := p1) (by omega)) (xa_m hx (by omega)) (xa_mate hx p1) (by omega) (by omega)) (fun r_44 mi mr hq_44 => ?_)
        obtain ⟨rfl, hmr, hsc⟩ := hq_44
        have hmr := hmr.symm
        subst hmr
        have hs := hsc.mono (xS_xQ (Or.inl rfl))
        refine ev_ret (is_ireturn rfl rfl (by first | rfl | exact pu_b_nar | decide)) ?_
        refine ⟨rfl, ?_, rfl, hs⟩
        simp [an_asks, h_6, ep0, h_14, ep1, h_21, ep2, ho_asks_md H G p0 p1 p2 (by omega)]
      · refine ev_s (is_bipush ((-2)) rfl rfl) ?_
        refine ev_ret (is_ireturn rfl rfl (by first | rfl | exact pu_b_nar | decide)) ?_
        refine ⟨rfl, ?_, rfl, hs⟩
        simp [an_asks, h_6, ep0, h_14, ep1, h_21]

theorem xa_watch {H : ho_T} {G : ho_G} {mi : im_MI} {mr : im_MR} (h : xa_ok H G mi mr) {w : Nat} (hw : w < 4096) : xa_ok (ho_set H 0 1 w) G (im_u mi 104 1 (nI w)) mr := by
  have hn := xa_n h
  have hb := xa_bd h
  have ht := hb.2.2.1
  obtain ⟨h1, h2, h3, h4, h5, h6, h7, h8, h9⟩ := h
  have e : ∀ k, k ≠ 104 → im_u mi 104 1 (nI w) k = mi k := fun k hk => im_u_row' hk
  have e1 : ∀ i j, i ≠ 0 → ho_set H 0 1 w i j = H i j := fun i j hi => ho_set_i _ _ _ _ hi _
  have e2 : ∀ j, j ≠ 1 → ho_set H 0 1 w 0 j = H 0 j := fun j hj => ho_set_j _ _ _ _ hj _
  have er : ∀ m, ho_row (ho_set H 0 1 w) m = ho_row H m := fun m => by funext j; unfold ho_row; rw [e1 1 _ (by decide), e1 2 _ (by decide), e1 _ _ (by omega)]
  obtain ⟨b1, b2, b3, b4, b5, b6, b7, b8, b9, b10⟩ := h8
  refine ⟨by rw [e 29 (by decide), e2 0 (by decide)]; exact h1, by rw [e 29 (by decide), e2 2 (by decide)]; exact h2, by rw [e 29 (by decide), e2 3 (by decide)]; exact h3, by rw [im_u_s, ho_set_s], by rw [e2 3 (by decide)]; exact h5, fun m hm => ?_, fun t ht => ?_, ⟨by rw [e2 0 (by decide)]; exact b1, by rw [ho_set_s]; exact hw, by rw [e2 2 (by decide)]; exact b3, by rw [e2 3 (by decide), e2 2 (by decide)]; exact b4, by rw [e2 4 (by decide)]; exact b5, fun m => by rw [e1 1 _ (by decide)]; exact b6 m, fun m => by rw [e1 2 _ (by decide)]; exact b7 m, fun m k hk => by rw [e1 _ _ (by omega)]; exact b8 m k hk, fun m => by rw [e1 _ _ (by omega)]; exact b9 m, fun m => by rw [e1 _ _ (by omega)]; exact b10 m⟩, ?_⟩
  · rw [e2 0 (by decide)] at hm
    rw [er]
    exact xm_row (h6 m hm) (e _ (by omega)) (e _ (by omega))
  · rw [e2 2 (by decide)] at ht
    exact xt_row (h7 t ht) (e _ (by omega)) (e _ (by omega))
  · unfold ho_iv
    rw [e2 0 (by decide)]
    refine ⟨fun m hm => by rw [e1 _ _ (by omega)]; exact h9.1 m hm, fun m o hm ho hq => ?_⟩
    rw [e1 _ _ (by omega), e1 _ _ (by omega)] at hq
    exact h9.2 m o hm ho hq
theorem xh_watch {H K : ho_T} {mi : im_MI} (h : xh_ok H K mi) (hn : H 0 0 ≤ 6) (w : Nat) : xh_ok (ho_set H 0 1 w) K (im_u mi 104 1 (nI w)) := by
  have h3 := xh_row (mi2 := im_u mi 104 1 (nI w)) h (fun k hk => im_u_row' (by omega)) (xh_i6 h hn)
  have e1 : ∀ i j, i ≠ 0 → ho_set H 0 1 w i j = H i j := fun i j hi => ho_set_i _ _ _ _ hi _
  have e2 : ∀ j, j ≠ 1 → ho_set H 0 1 w 0 j = H 0 j := fun j hj => ho_set_j _ _ _ _ hj _
  have er : ∀ m, ho_irow (ho_set H 0 1 w) K m = ho_irow H K m := fun m => by funext j; unfold ho_irow; rw [e1 1 _ (by decide), e1 2 _ (by decide)]
  unfold xh_ok ho_hb at h3 ⊢
  simp only [e2 0 (by decide), e2 4 (by decide), e2 2 (by decide), er]
  exact h3

theorem x_watches {d : Nat} {sh : im_Sh} {mi : im_MI} {mr : im_MR} (hC : pu_C sh mr) {H K : ho_T} {G : ho_G} (hx : xa_ok H G mi mr) (hz : xh_ok H K mi) (s : Int32) : EvM (d + 1) 66 [.ref 29, .int s] sh mi mr (fun r sh2 m2 r2 => sh2 = sh ∧ (r = .int (an_watches H s) ∧ r2 = mr ∧ xa_ok (st_watches H s) G m2 mr ∧ xh_ok (st_watches H s) K m2 ∧ sc_ xAll mi m2)) := by
  show Ev (d + 1) 66 0 [.ref 29, .int s, im_bad] [] sh mi mr _
  have hn6 := xa_n hx
  have hs : sc_ xQ mi mi := sc_rf
  refine ev_s (is_iload_n rfl rfl) ?_
  refine ev_s (is_iconst (nI 0) rfl rfl) ?_
  refine ev_s (is_sipush (nI 4095) rfl rfl) ?_
  refine ev_c1 (is_call0 3 [_, _, _] [] rfl rfl rfl rfl rfl (Nat.le_of_ble_eq_true rfl) rfl rfl rfl) rfl rfl (x_within' _ _ _) ?_
  refine ev_ifB_ne rfl (fun h_8 => ?_) (fun h_8 => ?_)
  · obtain ⟨p0, rfl, lp0, up0, ep0⟩ := ho_rng_n h_8 (by decide) (by decide)
    refine ev_s (is_aload_n rfl rfl) ?_
    refine ev_s (is_getR rfl (pu_s hC 29 rfl rfl) rfl rfl (pu_r hC 29 3 rfl rfl)) ?_
    refine ev_s (is_getI' rfl (pu_s hC 104 rfl rfl) rfl rfl hx.2.2.2.1) ?_
    refine ev_s (st_istore_n_2 rfl rfl) ?_
    refine ev_s (is_aload_n rfl rfl) ?_
    refine ev_s (is_getR rfl (pu_s hC 29 rfl rfl) rfl rfl (pu_r hC 29 3 rfl rfl)) ?_
    refine ev_s (is_iload_n rfl rfl) ?_
    refine ev_s (is_putI rfl (pu_s hC 104 rfl rfl) rfl rfl rfl) ?_
    refine ev_s (is_iload_n rfl rfl) ?_
    refine ev_ret (is_ireturn rfl rfl (by first | rfl | exact pu_b_nar | decide)) ?_
    refine ⟨rfl, ?_, rfl, ?_, ?_, sc_rf.u (decide_eq_true (by decide))⟩
    · simp [an_watches, h_8]
    · simp only [st_watches, h_8, ep0]; exact xa_watch hx (by omega)
    · simp only [st_watches, h_8, ep0]; exact xh_watch hz hn6 p0
  · refine ev_s (is_bipush ((-2)) rfl rfl) ?_
    refine ev_ret (is_ireturn rfl rfl (by first | rfl | exact pu_b_nar | decide)) ?_
    refine ⟨rfl, ?_, rfl, ?_, ?_, sc_rf⟩
    · simp [an_watches, h_8]
    · simp only [st_watches, h_8]; exact hx
    · simp only [st_watches, h_8]; exact hz

theorem x_told {d : Nat} {sh : im_Sh} {mi : im_MI} {mr : im_MR} (hC : pu_C sh mr) {H : ho_T} {G : ho_G} (hx : xa_ok H G mi mr) (m w : Int32) : EvM (d + 2) 73 [.ref 29, .int m, .int w] sh mi mr (ev_R sh (.int (an_told H m w)) mi mr) := by
  show Ev (d + 2) 73 0 [.ref 29, .int m, .int w] [] sh mi mr _
  have hn6 := xa_n hx
  have hs : sc_ xQ mi mi := sc_rf
  refine ev_s (is_aload_n rfl rfl) ?_
  refine ev_s (is_iload_n rfl rfl) ?_
  refine ev_c1 (is_callR 2 [_] [] rfl rfl rfl rfl rfl (Nat.le_of_ble_eq_true rfl) rfl rfl rfl (pu_s hC 29 rfl rfl)) rfl rfl (x_noMan' hC hx _) ?_
  refine ev_ifB_eq rfl (fun h_5 => ?_) (fun h_5 => ?_)
  · have h_5 := Decidable.of_not_not h_5
    obtain ⟨m0, rfl, hm0, em0⟩ := ho_isM_n hn6 h_5
    refine ev_s (is_iload_n rfl rfl) ?_
    refine ev_c1 (is_call0 1 [_] [] rfl rfl rfl rfl rfl (Nat.le_of_ble_eq_true rfl) rfl rfl rfl) rfl rfl (x_noHour' _) ?_
    refine ev_ifB_ne rfl (fun h_15 => ?_) (fun h_15 => ?_)
    · refine ev_s (is_iload_n rfl rfl) ?_
      by_cases s_12 : w = nI 12
      · subst s_12
        refine ev_s (is_tsw 64 rfl (by decide)) ?_
        refine ev_s (is_aload_n rfl rfl) ?_
        refine ev_s (is_getR rfl (pu_s hC 29 rfl rfl) rfl rfl (pu_r hC 29 0 rfl rfl)) ?_
        refine ev_s (is_iload_n rfl rfl) ?_
        refine ev_s (is_aaload (k := 1) (m0) rfl (pu_s hC 30 rfl rfl) rfl rfl rfl (by omega) (pu_rows hC (by omega)).1) ?_
        refine ev_s (is_getI' rfl (pu_M hC (xm_Mi (m := m0) (by omega))).1 rfl rfl (xa_term hx hm0)) ?_
        refine ev_ret (is_ireturn rfl rfl (by first | rfl | exact pu_b_nar | decide)) ?_
        refine ⟨?_, rfl, rfl, rfl⟩
        simp [an_told, show ho_rng (nI 0) (nI 12) (nI 12) = true by decide, show jn (nI 12) = 12 by decide, h_5, em0]
      by_cases s_13 : w = nI 13
      · subst s_13
        refine ev_s (is_tsw 74 rfl (by decide)) ?_
        refine ev_s (is_aload_n rfl rfl) ?_
        refine ev_s (is_getR rfl (pu_s hC 29 rfl rfl) rfl rfl (pu_r hC 29 0 rfl rfl)) ?_
        refine ev_s (is_iload_n rfl rfl) ?_
        refine ev_s (is_aaload (k := 1) (m0) rfl (pu_s hC 30 rfl rfl) rfl rfl rfl (by omega) (pu_rows hC (by omega)).1) ?_
        refine ev_s (is_getI' rfl (pu_M hC (xm_Mi (m := m0) (by omega))).1 rfl rfl (xa_kind hx hm0)) ?_
        refine ev_ret (is_ireturn rfl rfl (by first | rfl | exact pu_b_nar | decide)) ?_
        refine ⟨?_, rfl, rfl, rfl⟩
        simp [an_told, show ho_rng (nI 0) (nI 13) (nI 12) = false by decide, h_5, em0, s_12]
      by_cases s_14 : w = nI 14
      · subst s_14
        refine ev_s (is_tsw 84 rfl (by decide)) ?_
        refine ev_s (is_aload_n rfl rfl) ?_
        refine ev_s (is_getR rfl (pu_s hC 29 rfl rfl) rfl rfl (pu_r hC 29 0 rfl rfl)) ?_
        refine ev_s (is_iload_n rfl rfl) ?_
        refine ev_s (is_aaload (k := 1) (m0) rfl (pu_s hC 30 rfl rfl) rfl rfl rfl (by omega) (pu_rows hC (by omega)).1) ?_
        refine ev_s (is_getI' rfl (pu_M hC (xm_Mi (m := m0) (by omega))).1 rfl rfl (xa_more hx hm0)) ?_
        refine ev_ret (is_ireturn rfl rfl (by first | rfl | exact pu_b_nar | decide)) ?_
        refine ⟨?_, rfl, rfl, rfl⟩
        simp [an_told, show ho_rng (nI 0) (nI 14) (nI 12) = false by decide, h_5, em0, s_12, s_13]
      by_cases s_15 : w = nI 15
      · subst s_15
        refine ev_s (is_tsw 94 rfl (by decide)) ?_
        refine ev_s (is_aload_n rfl rfl) ?_
        refine ev_s (is_getR rfl (pu_s hC 29 rfl rfl) rfl rfl (pu_r hC 29 0 rfl rfl)) ?_
        refine ev_s (is_iload_n rfl rfl) ?_
        refine ev_s (is_aaload (k := 1) (m0) rfl (pu_s hC 30 rfl rfl) rfl rfl rfl (by omega) (pu_rows hC (by omega)).1) ?_
        refine ev_s (is_getI' rfl (pu_M hC (xm_Mi (m := m0) (by omega))).1 rfl rfl (xa_pl hx hm0)) ?_
        refine ev_ret (is_ireturn rfl rfl (by first | rfl | exact pu_b_nar | decide)) ?_
        refine ⟨?_, rfl, rfl, rfl⟩
        simp [an_told, show ho_rng (nI 0) (nI 15) (nI 12) = false by decide, h_5, em0, s_12, s_13, s_14]
      by_cases s_16 : w = nI 16
      · subst s_16
        refine ev_s (is_tsw 104 rfl (by decide)) ?_
        refine ev_s (is_aload_n rfl rfl) ?_
        refine ev_s (is_iload_n rfl rfl) ?_
        refine ev_c1 (is_callR 2 [_] [] rfl rfl rfl rfl rfl (Nat.le_of_ble_eq_true rfl) rfl rfl rfl (pu_s hC 29 rfl rfl)) rfl rfl (x_mateN hC hx (by omega)) ?_
        refine ev_ret (is_ireturn rfl rfl (by first | rfl | exact pu_b_nar | decide)) ?_
        refine ⟨?_, rfl, rfl, rfl⟩
        simp [an_told, show ho_rng (nI 0) (nI 16) (nI 12) = false by decide, h_5, em0, s_12, s_13, s_14, s_15]
      have t_12 := pu_ne_toInt s_12 (by decide)
      have t_13 := pu_ne_toInt s_13 (by decide)
      have t_14 := pu_ne_toInt s_14 (by decide)
      have t_15 := pu_ne_toInt s_15 (by decide)
      have t_16 := pu_ne_toInt s_16 (by decide)
      refine ev_s (is_tswD 110 rfl (by omega) (by decide)) ?_
      refine ev_s (is_bipush ((-7)) rfl rfl) ?_
      refine ev_ret (is_ireturn rfl rfl (by first | rfl | exact pu_b_nar | decide)) ?_
      have hw12 : ¬ ho_rng (nI 0) w (nI 12) = true := fun q => by
        obtain ⟨j, rfl, _, h2, _⟩ := ho_rng_n q (by decide) (by decide)
        rcases Nat.lt_or_ge j 12 with h3 | h3
        · exact h_15 (ho_rng_t (by omega) (by omega) (by decide))
        · exact s_12 (by rw [show j = 12 by omega])
      refine ⟨?_, rfl, rfl, rfl⟩
      simp [an_told, hw12, h_5, em0, s_12, s_13, s_14, s_15, s_16]
    · have h_15 := Decidable.of_not_not h_15
      obtain ⟨w0, rfl, lw0, uw0, ew0⟩ := ho_rng_n h_15 (by decide) (by decide)
      have hw12 : ho_rng (nI 0) (nI w0) (nI 12) = true := ho_rng_t (by omega) (by omega) (by decide)
      refine ev_s (is_aload_n rfl rfl) ?_
      refine ev_s (is_getR rfl (pu_s hC 29 rfl rfl) rfl rfl (pu_r hC 29 0 rfl rfl)) ?_
      refine ev_s (is_iload_n rfl rfl) ?_
      refine ev_s (is_aaload (k := 1) (m0) rfl (pu_s hC 30 rfl rfl) rfl rfl rfl (by omega) (pu_rows hC (by omega)).1) ?_
      refine ev_s (is_getR rfl (pu_M hC (xm_Mi (m := m0) (by omega))).1 rfl rfl (pu_M hC (xm_Mi (m := m0) (by omega))).2.2) ?_
      refine ev_s (is_iload_n rfl rfl) ?_
      refine ev_s (is_iaload' (w0) rfl (pu_M hC (xm_Mi (m := m0) (by omega))).2.1 rfl rfl (by omega) (xa_do hx hm0 (by omega))) ?_
      refine ev_ret (is_ireturn rfl rfl (by first | rfl | exact pu_b_nar | decide)) ?_
      refine ⟨?_, rfl, rfl, rfl⟩
      simp [an_told, h_5, em0, ew0, hw12]
  · refine ev_s (is_bipush ((-5)) rfl rfl) ?_
    refine ev_ret (is_ireturn rfl rfl (by first | rfl | exact pu_b_nar | decide)) ?_
    refine ⟨?_, rfl, rfl, rfl⟩
    simp [an_told, h_5]

theorem x_come {d : Nat} {sh : im_Sh} {mi : im_MI} {mr : im_MR} (hC : pu_C sh mr) {k kd mo pl : Nat} (hk : xm_M k) (hkd : kd < 6) (hmo : mo < 10) (hpl : pl < 1000) : EvM (d) 7 [.ref k, .int (nI kd), .int (nI mo), .int (nI pl)] sh mi mr (fun r sh2 m2 r2 => sh2 = sh ∧ (r2 = mr ∧ sc_ (xM2 k) mi m2 ∧ xm_ok m2 k (fun j => if j = 14 then kd else if j = 15 then mo else if j = 13 then pl else 0))) := by
  show Ev (d) 7 0 [.ref k, .int (nI kd), .int (nI mo), .int (nI pl), im_bad] [] sh mi mr _
  have loop : ∀ (j i : Nat) (ma : im_MI), i + j = 12 → sc_ (xM2 k) mi ma → ma k 0 = nI kd → ma k 1 = nI mo → ma k 2 = nI 0 → ma k 3 = nI pl → (∀ q, q < i → ma (k + 1) q = nI 0) → Ev (d) 7 23 [.ref k, .int (nI kd), .int (nI mo), .int (nI pl), .int (nI i)] [] sh ma mr (fun r sh2 m2 r2 => sh2 = sh ∧ (r2 = mr ∧ sc_ (xM2 k) mi m2 ∧ xm_ok m2 k (fun j => if j = 14 then kd else if j = 15 then mo else if j = 13 then pl else 0))) := by
    intro j
    induction j with
    | zero =>
      intro i ma hi hs g0 g1 g2 g3 g4
      try have hi12 : i = 12 := by omega
      refine ev_s (is_iload rfl rfl) ?_
      refine ev_s (is_bipush (nI 12) rfl rfl) ?_
      refine ev_s (is_icmp_ge_t rfl (nI_le (by omega) (by omega))) ?_
      refine ev_ret (is_return rfl) ?_
      exact ⟨rfl, rfl, hs, g0, g1, g2, g3, fun q hq => by
          show ma (k + 1) q = nI (if q = 14 then _ else if q = 15 then _ else if q = 13 then _ else 0)
          rw [if_neg (by omega), if_neg (by omega), if_neg (by omega)]
          exact g4 q (by omega), hkd, hmo, Nat.zero_le _, hpl, fun q hq => by show (if q = 14 then _ else _) < 6; rw [if_neg (by omega), if_neg (by omega), if_neg (by omega)]; decide⟩
    | succ j ih =>
      intro i ma hi hs g0 g1 g2 g3 g4
      refine ev_s (is_iload rfl rfl) ?_
      refine ev_s (is_bipush (nI 12) rfl rfl) ?_
      refine ev_s (is_icmp_ge_f rfl (nI_ge (by omega) (by omega))) ?_
      refine ev_s (is_aload_n rfl rfl) ?_
      refine ev_s (is_getR rfl (pu_M hC hk).1 rfl rfl (pu_M hC hk).2.2) ?_
      refine ev_s (is_iload rfl rfl) ?_
      refine ev_s (is_iconst (nI 0) rfl rfl) ?_
      refine ev_s (is_iastore (i) rfl ((pu_M hC hk).2.1) rfl rfl (by omega)) ?_
      refine ev_s (st_iinc_4 _ rfl rfl (nI_inc _)) ?_
      refine ev_s (is_goto rfl) ?_
      exact ih (i + 1) _ (by omega) (hs.u (decide_eq_true (Or.inr rfl))) (by rw [im_u_k _ _ _ _ (by omega)]; exact g0) (by rw [im_u_k _ _ _ _ (by omega)]; exact g1) (by rw [im_u_k _ _ _ _ (by omega)]; exact g2) (by rw [im_u_k _ _ _ _ (by omega)]; exact g3) (fun q hq => by
        by_cases hqi : q = i
        · rw [hqi, im_u_s]
        · rw [im_u_j _ _ _ _ hqi]; exact g4 q (by omega))
  refine ev_s (is_aload_n rfl rfl) ?_
  refine ev_s (is_iload_n rfl rfl) ?_
  refine ev_s (is_putI rfl (pu_M hC hk).1 rfl rfl rfl) ?_
  refine ev_s (is_aload_n rfl rfl) ?_
  refine ev_s (is_iload_n rfl rfl) ?_
  refine ev_s (is_putI rfl (pu_M hC hk).1 rfl rfl rfl) ?_
  refine ev_s (is_aload_n rfl rfl) ?_
  refine ev_s (is_iload_n rfl rfl) ?_
  refine ev_s (is_putI rfl (pu_M hC hk).1 rfl rfl rfl) ?_
  refine ev_s (is_aload_n rfl rfl) ?_
  refine ev_s (is_iconst (nI 0) rfl rfl) ?_
  refine ev_s (is_putI rfl (pu_M hC hk).1 rfl rfl rfl) ?_
  refine ev_s (is_iconst (nI 0) rfl rfl) ?_
  refine ev_s (st_istore_4 rfl rfl) ?_
  exact loop 12 0 _ (by omega) ((((sc_rf.u (decide_eq_true (Or.inl rfl))).u (decide_eq_true (Or.inl rfl))).u (decide_eq_true (Or.inl rfl))).u (decide_eq_true (Or.inl rfl))) (by simp [im_u]) (by simp [im_u]) (by simp [im_u]) (by simp [im_u]) (fun q hq => absurd hq (by omega))

theorem st_come_00 (H : ho_T) (v : Nat) : st_come H v 0 0 = H 0 0 + 1 := if_pos ⟨rfl, rfl⟩
theorem st_come_0 (H : ho_T) (v : Nat) {j : Nat} (hj : j ≠ 0) : st_come H v 0 j = H 0 j := by unfold st_come; rw [if_neg (by omega), if_neg (by omega), if_neg (by omega), if_neg (by omega)]
theorem st_come_1 (H : ho_T) (v m : Nat) : st_come H v 1 m = if m = H 0 0 then v / 10 else H 1 m := by
  unfold st_come
  rw [if_neg (by omega)]
  by_cases h : m = H 0 0
  · rw [if_pos ⟨rfl, h⟩, if_pos h]
  · rw [if_neg (by omega), if_neg (by omega), if_neg (by omega), if_neg h]
theorem st_come_2 (H : ho_T) (v m : Nat) : st_come H v 2 m = if m = H 0 0 then v % 10 else H 2 m := by
  unfold st_come
  rw [if_neg (by omega), if_neg (by omega)]
  by_cases h : m = H 0 0
  · rw [if_pos ⟨rfl, h⟩, if_pos h]
  · rw [if_neg (by omega), if_neg (by omega), if_neg h]
theorem st_come_r (H : ho_T) (v m j : Nat) : st_come H v (10 + m) j = if m = H 0 0 then (if j = 13 then H 0 0 else 0) else H (10 + m) j := by
  unfold st_come
  rw [if_neg (by omega), if_neg (by omega), if_neg (by omega)]
  by_cases h : m = H 0 0
  · rw [if_pos (by omega), if_pos h]
  · rw [if_neg (by omega), if_neg h]
theorem st_come_row (H : ho_T) (v : Nat) : ho_row (st_come H v) (H 0 0) = (fun j => if j = 14 then v / 10 else if j = 15 then v % 10 else if j = 13 then H 0 0 else 0) := by
  funext j
  unfold ho_row
  rw [st_come_1, st_come_2, st_come_r, if_pos rfl, if_pos rfl, if_pos rfl]
theorem st_come_row2 (H : ho_T) (v : Nat) {m : Nat} (hm : m < H 0 0) : ho_row (st_come H v) m = ho_row H m := by
  funext j
  unfold ho_row
  have hne : m ≠ H 0 0 := by omega
  simp only [st_come_1, st_come_2, st_come_r, if_neg hne]
theorem ho_bd_come {H : ho_T} (h : ho_bd H) (hn : H 0 0 < 6) {v : Nat} (hv : v ≤ 59) : ho_bd (st_come H v) := by
  obtain ⟨b1, b2, b3, b4, b5, b6, b7, b8, b9, b10⟩ := h
  have e0 : ∀ j, j ≠ 0 → st_come H v 0 j = H 0 j := fun j hj => st_come_0 H v hj
  refine ⟨?_, by rw [e0 1 (by decide)]; exact b2, by rw [e0 2 (by decide)]; exact b3, by rw [e0 3 (by decide), e0 2 (by decide)]; exact b4, by rw [e0 4 (by decide)]; exact b5, fun m => ?_, fun m => ?_, fun m k hk => ?_, fun m => ?_, fun m => ?_⟩
  · rw [st_come_00]; omega
  · have := b6 m
    rw [st_come_1]
    repeat' split
    all_goals omega
  · have := b7 m
    rw [st_come_2]
    repeat' split
    all_goals omega
  · have := b8 m k hk
    rw [st_come_r]
    repeat' split
    all_goals omega
  · have := b9 m
    rw [st_come_r]
    repeat' split
    all_goals omega
  · have := b10 m
    rw [st_come_r]
    repeat' split
    all_goals omega
theorem st_come_pl (H : ho_T) (v : Nat) (q : Nat) : st_come H v (10 + q) 13 = if q = H 0 0 then H 0 0 else H (10 + q) 13 := by rw [st_come_r, if_pos rfl]
theorem ho_iv_come {H : ho_T} (h : ho_iv H) (v : Nat) : ho_iv (st_come H v) := by
  have e : st_come H v 0 0 = H 0 0 + 1 := st_come_00 H v
  unfold ho_iv
  rw [e]
  refine ⟨fun q hq => ?_, fun q o hq ho he => ?_⟩
  · rw [st_come_pl]
    split
    · omega
    · have := h.1 q (by omega)
      omega
  · rw [st_come_pl, st_come_pl] at he
    split at he <;> split at he
    · omega
    · have := h.1 o (by omega); omega
    · have := h.1 q (by omega); omega
    · exact h.2 q o (by omega) (by omega) he
theorem xa_come {H : ho_T} {G : ho_G} {mi m1 : im_MI} {mr : im_MR} (hx : xa_ok H G mi mr) (hn : H 0 0 < 6) {v : Nat} (hv : v ≤ 59) (hs : sc_ (xM2 (54 + 4 * H 0 0)) mi m1) (hok : xm_ok m1 (54 + 4 * H 0 0) (fun j => if j = 14 then v / 10 else if j = 15 then v % 10 else if j = 13 then H 0 0 else 0)) : xa_ok (st_come H v) G (im_u m1 29 2 (nI (H 0 0 + 1))) mr := by
  have hb := xa_bd hx
  have ht := hb.2.2.1
  have e : ∀ k, k ≠ 54 + 4 * H 0 0 → k ≠ 55 + 4 * H 0 0 → k ≠ 29 → im_u m1 29 2 (nI (H 0 0 + 1)) k = mi k := fun k h1 h2 h3 => by rw [im_u_row' h3]; exact hs k (decide_eq_false (by omega))
  have e29 : ∀ j, j ≠ 2 → im_u m1 29 2 (nI (H 0 0 + 1)) 29 j = mi 29 j := fun j hj => by rw [im_u_j _ _ _ _ hj]; rw [hs 29 (decide_eq_false (by omega))]
  have e0 : ∀ j, j ≠ 0 → st_come H v 0 j = H 0 j := fun j hj => st_come_0 H v hj
  have e00 : st_come H v 0 0 = H 0 0 + 1 := st_come_00 H v
  obtain ⟨h1, h2, h3, h4, h5, h6, h7, h8, h9⟩ := hx
  refine ⟨by rw [im_u_s, e00], by rw [e29 6 (by decide), e0 2 (by decide)]; exact h2, by rw [e29 7 (by decide), e0 3 (by decide)]; exact h3, by rw [e 104 (by omega) (by omega) (by omega), e0 1 (by decide)]; exact h4, by rw [e0 3 (by decide)]; exact h5, fun q hq => ?_, fun t ht => ?_, ho_bd_come h8 hn hv, ho_iv_come h9 v⟩
  · rw [e00] at hq
    by_cases hqn : q = H 0 0
    · subst hqn
      rw [st_come_row H v]
      exact xm_row hok (im_u_row' (by omega)) (im_u_row' (by omega))
    · rw [st_come_row2 H v (by omega)]
      exact xm_row (h6 q (by omega)) (e _ (by omega) (by omega) (by omega)) (e _ (by omega) (by omega) (by omega))
  · rw [e0 2 (by decide)] at ht
    exact xt_row (h7 t ht) (e _ (by omega) (by omega) (by omega)) (e _ (by omega) (by omega) (by omega))
theorem xh_come {H K : ho_T} {mi m2 : im_MI} (h : xh_ok H K mi) (hn : H 0 0 ≤ 6) (v : Nat) (hs : ∀ k, k = 33 ∨ k = 34 ∨ (40 ≤ k ∧ k ≤ 53) ∨ (96 ≤ k ∧ k ≤ 103) → m2 k = mi k) : xh_ok (st_come H v) K m2 := by
  obtain ⟨h1, h2, h3, h4, h5, h6⟩ := xh_row h hs (xh_i6 h hn)
  have e0 : ∀ j, j ≠ 0 → st_come H v 0 j = H 0 j := fun j hj => st_come_0 H v hj
  have e00 : st_come H v 0 0 = H 0 0 + 1 := st_come_00 H v
  obtain ⟨b1, b2, b3, b4, b5, b6⟩ := h6
  refine ⟨h1, by rw [e0 4 (by decide)]; exact h2, by rw [e0 4 (by decide)]; exact h3, h4, fun hi => ?_, b1, b2, b3, b4, b5, fun hi => ?_⟩
  · obtain ⟨q1, q2, q3, q4⟩ := h5 hi
    refine ⟨q1, q2, q3, fun m hm => ?_⟩
    have := (b6 hi).1
    have er : ho_irow (st_come H v) K m = ho_irow H K m := by
      funext j
      unfold ho_irow
      have hne : m ≠ H 0 0 := by omega
      simp only [st_come_1, st_come_2, if_neg hne]
    rw [er]
    exact q4 m hm
  · obtain ⟨c1, c2⟩ := b6 hi
    rw [e0 2 (by decide), e00]
    exact ⟨by omega, c2⟩

theorem x_man {d : Nat} {sh : im_Sh} {mi : im_MI} {mr : im_MR} (hC : pu_C sh mr) {H K : ho_T} {G : ho_G} (hx : xa_ok H G mi mr) (hz : xh_ok H K mi) (v : Int32) : EvM (d + 1) 71 [.ref 29, .int v] sh mi mr (fun r sh2 m2 r2 => sh2 = sh ∧ (r = .int (an_man H v) ∧ r2 = mr ∧ xa_ok (st_man H v) G m2 mr ∧ xh_ok (st_man H v) K m2 ∧ sc_ xAll mi m2)) := by
  show Ev (d + 1) 71 0 [.ref 29, .int v] [] sh mi mr _
  refine ev_s (is_iload_n rfl rfl) ?_
  refine ev_s (is_iconst (nI 0) rfl rfl) ?_
  refine ev_s (is_bipush (nI 59) rfl rfl) ?_
  refine ev_c1 (is_call0 3 [_, _, _] [] rfl rfl rfl rfl rfl (Nat.le_of_ble_eq_true rfl) rfl rfl rfl) rfl rfl (x_within' _ _ _) ?_
  refine ev_ifB_ne rfl (fun h_7 => ?_) (fun h_7 => ?_)
  · obtain ⟨p0, rfl, lp0, up0, ep0⟩ := ho_rng_n h_7 (by decide) (by decide)
    refine ev_s (is_aload_n rfl rfl) ?_
    refine ev_s (is_getI' rfl (pu_s hC 29 rfl rfl) rfl rfl hx.1) ?_
    refine ev_s (is_bipush (nI 6) rfl rfl) ?_
    have hn7 := xa_n hx
    refine ev_icmpN_lt rfl (by omega) (by omega) (fun h_19 => ?_) (fun h_19 => ?_)
    · refine ev_s (is_aload_n rfl rfl) ?_
      refine ev_s (is_getR rfl (pu_s hC 29 rfl rfl) rfl rfl (pu_r hC 29 0 rfl rfl)) ?_
      refine ev_s (is_aload_n rfl rfl) ?_
      refine ev_s (is_getI' rfl (pu_s hC 29 rfl rfl) rfl rfl hx.1) ?_
      refine ev_s (is_aaload (k := 1) (H 0 0) rfl (pu_s hC 30 rfl rfl) rfl rfl rfl (by omega) (pu_rows hC (by omega)).1) ?_
      refine ev_s (is_iload_n rfl rfl) ?_
      refine ev_s (is_bipush (nI 10) rfl rfl) ?_
      refine ev_s (is_idiv _ rfl (by decide) (pk_div (by omega) (by decide) (by decide))) ?_
      refine ev_s (is_iload_n rfl rfl) ?_
      refine ev_s (is_bipush (nI 10) rfl rfl) ?_
      refine ev_s (is_irem _ rfl (by decide) (pk_rem (by omega) (by decide) (by decide))) ?_
      refine ev_s (is_aload_n rfl rfl) ?_
      refine ev_s (is_getI' rfl (pu_s hC 29 rfl rfl) rfl rfl hx.1) ?_
      refine ev_q0 (is_callR 4 [_, _, _] [] rfl rfl rfl rfl rfl (Nat.le_of_ble_eq_true rfl) rfl rfl rfl (pu_M hC (xm_Mi (m := H 0 0) (by omega))).1) rfl rfl (x_come hC (xm_Mi (m := H 0 0) (by omega)) (kd := p0 / 10) (mo := p0 % 10) (pl := H 0 0) (by omega) (Nat.mod_lt _ (by decide)) (by omega)) (fun r_46 mi mr hq_46 => ?_)
      obtain ⟨hmr, hsc, hok⟩ := hq_46
      have hmr := hmr.symm
      subst hmr
      have hx29 : mi 29 2 = nI (H 0 0) := by rw [hsc 29 (decide_eq_false (by omega))]; exact hx.1
      refine ev_s (is_aload_n rfl rfl) ?_
      refine ev_s (is_dup rfl rfl) ?_
      refine ev_s (is_getI' rfl (pu_s hC 29 rfl rfl) rfl rfl hx29) ?_
      refine ev_s (is_dup_x1 rfl rfl rfl) ?_
      refine ev_s (is_iconst (nI 1) rfl rfl) ?_
      first
        | refine ev_s (is_iadd _ rfl (nI_add _ _)) ?_
        | refine ev_s (is_iadd _ rfl rfl) ?_
      refine ev_s (is_putI rfl (pu_s hC 29 rfl rfl) rfl rfl rfl) ?_
      refine ev_ret (is_ireturn rfl rfl (by first | rfl | exact pu_b_nar | decide)) ?_
      have h_19b : ¬ 6 ≤ H 0 0 := by omega
      refine ⟨rfl, ?_, rfl, ?_, ?_, (hsc.mono (xM2_all (by omega))).u (decide_eq_true (by decide))⟩
      · simp [an_man, h_7, h_19b]
      · simp only [st_man, h_7, h_19b, ep0]; exact xa_come hx (by omega) (by omega) hsc hok
      · simp only [st_man, h_7, h_19b, ep0]; exact xh_come hz (by omega) p0 (fun k hk => by rw [im_u_row' (by omega)]; exact hsc k (decide_eq_false (by omega)))
    · have h_19b : ¬ H 0 0 < 6 := by omega
      refine ev_s (is_bipush ((-4)) rfl rfl) ?_
      refine ev_ret (is_ireturn rfl rfl (by first | rfl | exact pu_b_nar | decide)) ?_
      refine ⟨rfl, ?_, rfl, ?_, ?_, sc_rf⟩
      · simp [an_man, h_7, h_19]
      · simp only [st_man, h_7, h_19]; exact hx
      · simp only [st_man, h_7, h_19]; exact hz
  · refine ev_s (is_bipush ((-2)) rfl rfl) ?_
    refine ev_ret (is_ireturn rfl rfl (by first | rfl | exact pu_b_nar | decide)) ?_
    refine ⟨rfl, ?_, rfl, ?_, ?_, sc_rf⟩
    · simp [an_man, h_7]
    · simp only [st_man, h_7]; exact hx
    · simp only [st_man, h_7]; exact hz
