/-! ===== PURE, the class: with a mate or none; men by number ===== -/

theorem x_compO {d : Nat} {sh : im_Sh} {mi : im_MI} {mr : im_MR} (hC : pu_C sh mr) {R t w : Nat} {G : ho_G} (hr : xr_ok mi mr R G t w) {k h : Nat} {a b : Nat → Nat} (hk : xm_M k) (ha : xm_ok mi k a) {o : Option Nat} (ho : xo_ok mi o b) (hh : h < 12) : EvM (d + 3) 18 [.ref R, .ref k, xoc o, .int (nI h)] sh mi mr (fun r sh2 m2 r2 => sh2 = sh ∧ (r = .int (nI (md_compO G t w a o b h)) ∧ r2 = mr ∧ sc_ (xS R) mi m2)) := by
  cases o with
  | none => exact ev_imp (x_compN) (fun r s m r2 hq => by obtain ⟨rfl, rfl, rfl, rfl⟩ := hq; exact ⟨rfl, rfl, rfl, sc_rf⟩)
  | some q => exact x_comp hC hr hk ha (ho q rfl).1 (ho q rfl).2 hh

theorem x_daysO {d : Nat} {sh : im_Sh} {mi : im_MI} {mr : im_MR} (hC : pu_C sh mr) {R t w : Nat} {G : ho_G} (hr : xr_ok mi mr R G t w) {k h : Nat} {a b : Nat → Nat} (hk : xm_M k) (ha : xm_ok mi k a) {o : Option Nat} (ho : xo_ok mi o b) (hh : h < 12) : EvM (d + 4) 19 [.ref R, .ref k, xoc o, .int (nI h)] sh mi mr (fun r sh2 m2 r2 => sh2 = sh ∧ (r = .int (nI (md_daysO G t w a o b h)) ∧ r2 = mr ∧ sc_ (xS R) mi m2)) := by
  cases o with
  | none => exact ev_imp (x_daysN hC hr hh) (fun r s m r2 hq => by obtain ⟨rfl, rfl, rfl, rfl⟩ := hq; exact ⟨rfl, rfl, rfl, sc_rf⟩)
  | some q => exact x_days hC hr hk ha (ho q rfl).1 (ho q rfl).2 hh

theorem x_dayO {d : Nat} {sh : im_Sh} {mi : im_MI} {mr : im_MR} (hC : pu_C sh mr) {R t w : Nat} {G : ho_G} (hr : xr_ok mi mr R G t w) {k : Nat} {a b : Nat → Nat} (hk : xm_M k) (ha : xm_ok mi k a) {o : Option Nat} (ho : xo_ok mi o b) : EvM (d + 5) 21 [.ref R, .ref k, xoc o] sh mi mr (fun r sh2 m2 r2 => sh2 = sh ∧ (r = .int (nI (md_dayO G t w a o b)) ∧ r2 = mr ∧ sc_ (xS R) mi m2)) := by
  cases o with
  | none => exact ev_imp (x_dayN hC hr) (fun r s m r2 hq => by obtain ⟨rfl, rfl, rfl, rfl⟩ := hq; exact ⟨rfl, rfl, rfl, sc_rf⟩)
  | some q => exact x_day hC hr hk ha (ho q rfl).1 (ho q rfl).2

theorem md_days_le (G : ho_G) (t w : Nat) (a b : Nat → Nat) (h : Nat) : md_days G t w a b h ≤ 99 := by
  have := md_say_le (G t 1) 99 w a b h (by decide)
  unfold md_days kd_serves
  repeat' split
  all_goals omega
theorem md_daysO_le (G : ho_G) (t w : Nat) (a : Nat → Nat) (o : Option Nat) (b : Nat → Nat) (h : Nat) : md_daysO G t w a o b h ≤ 99 := by
  cases o with
  | none => exact Nat.zero_le _
  | some q => exact md_days_le _ _ _ _ _ _
theorem md_dayO_le (G : ho_G) (t w : Nat) (a : Nat → Nat) (o : Option Nat) (b : Nat → Nat) : md_dayO G t w a o b ≤ 1188 := by
  cases o with
  | none => exact Nat.zero_le _
  | some q => exact lo_sum_le (b := 99) 12 fun i _ => md_days_le _ _ _ _ _ _
theorem md_comp_le (G : ho_G) (t w : Nat) (a b : Nat → Nat) (h : Nat) (ha : a 15 < 10) : md_comp G t w a b h ≤ 109 := kd_minds_le _ _ _ ha (Nat.le_trans (md_say_le _ _ _ _ _ _ (by decide)) (by decide))
theorem md_compO_le (G : ho_G) (t w : Nat) (a : Nat → Nat) (o : Option Nat) (b : Nat → Nat) (h : Nat) (ha : a 15 < 10) : md_compO G t w a o b h ≤ 109 := by
  cases o with
  | none => exact Nat.zero_le _
  | some q => exact md_comp_le _ _ _ _ _ _ ha
def md_bothO (G : ho_G) (t w : Nat) (a : Nat → Nat) (o : Option Nat) (b : Nat → Nat) (h : Nat) : Nat := match o with
  | none => 0
  | some _ => md_days G t w a b h + md_days G t w b a h
def md_quietO (G : ho_G) (t w : Nat) (a : Nat → Nat) (o : Option Nat) (b : Nat → Nat) (h : Nat) : Bool := match o with
  | none => true
  | some _ => decide (md_comp G t w a b h = 0 ∧ md_comp G t w b a h = 0)

theorem x_both {d : Nat} {sh : im_Sh} {mi : im_MI} {mr : im_MR} (hC : pu_C sh mr) {R t w : Nat} {G : ho_G} (hr : xr_ok mi mr R G t w) {k h : Nat} {a b : Nat → Nat} (hk : xm_M k) (ha : xm_ok mi k a) {q : Nat} (hq : xm_M q) (hb : xm_ok mi q b) (hh : h < 12) : EvM (d + 5) 20 [.ref R, .ref k, .ref q, .int (nI h)] sh mi mr (fun r sh2 m2 r2 => sh2 = sh ∧ (r = .int (nI (md_days G t w a b h + md_days G t w b a h)) ∧ r2 = mr ∧ sc_ (xS R) mi m2)) := by
  show Ev (d + 5) 20 0 [.ref R, .ref k, .ref q, .int (nI h)] [] sh mi mr _
  refine ev_s (is_aload_n rfl rfl) ?_
  refine ev_s (is_aload_n rfl rfl) ?_
  refine ev_s (is_aload_n rfl rfl) ?_
  refine ev_s (is_iload_n rfl rfl) ?_
  refine ev_q1 (is_callR 4 [_, _, _] [] rfl rfl rfl rfl rfl (Nat.le_of_ble_eq_true rfl) rfl rfl rfl (pu_R hC hr.1).1) rfl rfl (x_days hC hr hk ha hq hb hh) (fun r_4 mi mr hq_4 => ?_)
  obtain ⟨rfl, hmr, hsc⟩ := hq_4
  have hmr := hmr.symm
  subst hmr
  refine ev_s (is_aload_n rfl rfl) ?_
  refine ev_s (is_aload_n rfl rfl) ?_
  refine ev_s (is_aload_n rfl rfl) ?_
  refine ev_s (is_iload_n rfl rfl) ?_
  refine ev_q1 (is_callR 4 [_, _, _] [_] rfl rfl rfl rfl rfl (Nat.le_of_ble_eq_true rfl) rfl rfl rfl (pu_R hC hr.1).1) rfl rfl (x_days hC (xr_sc hr hr.1 hsc) hq (xm_sc hq hb hr.1 hsc) hk (xm_sc hk ha hr.1 hsc) hh) (fun r_11 mi mr hq_11 => ?_)
  obtain ⟨rfl, hmr, hsc2⟩ := hq_11
  have hmr := hmr.symm
  subst hmr
  first
    | refine ev_s (is_iadd _ rfl (nI_add _ _)) ?_
    | refine ev_s (is_iadd _ rfl rfl) ?_
  refine ev_ret (is_ireturn rfl rfl (by first | rfl | exact pu_b_nar | decide)) ?_
  exact ⟨rfl, rfl, rfl, hsc.trans hsc2⟩

theorem x_bothN {d : Nat} {sh : im_Sh} {mi : im_MI} {mr : im_MR} (hC : pu_C sh mr) {R t w : Nat} {G : ho_G} (hr : xr_ok mi mr R G t w) {k h : Nat} (hh : h < 12) : EvM (d + 5) 20 [.ref R, .ref k, .null, .int (nI h)] sh mi mr (fun r sh2 m2 r2 => sh2 = sh ∧ (r = .int (nI (0)) ∧ r2 = mr ∧ sc_ (xS R) mi m2)) := by
  show Ev (d + 5) 20 0 [.ref R, .ref k, .null, .int (nI h)] [] sh mi mr _
  first
    | refine ev_s (is_aload_n rfl rfl) ?_
    | refine ev_s (is_aload_nN rfl rfl) ?_
  first
    | refine ev_s (is_aload_n rfl rfl) ?_
    | refine ev_s (is_aload_nN rfl rfl) ?_
  first
    | refine ev_s (is_aload_n rfl rfl) ?_
    | refine ev_s (is_aload_nN rfl rfl) ?_
  refine ev_s (is_iload_n rfl rfl) ?_
  refine ev_c1 (is_callR 4 [_, _, _] [] rfl rfl rfl rfl rfl (Nat.le_of_ble_eq_true rfl) rfl rfl rfl (pu_R hC hr.1).1) rfl rfl (x_daysN hC hr hh) ?_
  first
    | refine ev_s (is_aload_n rfl rfl) ?_
    | refine ev_s (is_aload_nN rfl rfl) ?_
  first
    | refine ev_s (is_aload_n rfl rfl) ?_
    | refine ev_s (is_aload_nN rfl rfl) ?_
  first
    | refine ev_s (is_aload_n rfl rfl) ?_
    | refine ev_s (is_aload_nN rfl rfl) ?_
  refine ev_s (is_iload_n rfl rfl) ?_
  refine ev_c1 (is_callR 4 [_, _, _] [_] rfl rfl rfl rfl rfl (Nat.le_of_ble_eq_true rfl) rfl rfl rfl (pu_R hC hr.1).1) rfl rfl (x_daysN2 hC hr hh) ?_
  first
    | refine ev_s (is_iadd _ rfl (nI_add _ _)) ?_
    | refine ev_s (is_iadd _ rfl rfl) ?_
  refine ev_ret (is_ireturn rfl rfl (by first | rfl | exact pu_b_nar | decide)) ?_
  exact ⟨rfl, rfl, rfl, sc_rf⟩

theorem x_bothO {d : Nat} {sh : im_Sh} {mi : im_MI} {mr : im_MR} (hC : pu_C sh mr) {R t w : Nat} {G : ho_G} (hr : xr_ok mi mr R G t w) {k h : Nat} {a b : Nat → Nat} (hk : xm_M k) (ha : xm_ok mi k a) {o : Option Nat} (ho : xo_ok mi o b) (hh : h < 12) : EvM (d + 5) 20 [.ref R, .ref k, xoc o, .int (nI h)] sh mi mr (fun r sh2 m2 r2 => sh2 = sh ∧ (r = .int (nI (md_bothO G t w a o b h)) ∧ r2 = mr ∧ sc_ (xS R) mi m2)) := by
  cases o with
  | none => exact x_bothN hC hr hh
  | some q => exact x_both hC hr hk ha (ho q rfl).1 (ho q rfl).2 hh

theorem x_quiet {d : Nat} {sh : im_Sh} {mi : im_MI} {mr : im_MR} (hC : pu_C sh mr) {R t w : Nat} {G : ho_G} (hr : xr_ok mi mr R G t w) {k h : Nat} {a b : Nat → Nat} (hk : xm_M k) (ha : xm_ok mi k a) {q : Nat} (hq : xm_M q) (hb : xm_ok mi q b) (hh : h < 12) : EvM (d + 4) 22 [.ref R, .ref k, .ref q, .int (nI h)] sh mi mr (fun r sh2 m2 r2 => sh2 = sh ∧ (r = .int (pu_b (md_comp G t w a b h = 0 ∧ md_comp G t w b a h = 0)) ∧ r2 = mr ∧ sc_ (xS R) mi m2)) := by
  show Ev (d + 4) 22 0 [.ref R, .ref k, .ref q, .int (nI h)] [] sh mi mr _
  refine ev_s (is_aload_n rfl rfl) ?_
  refine ev_s (is_aload_n rfl rfl) ?_
  refine ev_s (is_aload_n rfl rfl) ?_
  refine ev_s (is_iload_n rfl rfl) ?_
  refine ev_q1 (is_callR 4 [_, _, _] [] rfl rfl rfl rfl rfl (Nat.le_of_ble_eq_true rfl) rfl rfl rfl (pu_R hC hr.1).1) rfl rfl (x_comp hC hr hk ha hq hb hh) (fun r_4 mi mr hq_4 => ?_)
  obtain ⟨rfl, hmr, hsc⟩ := hq_4
  have hmr := hmr.symm
  subst hmr
  have hc1 := md_comp_le G t w a b h ha.2.2.2.2.2.2.1
  first
    | refine ev_ifN_ne rfl (by omega) (fun h_7 => ?_) (fun h_7 => ?_)
    | refine ev_if_ne rfl (fun h_7 => ?_) (fun h_7 => ?_)
  · refine ev_s (is_iconst (nI 0) rfl rfl) ?_
    refine ev_ret (is_ireturn rfl rfl (by first | rfl | exact pu_b_nar | decide)) ?_
    first
      | exact ⟨rfl, pu_b_t ⟨h_7, h_17⟩, rfl, hsc⟩
      | exact ⟨rfl, pu_b_f (fun q => h_17 q.2), rfl, hsc⟩
      | exact ⟨rfl, pu_b_f (fun q => h_7 q.1), rfl, hsc⟩
  · refine ev_s (is_aload_n rfl rfl) ?_
    refine ev_s (is_aload_n rfl rfl) ?_
    refine ev_s (is_aload_n rfl rfl) ?_
    refine ev_s (is_iload_n rfl rfl) ?_
    refine ev_q1 (is_callR 4 [_, _, _] [] rfl rfl rfl rfl rfl (Nat.le_of_ble_eq_true rfl) rfl rfl rfl (pu_R hC hr.1).1) rfl rfl (x_comp hC (xr_sc hr hr.1 hsc) hq (xm_sc hq hb hr.1 hsc) hk (xm_sc hk ha hr.1 hsc) hh) (fun r_14 mi mr hq_14 => ?_)
    obtain ⟨rfl, hmr, hsc2⟩ := hq_14
    have hmr := hmr.symm
    subst hmr
    have hsc := hsc.trans hsc2
    have hc2 := md_comp_le G t w b a h hb.2.2.2.2.2.2.1
    first
      | refine ev_ifN_ne rfl (by omega) (fun h_17 => ?_) (fun h_17 => ?_)
      | refine ev_if_ne rfl (fun h_17 => ?_) (fun h_17 => ?_)
    · refine ev_s (is_iconst (nI 0) rfl rfl) ?_
      refine ev_ret (is_ireturn rfl rfl (by first | rfl | exact pu_b_nar | decide)) ?_
      first
        | exact ⟨rfl, pu_b_t ⟨h_7, h_17⟩, rfl, hsc⟩
        | exact ⟨rfl, pu_b_f (fun q => h_17 q.2), rfl, hsc⟩
        | exact ⟨rfl, pu_b_f (fun q => h_7 q.1), rfl, hsc⟩
    · refine ev_s (is_iconst (nI 1) rfl rfl) ?_
      refine ev_s (is_goto rfl) ?_
      refine ev_ret (is_ireturn rfl rfl (by first | rfl | exact pu_b_nar | decide)) ?_
      first
        | exact ⟨rfl, pu_b_t ⟨h_7, h_17⟩, rfl, hsc⟩
        | exact ⟨rfl, pu_b_f (fun q => h_17 q.2), rfl, hsc⟩
        | exact ⟨rfl, pu_b_f (fun q => h_7 q.1), rfl, hsc⟩

theorem x_quietN {d : Nat} {sh : im_Sh} {mi : im_MI} {mr : im_MR} (hC : pu_C sh mr) {R t w : Nat} {G : ho_G} (hr : xr_ok mi mr R G t w) {k h : Nat} : EvM (d + 4) 22 [.ref R, .ref k, .null, .int (nI h)] sh mi mr (fun r sh2 m2 r2 => sh2 = sh ∧ (r = .int (pu_b (True)) ∧ r2 = mr ∧ sc_ (xS R) mi m2)) := by
  show Ev (d + 4) 22 0 [.ref R, .ref k, .null, .int (nI h)] [] sh mi mr _
  first
    | refine ev_s (is_aload_n rfl rfl) ?_
    | refine ev_s (is_aload_nN rfl rfl) ?_
  first
    | refine ev_s (is_aload_n rfl rfl) ?_
    | refine ev_s (is_aload_nN rfl rfl) ?_
  first
    | refine ev_s (is_aload_n rfl rfl) ?_
    | refine ev_s (is_aload_nN rfl rfl) ?_
  refine ev_s (is_iload_n rfl rfl) ?_
  refine ev_c1 (is_callR 4 [_, _, _] [] rfl rfl rfl rfl rfl (Nat.le_of_ble_eq_true rfl) rfl rfl rfl (pu_R hC hr.1).1) rfl rfl (x_compN) ?_
  refine ev_s (is_if_ne_f rfl (fun q => q rfl)) ?_
  first
    | refine ev_s (is_aload_n rfl rfl) ?_
    | refine ev_s (is_aload_nN rfl rfl) ?_
  first
    | refine ev_s (is_aload_n rfl rfl) ?_
    | refine ev_s (is_aload_nN rfl rfl) ?_
  first
    | refine ev_s (is_aload_n rfl rfl) ?_
    | refine ev_s (is_aload_nN rfl rfl) ?_
  refine ev_s (is_iload_n rfl rfl) ?_
  refine ev_c1 (is_callR 4 [_, _, _] [] rfl rfl rfl rfl rfl (Nat.le_of_ble_eq_true rfl) rfl rfl rfl (pu_R hC hr.1).1) rfl rfl (x_compN2) ?_
  refine ev_s (is_if_ne_f rfl (fun q => q rfl)) ?_
  refine ev_s (is_iconst (nI 1) rfl rfl) ?_
  refine ev_s (is_goto rfl) ?_
  refine ev_ret (is_ireturn rfl rfl (by first | rfl | exact pu_b_nar | decide)) ?_
  exact ⟨rfl, pu_b_t trivial, rfl, sc_rf⟩

theorem x_quietO {d : Nat} {sh : im_Sh} {mi : im_MI} {mr : im_MR} (hC : pu_C sh mr) {R t w : Nat} {G : ho_G} (hr : xr_ok mi mr R G t w) {k h : Nat} {a b : Nat → Nat} (hk : xm_M k) (ha : xm_ok mi k a) {o : Option Nat} (ho : xo_ok mi o b) (hh : h < 12) : EvM (d + 4) 22 [.ref R, .ref k, xoc o, .int (nI h)] sh mi mr (fun r sh2 m2 r2 => sh2 = sh ∧ (r = .int (pu_b (md_quietO G t w a o b h = true)) ∧ r2 = mr ∧ sc_ (xS R) mi m2)) := by
  cases o with
  | none => exact ev_imp (x_quietN hC hr) (fun r s m r2 hq => by obtain ⟨rfl, rfl, rfl, hs⟩ := hq; exact ⟨rfl, by simp [md_quietO], rfl, hs⟩)
  | some q => exact ev_imp (x_quiet hC hr hk ha (ho q rfl).1 (ho q rfl).2 hh) (fun r s m r2 hq => by obtain ⟨rfl, rfl, rfl, hs⟩ := hq; exact ⟨rfl, by simp [md_quietO, pu_b], rfl, hs⟩)

section
variable {H : ho_T} {G : ho_G} {mi : im_MI} {mr : im_MR} {m : Nat}
theorem xa_kind (hx : xa_ok H G mi mr) (hm : m < H 0 0) : mi (54 + 4 * m) 0 = nI (H 1 m) := (xa_m hx hm).1
theorem xa_more (hx : xa_ok H G mi mr) (hm : m < H 0 0) : mi (54 + 4 * m) 1 = nI (H 2 m) := (xa_m hx hm).2.1
theorem xa_term (hx : xa_ok H G mi mr) (hm : m < H 0 0) : mi (54 + 4 * m) 2 = nI (H (10 + m) 12) := (xa_m hx hm).2.2.1
theorem xa_pl (hx : xa_ok H G mi mr) (hm : m < H 0 0) : mi (54 + 4 * m) 3 = nI (H (10 + m) 13) := (xa_m hx hm).2.2.2.1
theorem xa_do (hx : xa_ok H G mi mr) (hm : m < H 0 0) {h : Nat} (hh : h < 12) : mi (54 + 4 * m + 1) h = nI (H (10 + m) h) := by
  have := (xa_m hx hm).2.2.2.2.1 h hh
  rw [this, ho_row, if_neg (by omega), if_neg (by omega)]
end

theorem x_noMan {d : Nat} {sh : im_Sh} {mi : im_MI} {mr : im_MR} (hC : pu_C sh mr) {H : ho_T} {G : ho_G} (hx : xa_ok H G mi mr) (m : Int32) : EvM (d + 1) 108 [.ref 29, .int m] sh mi mr (ev_R sh (.int (pu_b (¬ (nI 0 ≤ m ∧ m ≤ nI (H 0 0) - nI 1)))) mi mr) := by
  show Ev (d + 1) 108 0 [.ref 29, .int m] [] sh mi mr _
  refine ev_s (is_iload_n rfl rfl) ?_
  refine ev_s (is_iconst (nI 0) rfl rfl) ?_
  refine ev_s (is_aload_n rfl rfl) ?_
  refine ev_s (is_getI' rfl (pu_s hC 29 rfl rfl) rfl rfl hx.1) ?_
  refine ev_s (is_iconst (nI 1) rfl rfl) ?_
  first
    | refine ev_s (is_isub _ rfl (pk_sub (by omega))) ?_
    | refine ev_s (is_isub _ rfl rfl) ?_
  refine ev_c1 (is_call0 3 [_, _, _] [] rfl rfl rfl rfl rfl (Nat.le_of_ble_eq_true rfl) rfl rfl rfl) rfl rfl (x_within _ _ _) ?_
  refine ev_ifB_ne rfl (fun h_11 => ?_) (fun h_11 => ?_)
  · refine ev_s (is_iconst (nI 0) rfl rfl) ?_
    refine ev_ret (is_ireturn rfl rfl (by first | rfl | exact pu_b_nar | decide)) ?_
    first
      | exact ⟨pu_b_f (fun q => q h_11), rfl, rfl, rfl⟩
      | exact ⟨pu_b_t h_11, rfl, rfl, rfl⟩
  · refine ev_s (is_iconst (nI 1) rfl rfl) ?_
    refine ev_s (is_goto rfl) ?_
    refine ev_ret (is_ireturn rfl rfl (by first | rfl | exact pu_b_nar | decide)) ?_
    first
      | exact ⟨pu_b_f (fun q => q h_11), rfl, rfl, rfl⟩
      | exact ⟨pu_b_t h_11, rfl, rfl, rfl⟩

theorem x_mateN {d : Nat} {sh : im_Sh} {mi : im_MI} {mr : im_MR} (hC : pu_C sh mr) {H : ho_T} {G : ho_G} (hx : xa_ok H G mi mr) {m : Nat} (hm : m < H 0 0) : EvM (d) 110 [.ref 29, .int (nI m)] sh mi mr (ev_R sh (.int (pu_o (ho_mate H m))) mi mr) := by
  show Ev (d) 110 0 [.ref 29, .int (nI m), im_bad] [] sh mi mr _
  have hn6 := xa_n hx
  have loop : ∀ (j i : Nat), i + j = H 0 0 → Ev (d) 110 2 [.ref 29, .int (nI m), .int (nI i)] [] sh mi mr (ev_R sh (.int (pu_o (lo_find (fun o => decide (H (10 + o) 13 = H (10 + m) 13 ^^^ 1)) j i))) mi mr) := by
    intro j
    induction j with
    | zero =>
      intro i hi
      refine ev_s (is_iload_n rfl rfl) ?_
      refine ev_s (is_aload_n rfl rfl) ?_
      refine ev_s (is_getI' rfl (pu_s hC 29 rfl rfl) rfl rfl hx.1) ?_
      refine ev_s (is_icmp_ge_t rfl (nI_le (by omega) (by omega))) ?_
      refine ev_s (is_iconst ((-1)) rfl rfl) ?_
      refine ev_ret (is_ireturn rfl rfl (by first | rfl | exact pu_b_nar | decide)) ?_
      exact ⟨rfl, rfl, rfl, rfl⟩
    | succ j ih =>
      intro i hi
      refine ev_s (is_iload_n rfl rfl) ?_
      refine ev_s (is_aload_n rfl rfl) ?_
      refine ev_s (is_getI' rfl (pu_s hC 29 rfl rfl) rfl rfl hx.1) ?_
      refine ev_s (is_icmp_ge_f rfl (nI_ge (by omega) (by omega))) ?_
      refine ev_s (is_aload_n rfl rfl) ?_
      refine ev_s (is_getR rfl (pu_s hC 29 rfl rfl) rfl rfl (pu_r hC 29 0 rfl rfl)) ?_
      refine ev_s (is_iload_n rfl rfl) ?_
      refine ev_s (is_aaload (k := 1) (i) rfl (pu_s hC 30 rfl rfl) rfl rfl rfl (by omega) (pu_rows hC (by omega)).1) ?_
      refine ev_s (is_getI' rfl (pu_M hC (xm_Mi (m := i) (by omega))).1 rfl rfl (xa_pl hx (by omega))) ?_
      refine ev_s (is_aload_n rfl rfl) ?_
      refine ev_s (is_getR rfl (pu_s hC 29 rfl rfl) rfl rfl (pu_r hC 29 0 rfl rfl)) ?_
      refine ev_s (is_iload_n rfl rfl) ?_
      refine ev_s (is_aaload (k := 1) (m) rfl (pu_s hC 30 rfl rfl) rfl rfl rfl (by omega) (pu_rows hC (by omega)).1) ?_
      refine ev_s (is_getI' rfl (pu_M hC (xm_Mi (m := m) (by omega))).1 rfl rfl (xa_pl hx (by omega))) ?_
      refine ev_s (is_iconst (nI 1) rfl rfl) ?_
      refine ev_s (is_ixor _ rfl (nI_xor _ _)) ?_
      have hb1 := (xa_bd hx).2.2.2.2.2.2.2.2.2 i
      have hb2 := (xa_bd hx).2.2.2.2.2.2.2.2.2 m
      have hxl : H (10 + m) 13 ^^^ 1 < 2 ^ 10 := Nat.xor_lt_two_pow (by omega) (by decide)
      refine ev_icmpN_ne rfl (by omega) (by omega) (fun h_30 => ?_) (fun h_30 => ?_)
      · refine ev_s (st_iinc_2 _ rfl rfl (nI_inc _)) ?_
        refine ev_s (is_goto rfl) ?_
        rw [lo_find_f (by simpa using h_30)]
        exact ih (i + 1) (by omega)
      · refine ev_s (is_iload_n rfl rfl) ?_
        refine ev_ret (is_ireturn rfl rfl (by first | rfl | exact pu_b_nar | decide)) ?_
        exact ⟨by rw [lo_find_t (by simpa using h_30)]; rfl, rfl, rfl, rfl⟩
  refine ev_s (is_iconst (nI 0) rfl rfl) ?_
  refine ev_s (st_istore_n_2 rfl rfl) ?_
  exact loop (H 0 0) 0 (by omega)

theorem x_mate {d : Nat} {sh : im_Sh} {mi : im_MI} {mr : im_MR} (hC : pu_C sh mr) {H : ho_T} {G : ho_G} (hx : xa_ok H G mi mr) {m : Nat} (hm : m < H 0 0) : EvM (d + 1) 111 [.ref 29, .int (nI m)] sh mi mr (ev_R sh (xoc (ho_mcell H m)) mi mr) := by
  show Ev (d + 1) 111 0 [.ref 29, .int (nI m), im_bad] [] sh mi mr _
  have hn6 := xa_n hx
  refine ev_s (is_aload_n rfl rfl) ?_
  refine ev_s (is_iload_n rfl rfl) ?_
  refine ev_c1 (is_callR 2 [_] [] rfl rfl rfl rfl rfl (Nat.le_of_ble_eq_true rfl) rfl rfl rfl (pu_s hC 29 rfl rfl)) rfl rfl (x_mateN hC hx hm) ?_
  unfold ho_mcell
  cases e : ho_mate H m with
  | none =>
    show Ev _ _ _ _ [.int (-1)] _ _ _ _
    refine ev_s (st_istore_n_2 rfl rfl) ?_
    refine ev_s (is_iload_n rfl rfl) ?_
    refine ev_s (is_if_ge_f rfl (by decide)) ?_
    refine ev_s (is_null rfl) ?_
    refine ev_s (is_goto rfl) ?_
    refine ev_ret (is_areturnN rfl) ?_
    exact ⟨rfl, rfl, rfl, rfl⟩
  | some q =>
    have hq := ho_mate_lt e
    show Ev _ _ _ _ [.int (nI q)] _ _ _ _
    refine ev_s (st_istore_n_2 rfl rfl) ?_
    refine ev_s (is_iload_n rfl rfl) ?_
    refine ev_s (is_if_ge_t rfl (nI_pos' (by omega))) ?_
    refine ev_s (is_aload_n rfl rfl) ?_
    refine ev_s (is_getR rfl (pu_s hC 29 rfl rfl) rfl rfl (pu_r hC 29 0 rfl rfl)) ?_
    refine ev_s (is_iload_n rfl rfl) ?_
    refine ev_s (is_aaload (k := 1) (q) rfl (pu_s hC 30 rfl rfl) rfl rfl rfl (by omega) (pu_rows hC (by omega)).1) ?_
    refine ev_ret (is_areturn rfl) ?_
    exact ⟨rfl, rfl, rfl, rfl⟩

def xM2 (k c : Nat) : Bool := decide (c = k ∨ c = k + 1)

theorem x_become {d : Nat} {sh : im_Sh} {mi : im_MI} {mr : im_MR} (hC : pu_C sh mr) {k q : Nat} {a : Nat → Nat} (hk : xm_M k) (hq : xm_M q) (ha : xm_ok mi q a) (hne : q ≠ k) (hne2 : q + 1 ≠ k) (hne3 : q ≠ k + 1) : EvM (d) 8 [.ref k, .ref q] sh mi mr (fun r sh2 m2 r2 => sh2 = sh ∧ (r2 = mr ∧ sc_ (xM2 k) mi m2 ∧ xm_ok m2 k a)) := by
  show Ev (d) 8 0 [.ref k, .ref q] [] sh mi mr _
  refine ev_s (is_aload_n rfl rfl) ?_
  refine ev_s (is_aload_n rfl rfl) ?_
  refine ev_s (is_getI' rfl (pu_M hC hq).1 rfl rfl ha.1) ?_
  refine ev_s (is_putI rfl (pu_M hC hk).1 rfl rfl rfl) ?_
  refine ev_s (is_aload_n rfl rfl) ?_
  refine ev_s (is_aload_n rfl rfl) ?_
  refine ev_s (is_getI' rfl (pu_M hC hq).1 rfl rfl ((im_u_k _ _ _ _ hne).trans ha.2.1)) ?_
  refine ev_s (is_putI rfl (pu_M hC hk).1 rfl rfl rfl) ?_
  refine ev_s (is_aload_n rfl rfl) ?_
  refine ev_s (is_aload_n rfl rfl) ?_
  refine ev_s (is_getI' rfl (pu_M hC hq).1 rfl rfl ((im_u_k _ _ _ _ hne).trans ((im_u_k _ _ _ _ hne).trans ha.2.2.1))) ?_
  refine ev_s (is_putI rfl (pu_M hC hk).1 rfl rfl rfl) ?_
  refine ev_s (is_aload_n rfl rfl) ?_
  refine ev_s (is_aload_n rfl rfl) ?_
  refine ev_s (is_getI' rfl (pu_M hC hq).1 rfl rfl ((im_u_k _ _ _ _ hne).trans ((im_u_k _ _ _ _ hne).trans ((im_u_k _ _ _ _ hne).trans ha.2.2.2.1)))) ?_
  refine ev_s (is_putI rfl (pu_M hC hk).1 rfl rfl rfl) ?_
  refine ev_s (is_aload_n rfl rfl) ?_
  refine ev_s (is_getR rfl (pu_M hC hq).1 rfl rfl (pu_M hC hq).2.2) ?_
  refine ev_s (is_iconst (nI 0) rfl rfl) ?_
  refine ev_s (is_aload_n rfl rfl) ?_
  refine ev_s (is_getR rfl (pu_M hC hk).1 rfl rfl (pu_M hC hk).2.2) ?_
  refine ev_s (is_iconst (nI 0) rfl rfl) ?_
  refine ev_s (is_bipush (nI 12) rfl rfl) ?_
  refine ev_s (is_acopy 12 0 0 rfl (pu_M hC hq).2.1 (pu_M hC hk).2.1 rfl rfl rfl rfl rfl (by decide) (by decide) (by decide)) ?_
  refine ev_ret (is_return rfl) ?_
  refine ⟨rfl, rfl, ?_, ?_⟩
  · intro c hc
    have := of_decide_eq_false hc
    rw [im_row_ne _ _ _ (by omega)]
    have e : ∀ (f : im_MI) (j : Nat) (v : Int32), im_u f k j v c = f c := fun f j v => im_u_row' (by omega)
    rw [e, e, e, e]
  · have e0 : ∀ (f g : im_MI) (h : Nat → Int32), im_row f (k + 1) h k = f k := fun f g h => im_row_ne _ _ _ (by omega)
    refine ⟨?_, ?_, ?_, ?_, ?_, ha.2.2.2.2.2⟩
    · rw [e0 _ mi]; simp [im_u]
    · rw [e0 _ mi]; simp [im_u]
    · rw [e0 _ mi]; simp [im_u]
    · rw [e0 _ mi]; simp [im_u]
    · intro j hj
      rw [im_row_eq, pk_cpy_in (by omega) (by omega)]
      have e : ∀ (f : im_MI) (i j : Nat) (v : Int32), im_u f k i v (q + 1) j = f (q + 1) j := fun f i j v => im_u_k _ _ _ _ (by omega)
      rw [e, e, e, e, show 0 + (j - 0) = j by omega]
      exact ha.2.2.2.2.1 j hj

theorem x_thought {d : Nat} {sh : im_Sh} {mi : im_MI} {mr : im_MR} (hC : pu_C sh mr) {H : ho_T} {G : ho_G} (hx : xa_ok H G mi mr) {m : Nat} (hm : m < H 0 0) : EvM (d + 1) 112 [.ref 29, .int (nI m)] sh mi mr (fun r sh2 m2 r2 => sh2 = sh ∧ (r = .ref (56 + 4 * m) ∧ r2 = mr ∧ sc_ (xM2 (56 + 4 * m)) mi m2 ∧ xm_ok m2 (56 + 4 * m) (ho_row H m))) := by
  show Ev (d + 1) 112 0 [.ref 29, .int (nI m)] [] sh mi mr _
  have hn6 := xa_n hx
  refine ev_s (is_aload_n rfl rfl) ?_
  refine ev_s (is_getR rfl (pu_s hC 29 rfl rfl) rfl rfl (pu_r hC 29 1 rfl rfl)) ?_
  refine ev_s (is_iload_n rfl rfl) ?_
  refine ev_s (is_aaload (k := 1) (m) rfl (pu_s hC 31 rfl rfl) rfl rfl rfl (by omega) (pu_rows hC (by omega)).2.1) ?_
  refine ev_s (is_aload_n rfl rfl) ?_
  refine ev_s (is_getR rfl (pu_s hC 29 rfl rfl) rfl rfl (pu_r hC 29 0 rfl rfl)) ?_
  refine ev_s (is_iload_n rfl rfl) ?_
  refine ev_s (is_aaload (k := 1) (m) rfl (pu_s hC 30 rfl rfl) rfl rfl rfl (by omega) (pu_rows hC (by omega)).1) ?_
  refine ev_q0 (is_callR 2 [_] [] rfl rfl rfl rfl rfl (Nat.le_of_ble_eq_true rfl) rfl rfl rfl (pu_M hC (xm_Mt (m := m) (by omega))).1) rfl rfl (x_become hC (xm_Mt (m := m) (by omega)) (xm_Mi (m := m) (by omega)) (xa_m hx hm) (by omega) (by omega) (by omega)) (fun r_12 mi mr hq_12 => ?_)
  obtain ⟨hmr, hsc, hok⟩ := hq_12
  have hmr := hmr.symm
  subst hmr
  refine ev_s (is_aload_n rfl rfl) ?_
  refine ev_s (is_getR rfl (pu_s hC 29 rfl rfl) rfl rfl (pu_r hC 29 1 rfl rfl)) ?_
  refine ev_s (is_iload_n rfl rfl) ?_
  refine ev_s (is_aaload (k := 1) (m) rfl (pu_s hC 31 rfl rfl) rfl rfl rfl (by omega) (pu_rows hC (by omega)).2.1) ?_
  refine ev_ret (is_areturn rfl) ?_
  exact ⟨rfl, rfl, rfl, hsc, hok⟩

theorem xM2_xQ {m : Nat} (hm : m < 6) (k : Nat) (h : xM2 (56 + 4 * m) k = true) : xQ k = true := by
  have := of_decide_eq_true h
  exact xQ_t (by omega)
theorem xm_at {mi : im_MI} {k h v : Nat} {a : Nat → Nat} (ha : xm_ok mi k a) (hh : h < 12) (hv : v < 6) : xm_ok (im_u mi (k + 1) h (nI v)) k (ho_at a h v) := by
  obtain ⟨h1, h2, h3, h4, h5, h6, h7, h8, h9, h10⟩ := ha
  have e : ∀ j, im_u mi (k + 1) h (nI v) k j = mi k j := fun j => im_u_k _ _ _ _ (by omega)
  have e2 : ∀ j, 12 ≤ j → ho_at a h v j = a j := fun j hj => if_neg (by omega)
  refine ⟨by rw [e, e2 14 (by decide)]; exact h1, by rw [e, e2 15 (by decide)]; exact h2, by rw [e, e2 12 (by decide)]; exact h3, by rw [e, e2 13 (by decide)]; exact h4, fun j hj => ?_, by rw [e2 14 (by decide)]; exact h6, by rw [e2 15 (by decide)]; exact h7, by rw [e2 12 (by decide)]; exact h8, by rw [e2 13 (by decide)]; exact h9, fun j hj => ?_⟩
  · by_cases hq : j = h
    · subst hq
      rw [im_u_s, ho_at, if_pos rfl]
    · rw [im_u_j _ _ _ _ hq, ho_at, if_neg hq]
      exact h5 j hj
  · unfold ho_at
    split
    · exact hv
    · exact h10 j hj

theorem x_dOther {d : Nat} {sh : im_Sh} {mi : im_MI} {mr : im_MR} (hC : pu_C sh mr) {H : ho_T} {G : ho_G} (hx : xa_ok H G mi mr) {m h v : Nat} (hm : m < H 0 0) (hh : h < 12) (hv : v < 6) : EvM (d + 2) 113 [.ref 29, .int (nI m), .int (nI h), .int (nI v)] sh mi mr (fun r sh2 m2 r2 => sh2 = sh ∧ (r = .ref (56 + 4 * m) ∧ r2 = mr ∧ sc_ (xM2 (56 + 4 * m)) mi m2 ∧ xm_ok m2 (56 + 4 * m) (ho_at (ho_row H m) h v))) := by
  show Ev (d + 2) 113 0 [.ref 29, .int (nI m), .int (nI h), .int (nI v), im_bad] [] sh mi mr _
  have hn6 := xa_n hx
  refine ev_s (is_aload_n rfl rfl) ?_
  refine ev_s (is_iload_n rfl rfl) ?_
  refine ev_q1 (is_callR 2 [_] [] rfl rfl rfl rfl rfl (Nat.le_of_ble_eq_true rfl) rfl rfl rfl (pu_s hC 29 rfl rfl)) rfl rfl (x_thought hC hx hm) (fun r_2 mi mr hq_2 => ?_)
  obtain ⟨rfl, hmr, hsc, hok⟩ := hq_2
  have hmr := hmr.symm
  subst hmr
  refine ev_s (st_astore_4 rfl rfl) ?_
  refine ev_s (is_aload rfl rfl) ?_
  refine ev_s (is_getR rfl (pu_M hC (xm_Mt (m := m) (by omega))).1 rfl rfl (pu_M hC (xm_Mt (m := m) (by omega))).2.2) ?_
  refine ev_s (is_iload_n rfl rfl) ?_
  refine ev_s (is_iload_n rfl rfl) ?_
  refine ev_s (is_iastore (h) rfl ((pu_M hC (xm_Mt (m := m) (by omega))).2.1) rfl rfl hh) ?_
  refine ev_s (is_aload rfl rfl) ?_
  refine ev_ret (is_areturn rfl) ?_
  exact ⟨rfl, rfl, rfl, hsc.u (decide_eq_true (Or.inr rfl)), xm_at hok hh hv⟩
