/-! ===== PURE: text: what both answer; the class ===== -/
/-- the tape read as a text -/
def tx_ (H K : ho_T) : pd_T := rdT (tk_k (K 6) (H 0 4)) (tk_v (K 6) (H 0 4)) (tk_f (K 6) (H 0 4)) (tk_t (K 6) (H 0 4)) 3 0
def an_text (H K : ho_T) : Int32 := if 6 ≤ H 0 2 then -4 else match tx_ H K with
  | .inl f => (-100) - nI f
  | .inr _ => nI (H 0 2)
def st_textH (H K : ho_T) : ho_T := if 6 ≤ H 0 2 then H else match tx_ H K with
  | .inl _ => ho_set H 0 4 0
  | .inr _ => ho_set (ho_set H 0 4 0) 0 2 (H 0 2 + 1)
def st_textG (H K : ho_T) (G : ho_G) : ho_G := if 6 ≤ H 0 2 then G else match tx_ H K with
  | .inl _ => G
  | .inr l => fun t p => if t = H 0 2 then l.getD p [] else G t p
/-- the words' letters -/
def xs_W (mi : im_MI) : Prop := ∀ w, w < 12 → mi (4 + w) 1 = nI 0 ∧ ∀ j, j < (wl_ w).length → mi (17 + w) j = nI ((wl_ w).getD j 0)
theorem xs_W_row {mi m2 : im_MI} (h : xs_W mi) (e : ∀ k, k < 29 → m2 k = mi k) : xs_W m2 := fun w hw => by
  rw [e _ (by omega), e _ (by omega)]; exact h w hw
theorem pu_xsD {sh : im_Sh} {mr : im_MR} (hC : pu_C sh mr) {t : Nat} (ht : t < 6) : xs_D sh mr t := by
  obtain ⟨h1, h2, h3, h4, h5⟩ := pu_T hC ht
  refine ⟨⟨pu_s hC 33 rfl rfl, pu_r hC 33 0 rfl rfl⟩, pu_s hC 34 rfl rfl, pu_s hC 35 rfl rfl, ⟨h1, h4, h5⟩, h2, h3, fun w hw => ?_⟩
  rcases (show w = 0 ∨ w = 1 ∨ w = 2 ∨ w = 3 ∨ w = 4 ∨ w = 5 ∨ w = 6 ∨ w = 7 ∨ w = 8 ∨ w = 9 ∨ w = 10 ∨ w = 11 by omega) with rfl | rfl | rfl | rfl | rfl | rfl | rfl | rfl | rfl | rfl | rfl | rfl <;> exact ⟨pu_s hC _ rfl rfl, pu_s hC _ rfl rfl, pu_r hC _ _ rfl rfl⟩
theorem xs_M_x {H K : ho_T} {G : ho_G} {mi : im_MI} {mr : im_MR} (hx : xa_ok H G mi mr) (hz : xh_ok H K mi) (hW : xs_W mi) : xs_M mi (K 6) (H 0 4) := ⟨hz.2.1, hz.2.2.1, (xa_bd hx).2.2.2.2.1, hz.2.2.2.2.2.2.2.2.1, hW⟩
theorem xt_G {mi : im_MI} {G G2 : ho_G} {t : Nat} (h : xt_ok mi G t) (e : G2 t = G t) : xt_ok mi G2 t := by
  unfold xt_ok te_at at h ⊢
  rw [e]
  exact h
theorem pu_C_35 {sh : im_Sh} {mr : im_MR} (hC : pu_C sh mr) (a b : Option Nat) : pu_C sh (im_u (im_u mr 35 0 a) 35 1 b) := by
  refine ⟨hC.1, hC.2.1, fun k j hk => ?_⟩
  by_cases c : k = 35
  · subst c
    by_cases c0 : j = 0
    · subst c0; cases hk
    · by_cases c1 : j = 1
      · subst c1; cases hk
      · rw [im_u_j _ _ _ _ c1, im_u_j _ _ _ _ c0]; exact hC.2.2 35 j hk
  · rw [im_u_k _ _ _ _ c, im_u_k _ _ _ _ c]; exact hC.2.2 k j hk
theorem ho_bd_02 {H : ho_T} (h : ho_bd H) {v : Nat} (h1 : H 0 2 ≤ v) (h2 : v ≤ 6) : ho_bd (ho_set H 0 2 v) := by
  have e1 : ∀ i j, i ≠ 0 → ho_set H 0 2 v i j = H i j := fun i j hi => ho_set_i _ _ _ _ hi _
  have e2 : ∀ j, j ≠ 2 → ho_set H 0 2 v 0 j = H 0 j := fun j hj => ho_set_j _ _ _ _ hj _
  obtain ⟨b1, b2, b3, b4, b5, b6, b7, b8, b9, b10⟩ := h
  exact ⟨by rw [e2 0 (by decide)]; exact b1, by rw [e2 1 (by decide)]; exact b2, by rw [ho_set_s]; exact h2, by rw [e2 3 (by decide), ho_set_s]; omega, by rw [e2 4 (by decide)]; exact b5, fun m => by rw [e1 1 _ (by decide)]; exact b6 m, fun m => by rw [e1 2 _ (by decide)]; exact b7 m, fun m k hk => by rw [e1 _ _ (by omega)]; exact b8 m k hk, fun m => by rw [e1 _ _ (by omega)]; exact b9 m, fun m => by rw [e1 _ _ (by omega)]; exact b10 m⟩
/-- the state behind text: c more -/
def tx_H (H : ho_T) (c : Nat) : ho_T := ho_set (ho_set H 0 4 0) 0 2 (H 0 2 + c)
theorem tx_H0 (H : ho_T) : tx_H H 0 = ho_set H 0 4 0 := ho_set_sm (ho_set_j _ _ _ _ (by decide) _)
theorem tx_Hi (H : ho_T) (c : Nat) {i : Nat} (hi : i ≠ 0) : tx_H H c i = H i := by
  funext j
  unfold tx_H
  rw [ho_set_i _ _ _ _ hi, ho_set_i _ _ _ _ hi]
theorem tx_Hj (H : ho_T) (c : Nat) {j : Nat} (h2 : j ≠ 2) (h4 : j ≠ 4) : tx_H H c 0 j = H 0 j := by
  unfold tx_H
  rw [ho_set_j _ _ _ _ h2, ho_set_j _ _ _ _ h4]
theorem tx_H2 (H : ho_T) (c : Nat) : tx_H H c 0 2 = H 0 2 + c := ho_set_s _ _ _ _
theorem tx_H4 (H : ho_T) (c : Nat) : tx_H H c 0 4 = 0 := by
  unfold tx_H
  rw [ho_set_j _ _ _ _ (by decide), ho_set_s]
theorem tx_bd {H : ho_T} (h : ho_bd H) {c : Nat} (hc : H 0 2 + c ≤ 6) : ho_bd (tx_H H c) := ho_bd_02 (ho_bd_04 h (Nat.zero_le _)) (by rw [ho_set_j _ _ _ _ (by decide)]; omega) hc
theorem tx_iv {H : ho_T} (h : ho_iv H) (c : Nat) : ho_iv (tx_H H c) := by
  unfold ho_iv at h ⊢
  rw [tx_Hj H c (by decide) (by decide)]
  refine ⟨fun m hm => ?_, fun m q hm hq => ?_⟩
  · rw [tx_Hi H c (by omega)]; exact h.1 m hm
  · rw [tx_Hi H c (by omega), tx_Hi H c (by omega)]; exact h.2 m q hm hq
theorem tx_hb {H K : ho_T} (h : ho_hb H K) (c : Nat) : ho_hb (tx_H H c) K := by
  obtain ⟨h1, h2, h3, h4, h5, h6⟩ := h
  refine ⟨h1, h2, h3, h4, h5, fun hi => ?_⟩
  obtain ⟨q1, q2, q3, q4⟩ := h6 hi
  exact ⟨by rw [tx_Hj H c (by decide) (by decide)]; exact q1, q2, by rw [tx_H2]; omega, q4⟩
theorem xa_text {H : ho_T} {G G2 : ho_G} {mi m2 : im_MI} {mr r2 : im_MR} (h : xa_ok H G mi mr) {c : Nat} (hc : H 0 2 + c ≤ 6) (hc1 : c ≤ 1) (e : ∀ k, k ≠ 33 → k ≠ 29 → k ≠ 35 → (k < 78 + 3 * H 0 2 ∨ 80 + 3 * H 0 2 < k) → m2 k = mi k) (e29 : ∀ j, j ≠ 6 → m2 29 j = mi 29 j) (e6 : m2 29 6 = nI (H 0 2 + c)) (hr : r2 104 0 = mr 104 0) (hG : ∀ t, t < H 0 2 → G2 t = G t) (hn : c = 1 → xt_ok m2 G2 (H 0 2)) : xa_ok (tx_H H c) G2 m2 r2 := by
  obtain ⟨h1, h2, h3, h4, h5, h6, h7, h8, h9⟩ := h
  have hn6 := h8.1
  have e3 : tx_H H c 0 3 = H 0 3 := tx_Hj H c (by decide) (by decide)
  refine ⟨by rw [e29 2 (by decide), tx_Hj H c (by decide) (by decide)]; exact h1, by rw [e6, tx_H2], by rw [e29 7 (by decide), e3]; exact h3, by rw [e 104 (by decide) (by decide) (by decide) (by omega), tx_Hj H c (by decide) (by decide)]; exact h4, by rw [hr, e3]; exact h5, fun m hm => ?_, fun t ht => ?_, tx_bd h8 hc, tx_iv h9 c⟩
  · rw [tx_Hj H c (by decide) (by decide)] at hm
    have er : ho_row (tx_H H c) m = ho_row H m := by
      funext j
      unfold ho_row
      rw [tx_Hi H c (by omega), tx_Hi H c (by omega), tx_Hi H c (by omega)]
    rw [er]
    exact xm_row (h6 m hm) (e _ (by omega) (by omega) (by omega) (by omega)) (e _ (by omega) (by omega) (by omega) (by omega))
  · rw [tx_H2] at ht
    by_cases q : t = H 0 2
    · subst q; exact hn (by omega)
    · exact xt_G (xt_row (h7 t (by omega)) (e _ (by omega) (by omega) (by omega) (by omega)) (e _ (by omega) (by omega) (by omega) (by omega))) (hG t (by omega))
theorem xh_text {H K : ho_T} {mi m2 : im_MI} (h : xh_ok H K mi) (hn6 : H 0 0 ≤ 6) (ht : H 0 2 < 6) (c : Nat) (e : ∀ k, k ≠ 33 → k ≠ 29 → k ≠ 35 → (k < 78 + 3 * H 0 2 ∨ 80 + 3 * H 0 2 < k) → m2 k = mi k) (e1 : m2 33 1 = nI 0) : xh_ok (tx_H H c) K m2 := by
  have hi6 := xh_i6 h hn6
  obtain ⟨g1, g2, g3, g4, g5, g6⟩ := h
  refine ⟨fun s hs => ?_, by rw [e1, tx_H4], fun j hj => by rw [tx_H4] at hj; omega, by rw [e 40 (by decide) (by decide) (by decide) (by omega)]; exact g4, fun hi => ?_, tx_hb g6 c⟩
  · rw [e _ (by omega) (by omega) (by omega) (by omega), e _ (by omega) (by omega) (by omega) (by omega)]; exact g1 s hs
  · have hi6 := hi6 hi
    obtain ⟨q1, q2, q3, q4⟩ := g5 hi
    rw [e 40 (by decide) (by decide) (by decide) (by omega)]
    refine ⟨q1, q2, q3, fun m hm => ?_⟩
    have er : ho_irow (tx_H H c) K m = ho_irow H K m := by
      funext j
      unfold ho_irow
      rw [tx_Hi H c (by omega), tx_Hi H c (by omega)]
    rw [er]
    exact xm_row (q4 m hm) (e _ (by omega) (by omega) (by omega) (by omega)) (e _ (by omega) (by omega) (by omega) (by omega))
theorem xf_u {t : Nat} {mi : im_MI} {l : List (List Nat)} (h : xf_ t mi l) {a b : Int32} : xf_ t (im_u (im_u mi 33 1 a) 29 6 b) l := by
  obtain ⟨h1, ⟨h2, h3⟩, h4, h5, h6⟩ := h
  have e : ∀ k, 78 ≤ k → im_u (im_u mi 33 1 a) 29 6 b k = mi k := fun k hk => by rw [im_u_row' (by omega), im_u_row' (by omega)]
  refine ⟨h1, ⟨by rw [e _ (by omega)]; exact h2, fun k hk => by rw [e _ (by omega)]; exact h3 k hk⟩, h4, fun k hk => by rw [e _ (by omega)]; exact h5 k hk, h6⟩
theorem x_text {d : Nat} {sh : im_Sh} {mi0 : im_MI} {mr0 : im_MR} (hC : pu_C sh mr0) {H K : ho_T} {G : ho_G} (hx : xa_ok H G mi0 mr0) (hz : xh_ok H K mi0) (hW : xs_W mi0) : EvM (d + 57) 68 [.ref 29] sh mi0 mr0 (fun r sh2 m2 r2 => sh2 = sh ∧ (r = .int (an_text H K) ∧ pu_C sh r2 ∧ xa_ok (st_textH H K) (st_textG H K G) m2 r2 ∧ xh_ok (st_textH H K) K m2 ∧ sc_ xAll mi0 m2)) := by
  show Ev (d + 57) 68 0 [.ref 29, im_bad] [] sh mi0 mr0 _
  have hn6 := xa_n hx
  have ht6 := (xa_bd hx).2.2.1
  unfold an_text st_textH st_textG
  by_cases h6 : 6 ≤ H 0 2
  · rw [if_pos h6, if_pos h6, if_pos h6]
    refine ev_s (is_aload_n rfl rfl) ?_
    refine ev_s (is_getI' rfl (pu_s hC 29 rfl rfl) rfl rfl hx.2.1) ?_
    refine ev_s (is_bipush (nI 6) rfl rfl) ?_
    refine ev_s (is_icmp_lt_f rfl (nI_nlt (by omega) (by omega))) ?_
    refine ev_s (is_bipush ((-4)) rfl rfl) ?_
    refine ev_ret (is_ireturn rfl rfl (by first | rfl | exact pu_b_nar | decide)) ?_
    exact ⟨rfl, rfl, hC, hx, hz, sc_rf⟩
  · rw [if_neg h6, if_neg h6, if_neg h6]
    refine ev_s (is_aload_n rfl rfl) ?_
    refine ev_s (is_getI' rfl (pu_s hC 29 rfl rfl) rfl rfl hx.2.1) ?_
    refine ev_s (is_bipush (nI 6) rfl rfl) ?_
    refine ev_s (is_icmp_lt_t rfl ((nI_ltI (by omega) (by omega)).mpr (by omega))) ?_
    refine ev_s (is_aload_n rfl rfl) ?_
    refine ev_s (is_getR rfl (pu_s hC 29 rfl rfl) rfl rfl (pu_r hC 29 9 rfl rfl)) ?_
    refine ev_s (is_aload_n rfl rfl) ?_
    refine ev_s (is_getR rfl (pu_s hC 29 rfl rfl) rfl rfl (pu_r hC 29 8 rfl rfl)) ?_
    refine ev_s (is_aload_n rfl rfl) ?_
    refine ev_s (is_getR rfl (pu_s hC 29 rfl rfl) rfl rfl (pu_r hC 29 5 rfl rfl)) ?_
    refine ev_s (is_aload_n rfl rfl) ?_
    refine ev_s (is_getI' rfl (pu_s hC 29 rfl rfl) rfl rfl hx.2.1) ?_
    refine ev_s (is_aaload (k := 6) (H 0 2) rfl (pu_s hC 32 rfl rfl) rfl rfl rfl (by omega) (pu_rows hC (by omega)).2.2.1) ?_
    refine ev_q1 (is_callR 3 [_, _] [] rfl rfl rfl rfl rfl (Nat.le_of_ble_eq_true rfl) rfl rfl rfl (pu_s hC 35 rfl rfl)) rfl rfl (xk_read (pu_xsD hC (by omega)) (xs_M_x hx hz hW)) (fun r_29 mi mr hq_29 => ?_)
    obtain ⟨rfl, hsc, hq⟩ := hq_29
    have hC2 := (pu_C_35 hC (some 33) (some (78 + 3 * H 0 2)))
    have eo : ∀ k, k ≠ 35 → (k < 78 + 3 * H 0 2 ∨ 80 + 3 * H 0 2 < k) → mi k = mi0 k := fun k q1 q2 => hsc k (xv_ne q1 q2)
    have e6 : mi 29 6 = nI (H 0 2) := by rw [eo 29 (by decide) (by omega)]; exact hx.2.1
    have hrr : im_u (im_u mr0 35 0 (some 33)) 35 1 (some (78 + 3 * H 0 2)) 104 0 = mr0 104 0 := by rw [im_u_k _ _ _ _ (by decide), im_u_k _ _ _ _ (by decide)]
    have hA : sc_ xAll mi0 mi := hsc.mono fun k hk => by
      have := of_decide_eq_true hk
      exact decide_eq_true (by omega)
    cases ht : tx_ H K with
    | inl f =>
      have hq2 : xR_Q (H 0 2) [] (tx_ H K) r_29 mi := hq
      rw [ht] at hq2
      obtain ⟨rfl, hf⟩ : r_29 = .int (nI f) ∧ f ≤ 160 := hq2
      show Ev _ _ _ _ _ _ _ _ (fun r sh2 m2 r2 => sh2 = sh ∧ (r = .int ((-100) - nI f) ∧ pu_C sh r2 ∧ xa_ok (ho_set H 0 4 0) (G) m2 r2 ∧ xh_ok (ho_set H 0 4 0) K m2 ∧ sc_ xAll mi0 m2))
      refine ev_s (st_istore_n_1 rfl rfl) ?_
      refine ev_s (is_aload_n rfl rfl) ?_
      refine ev_s (is_getR rfl (pu_s hC 29 rfl rfl) rfl rfl (pu_r hC2 29 8 rfl rfl)) ?_
      refine ev_s (is_iconst (nI 0) rfl rfl) ?_
      refine ev_s (is_putI rfl (pu_s hC 33 rfl rfl) rfl rfl rfl) ?_
      refine ev_s (is_iload_n rfl rfl) ?_
      refine ev_s (is_if_ge_t rfl (nI_le (a := 0) (by omega) (by omega))) ?_
      refine ev_s (is_bipush ((-100)) rfl rfl) ?_
      refine ev_s (is_iload_n rfl rfl) ?_
      refine ev_s (is_isub _ rfl rfl) ?_
      refine ev_ret (is_ireturn rfl rfl (by first | rfl | exact pu_b_nar | decide)) ?_
      refine ⟨rfl, rfl, hC2, ?_, ?_, hA.u rfl⟩
      · rw [← tx_H0]
        exact xa_text hx (by omega) (by omega) (fun k q1 q2 q3 q4 => by rw [im_u_row' q1]; exact eo k q3 q4) (fun j hj => by rw [im_u_k _ _ _ _ (by decide), eo 29 (by decide) (by omega)]) (by rw [im_u_k _ _ _ _ (by decide), e6]; rfl) hrr (fun t ht => rfl) (fun q => by omega)
      · rw [← tx_H0]
        exact xh_text hz hn6 (by omega) 0 (fun k q1 q2 q3 q4 => by rw [im_u_row' q1]; exact eo k q3 q4) (im_u_s _ _ _ _)
    | inr l =>
      have hq2 : xR_Q (H 0 2) [] (tx_ H K) r_29 mi := hq
      rw [ht] at hq2
      obtain ⟨rfl, hf⟩ : r_29 = .int (-1) ∧ xf_ (H 0 2) mi ([] ++ l) := hq2
      show Ev _ _ _ _ _ _ _ _ (fun r sh2 m2 r2 => sh2 = sh ∧ (r = .int (nI (H 0 2)) ∧ pu_C sh r2 ∧ xa_ok (tx_H H 1) (fun t p => if t = H 0 2 then l.getD p [] else G t p) m2 r2 ∧ xh_ok (tx_H H 1) K m2 ∧ sc_ xAll mi0 m2))
      refine ev_s (st_istore_n_1 rfl rfl) ?_
      refine ev_s (is_aload_n rfl rfl) ?_
      refine ev_s (is_getR rfl (pu_s hC 29 rfl rfl) rfl rfl (pu_r hC2 29 8 rfl rfl)) ?_
      refine ev_s (is_iconst (nI 0) rfl rfl) ?_
      refine ev_s (is_putI rfl (pu_s hC 33 rfl rfl) rfl rfl rfl) ?_
      refine ev_s (is_iload_n rfl rfl) ?_
      refine ev_s (is_if_ge_f rfl (by decide)) ?_
      refine ev_s (is_aload_n rfl rfl) ?_
      refine ev_s (is_dup rfl rfl) ?_
      refine ev_s (is_getI' rfl (pu_s hC 29 rfl rfl) rfl rfl ((im_u_k _ _ _ _ (by decide)).trans e6)) ?_
      refine ev_s (is_dup_x1 rfl rfl rfl) ?_
      refine ev_s (is_iconst (nI 1) rfl rfl) ?_
      first
        | refine ev_s (is_iadd _ rfl (nI_add _ _)) ?_
        | refine ev_s (is_iadd _ rfl rfl) ?_
      refine ev_s (is_putI rfl (pu_s hC 29 rfl rfl) rfl rfl rfl) ?_
      refine ev_s (is_goto rfl) ?_
      refine ev_ret (is_ireturn rfl rfl (by first | rfl | exact pu_b_nar | decide)) ?_
      refine ⟨rfl, rfl, hC2, ?_, ?_, (hA.u rfl).u rfl⟩
      · exact xa_text (c := 1) hx (by omega) (by omega) (fun k q1 q2 q3 q4 => by rw [im_u_row' q2, im_u_row' q1]; exact eo k q3 q4) (fun j hj => by rw [im_u_j _ _ _ _ hj, im_u_k _ _ _ _ (by decide), eo 29 (by decide) (by omega)]) (im_u_s _ _ _ _) hrr (fun t ht => by funext p; exact if_neg (by omega)) (fun _ => xf_xt (xf_u hf) (fun p _ => if_pos rfl))
      · exact xh_text hz hn6 (by omega) 1 (fun k q1 q2 q3 q4 => by rw [im_u_row' q2, im_u_row' q1]; exact eo k q3 q4) (by rw [im_u_k _ _ _ _ (by decide), im_u_s])
