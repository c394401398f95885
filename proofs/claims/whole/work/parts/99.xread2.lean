/-! ===== PURE, the class: a text is read, from the start; what it holds ===== -/
/-- the cells that the reader reaches, before it is told of them -/
def xs_D (sh : im_Sh) (mr : im_MR) (t : Nat) : Prop := (sh[33]? = some (5, 2) ∧ mr 33 0 = some 34) ∧ sh[34]? = some (101, 160) ∧ sh[35]? = some (7, 7) ∧ (sh[78 + 3 * t]? = some (6, 3) ∧ mr (78 + 3 * t) 0 = some (79 + 3 * t) ∧ mr (78 + 3 * t) 1 = some (80 + 3 * t)) ∧ sh[79 + 3 * t]? = some (100, 160) ∧ sh[80 + 3 * t]? = some (100, 3) ∧ ∀ w, w < 12 → sh[4 + w]? = some (20, 2) ∧ sh[17 + w]? = some (204, (wl_ w).length) ∧ mr (4 + w) 0 = some (17 + w)
theorem xs_DC {sh : im_Sh} {mr : im_MR} {t : Nat} (h : xs_D sh mr t) : xs_C sh (im_u (im_u mr 35 0 (some 33)) 35 1 (some (78 + 3 * t))) t := by
  obtain ⟨⟨h1, h2⟩, h3, h4, ⟨h5, h6, h7⟩, h8, h9, h10⟩ := h
  have e : ∀ k j, k ≠ 35 → im_u (im_u mr 35 0 (some 33)) 35 1 (some (78 + 3 * t)) k j = mr k j := fun k j hk => by rw [im_u_k _ _ _ _ hk, im_u_k _ _ _ _ hk]
  refine ⟨⟨h1, by rw [e 33 0 (by decide)]; exact h2⟩, h3, ⟨h4, by rw [im_u_j _ _ _ _ (by decide), im_u_s], im_u_s _ _ _ _⟩, ⟨h5, by rw [e _ _ (by omega)]; exact h6, by rw [e _ _ (by omega)]; exact h7⟩, h8, h9, fun w hw => ?_⟩
  rw [e _ _ (by omega)]
  exact h10 w hw
theorem getD_flat {a b : List Nat} {k : Nat} (h : k < b.length) : (a ++ b).getD (a.length + k) 0 = b.getD k 0 := by
  rw [List.getD_eq_getElem?_getD, List.getD_eq_getElem?_getD, List.getElem?_append_right (by omega), Nat.add_sub_cancel_left]
theorem getD_flat1 {a b : List Nat} {k : Nat} (h : k < a.length) : (a ++ b).getD k 0 = a.getD k 0 := by
  rw [List.getD_eq_getElem?_getD, List.getD_eq_getElem?_getD, List.getElem?_append_left h]
/-- what is read is the text's -/
theorem xf_xt {t : Nat} {mi : im_MI} {l : List (List Nat)} (h : xf_ t mi l) {G : ho_G} (hG : ∀ p, p < 3 → G t p = l.getD p []) : xt_ok mi G t := by
  obtain ⟨hl, ⟨hc1, hc2⟩, hL, hE, hW⟩ := h
  obtain ⟨a, b, c, rfl⟩ : ∃ a b c, l = [a, b, c] := by
    match l, hl with
    | [a, b, c], _ => exact ⟨a, b, c, rfl⟩
  have g0 : G t 0 = a := hG 0 (by decide)
  have g1 : G t 1 = b := hG 1 (by decide)
  have g2 : G t 2 = c := hG 2 (by decide)
  have t1 : te_at G t 1 = a.length := by show 0 + (G t 0).length = _; rw [g0, Nat.zero_add]
  have t2 : te_at G t 2 = a.length + b.length := by show te_at G t 1 + (G t 1).length = _; rw [t1, g1]
  have t3 : te_at G t 3 = a.length + b.length + c.length := by show te_at G t 2 + (G t 2).length = _; rw [t2, g2]
  have hf : [a, b, c].flatten = a ++ (b ++ c) := by simp
  rw [hf] at hc1 hc2 hL
  have hlen : (a ++ (b ++ c)).length = a.length + b.length + c.length := by rw [List.length_append, List.length_append, Nat.add_assoc]
  refine ⟨fun p hp => ?_, fun p k hp hk => ?_, fun p hp => ?_, by rw [t3, ← hlen]; exact hL⟩
  · rw [hE p hp]
    rcases (show p = 0 ∨ p = 1 ∨ p = 2 by omega) with rfl | rfl | rfl
    · rw [t1]; simp
    · rw [t2]; simp
    · rw [t3]; simp [Nat.add_assoc]
  · rcases (show p = 0 ∨ p = 1 ∨ p = 2 by omega) with rfl | rfl | rfl
    · rw [g0] at hk ⊢
      rw [show te_at G t 0 + k = k from Nat.zero_add k, hc2 k (by omega), getD_flat1 hk]
    · rw [g1] at hk ⊢
      rw [t1, hc2 _ (by omega), getD_flat (by rw [List.length_append]; omega), getD_flat1 hk]
    · rw [g2] at hk ⊢
      rw [t2, hc2 _ (by omega), Nat.add_assoc, getD_flat (by rw [List.length_append]; omega), getD_flat hk]
  · rcases (show p = 0 ∨ p = 1 ∨ p = 2 by omega) with rfl | rfl | rfl
    · rw [g0]; exact hW a (by simp)
    · rw [g1]; exact hW b (by simp)
    · rw [g2]; exact hW c (by simp)
theorem xk_read {d : Nat} {sh : im_Sh} {mi0 : im_MI} {mr : im_MR} {t z : Nat} {tb : Nat → Nat} (hD : xs_D sh mr t) (hT : xs_M mi0 tb z) : EvM (d + 56) 46 [.ref 35, .ref 33, .ref (78 + 3 * t)] sh mi0 mr (fun r sh2 m2 r2 => sh2 = sh ∧ (r2 = (im_u (im_u mr 35 0 (some 33)) 35 1 (some (78 + 3 * t))) ∧ sc_ (xv_S t) mi0 m2 ∧ xR_Q t [] (rdT (tk_k tb z) (tk_v tb z) (tk_f tb z) (tk_t tb z) 3 0) r m2)) := by
  show Ev (d + 56) 46 0 [.ref 35, .ref 33, .ref (78 + 3 * t), im_bad] [] sh mi0 mr _
  have hC := xs_DC hD
  refine ev_s (is_aload_n rfl rfl) ?_
  refine ev_s (is_aload_n rfl rfl) ?_
  refine ev_s (is_putR rfl hD.2.2.1 rfl rfl rfl (sh_lt hD.1.1)) ?_
  refine ev_s (is_aload_n rfl rfl) ?_
  refine ev_s (is_aload_n rfl rfl) ?_
  refine ev_s (is_putR rfl hD.2.2.1 rfl rfl rfl (sh_lt hD.2.2.2.1.1)) ?_
  refine ev_s (is_aload_n rfl rfl) ?_
  refine ev_s (is_getR rfl hC.2.2.1.1 rfl rfl hC.2.2.1.2.2) ?_
  refine ev_q0 (is_callR 1 [] [] rfl rfl rfl rfl rfl (Nat.le_of_ble_eq_true rfl) rfl rfl rfl hC.2.2.2.1.1) rfl rfl (xk_clear hC) (fun r_14 mi mr hq_14 => ?_)
  obtain ⟨rfl, hsc_14, hcl⟩ := hq_14
  have hm1 : sc_ (xw_S t) mi0 (im_u (im_u mi 35 5 (nI 0)) 35 6 (-1)) := (hsc_14.mono fun _ => xs_aw).u (decide_eq_true (Or.inl rfl)) |>.u (decide_eq_true (Or.inl rfl))
  have hT1 := xs_M_W hT hm1
  have hcl1 : xc_ t (im_u (im_u mi 35 5 (nI 0)) 35 6 (-1)) [] := xc_S hcl ((sc_.u sc_rf rfl).u rfl)
  refine ev_s (is_aload_n rfl rfl) ?_
  refine ev_s (is_iconst (nI 0) rfl rfl) ?_
  refine ev_s (is_putI rfl hC.2.2.1.1 rfl rfl rfl) ?_
  refine ev_s (is_aload_n rfl rfl) ?_
  refine ev_s (is_iconst ((-1)) rfl rfl) ?_
  refine ev_s (is_putI rfl hC.2.2.1.1 rfl rfl rfl) ?_
  refine ev_s (is_aload_n rfl rfl) ?_
  refine ev_q0 (is_callR 1 [] [] rfl rfl rfl rfl rfl (Nat.le_of_ble_eq_true rfl) rfl rfl rfl hC.2.2.1.1) rfl rfl (xk_advance hC hT1 (p := 0) (Nat.zero_le _) ((im_u_j _ _ _ _ (by decide)).trans (im_u_s _ _ _ _))) (fun r_28 mi mr hq_28 => ?_)
  obtain ⟨rfl, hsc_28, hk2, h6⟩ := hq_28
  have hg : xg_ t tb z mi 0 [] := ⟨hk2, h6.trans (im_u_s _ _ _ _), xc_S hcl1 hsc_28, Nat.le_refl _, Nat.zero_le _⟩
  have hm2 : sc_ (xv_S t) mi0 mi := (hm1.mono fun _ => xs_wv).trans (hsc_28.mono fun _ h => xs_wv (xs_kw h))
  refine ev_s (is_iconst (nI 0) rfl rfl) ?_
  refine ev_s (st_istore_n_3 rfl rfl) ?_
  refine ev_imp (xk_parts hC (xs_M_V hT hm2) hg) (fun r sh2 m2 r2 hh => ?_)
  exact ⟨hh.1, hh.2.1, hm2.trans hh.2.2.1, hh.2.2.2⟩
