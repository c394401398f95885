/-! ===== PURE, the class: a whole text is read ===== -/
abbrev pd_T : Type := Nat ⊕ List (List Nat)
/-- the parts from p on, j of them -/
def rdT (K V F T : Nat → Nat) : Nat → Nat → pd_T
  | 0, p => if K p = 0 then .inr [] else .inl (F p)
  | j + 1, p => if K p = 6 - j then (match pd_E K V F T (T p) with
    | .inl f => .inl f
    | .inr q => (match rdT K V F T j q.1 with
      | .inl f => .inl f
      | .inr l => .inr (q.2 :: l))) else .inl (F p)
def xv_S (t k : Nat) : Bool := decide (k = 35 ∨ (78 + 3 * t ≤ k ∧ k ≤ 80 + 3 * t))
theorem xs_wv {t k : Nat} (h : xw_S t k = true) : xv_S t k = true := decide_eq_true (by have := of_decide_eq_true h; omega)
theorem xv_ne {t k : Nat} (h0 : k ≠ 35) (h1 : k < 78 + 3 * t ∨ 80 + 3 * t < k) : xv_S t k = false := decide_eq_false (by omega)
theorem xs_M_V {mi ma : im_MI} {tb : Nat → Nat} {z t : Nat} (h : xs_M mi tb z) (h2 : sc_ (xv_S t) mi ma) : xs_M ma tb z := xs_M_row h fun k hk => h2 k (xv_ne (by omega) (by omega))
/-- all parts are in -/
def xf_ (t : Nat) (mi : im_MI) (l : List (List Nat)) : Prop := l.length = 3 ∧ xc_ t mi l.flatten ∧ l.flatten.length ≤ 160 ∧ (∀ k, k < 3 → mi (80 + 3 * t) k = nI ((l.take (k + 1)).flatten.length)) ∧ ∀ c, c ∈ l → te_ok 0 c = true
def xR_Q (t : Nat) (l : List (List Nat)) (a : pd_T) (r : Value) (mi : im_MI) : Prop := match a with
  | .inl f => r = .int (nI f) ∧ f ≤ 160
  | .inr l2 => r = .int (-1) ∧ xf_ t mi (l ++ l2)
theorem xc_E {t q v : Nat} {mi : im_MI} {C : List Nat} (h : xc_ t mi C) : xc_ t (im_u mi (80 + 3 * t) q (nI v)) C := ⟨by rw [im_u_k _ _ _ _ (by omega)]; exact h.1, fun k hk => by rw [im_u_k _ _ _ _ (by omega)]; exact h.2 k hk⟩
theorem xg_E {t p q v : Nat} {tb : Nat → Nat} {z : Nat} {mi : im_MI} {C : List Nat} (h : xg_ t tb z mi p C) : xg_ t tb z (im_u mi (80 + 3 * t) q (nI v)) p C := by
  obtain ⟨⟨g1, g2, g3, g4⟩, g5, g6, g7, g8⟩ := h
  have e : im_u mi (80 + 3 * t) q (nI v) 35 = mi 35 := im_u_row' (by omega)
  exact ⟨⟨by rw [e]; exact g1, by rw [e]; exact g2, by rw [e]; exact g3, by rw [e]; exact g4⟩, by rw [e]; exact g5, xc_E g6, g7, g8⟩
theorem xb_E {t f q v : Nat} {mi : im_MI} (h : xb_ t mi f) : xb_ t (im_u mi (80 + 3 * t) q (nI v)) f := by
  obtain ⟨g1, g2, g3, s, g4, g5⟩ := h
  exact ⟨by rw [im_u_k _ _ _ _ (by omega)]; exact g1, by rw [im_u_k _ _ _ _ (by omega)]; exact g2, g3, s, g4, by rw [im_u_k _ _ _ _ (by omega)]; exact g5⟩
theorem take_app {l : List (List Nat)} {c : List Nat} {k : Nat} (h : k < l.length) : (l ++ [c]).take (k + 1) = l.take (k + 1) := by
  rw [List.take_append_of_le_length (by omega)]
theorem take_all {l : List (List Nat)} {c : List Nat} : (l ++ [c]).take (l.length + 1) = l ++ [c] := by
  rw [List.take_of_length_le (by rw [List.length_append]; exact Nat.le_refl _)]
theorem flat_app {l : List (List Nat)} {c : List Nat} : (l ++ [c]).flatten = l.flatten ++ c := by simp
theorem sh_lt {sh : im_Sh} {k : Nat} {v : Nat × Nat} (h : sh[k]? = some v) : k < sh.length := (List.getElem?_eq_some_iff.mp h).1
theorem xk_parts {d : Nat} {sh : im_Sh} {mi : im_MI} {mr : im_MR} {t z : Nat} {tb : Nat → Nat} (hC : xs_C sh mr t) (hT : xs_M mi tb z) (hg : xg_ t tb z mi 0 []) : Ev (d + 56) 46 33 [.ref 35, .ref 33, .ref (78 + 3 * t), .int (nI 0)] [] sh mi mr (fun r sh2 m2 r2 => sh2 = sh ∧ (r2 = mr ∧ sc_ (xv_S t) mi m2 ∧ xR_Q t [] (rdT (tk_k tb z) (tk_v tb z) (tk_f tb z) (tk_t tb z) 3 0) r m2)) := by
  have hz1 := hT.2.2.1
  obtain ⟨b1, b2, b3, b4, bE⟩ := xB_all (tb := tb) (z := z) hC
  have gE := (fam_R (tb := tb) hC hz1 5 (Nat.le_refl _)).2.2
  have loopB : ∀ (j i f : Nat) (ma : im_MI), i + j = 3 → xb_ t ma f → xs_M ma tb z → Ev (d + 56) 46 33 [.ref 35, .ref 33, .ref (78 + 3 * t), .int (nI i)] [] sh ma mr (fun r sh2 m2 r2 => sh2 = sh ∧ (r = .int (nI f) ∧ r2 = mr ∧ sc_ (xv_S t) ma m2)) := by
    intro j
    induction j with
    | zero =>
      intro i f ma hi hb hT2
      refine ev_s (is_iload_n rfl rfl) ?_
      refine ev_s (is_iconst (nI 3) rfl rfl) ?_
      refine ev_s (is_icmp_ge_t rfl (nI_le (by omega) (by omega))) ?_
      refine ev_s (is_aload_n rfl rfl) ?_
      refine ev_s (is_getI' rfl hC.2.2.1.1 rfl rfl hb.1) ?_
      refine ev_s (is_if_eq_f rfl (by decide)) ?_
      refine ev_s (is_aload_n rfl rfl) ?_
      refine ev_q0 (is_callR 1 [] [] rfl rfl rfl rfl rfl (Nat.le_of_ble_eq_true rfl) rfl rfl rfl hC.2.2.1.1) rfl rfl (xk_refuseB hC hT2 hb) (fun r_78 mi mr hq_78 => ?_)
      obtain ⟨hm_78, hr_78⟩ := hq_78
      subst hm_78
      subst hr_78
      refine ev_s (is_aload_n rfl rfl) ?_
      refine ev_s (is_getI' rfl hC.2.2.1.1 rfl rfl hb.2.1) ?_
      refine ev_ret (is_ireturn rfl rfl (by first | rfl | exact pu_b_nar | decide)) ?_
      exact ⟨rfl, rfl, rfl, sc_rf⟩
    | succ j ih =>
      intro i f ma hi hb hT2
      refine ev_s (is_iload_n rfl rfl) ?_
      refine ev_s (is_iconst (nI 3) rfl rfl) ?_
      refine ev_s (is_icmp_ge_f rfl (nI_ge (by omega) (by omega))) ?_
      obtain ⟨s, hs160, hn⟩ := hb.2.2.2
      refine ev_s (is_aload_n rfl rfl) ?_
      refine ev_s (is_iconst (nI 4) rfl rfl) ?_
      refine ev_s (is_iload_n rfl rfl) ?_
      first
        | refine ev_s (is_iadd _ rfl (nI_add _ _)) ?_
        | refine ev_s (is_iadd _ rfl rfl) ?_
      refine ev_q0 (is_callR 2 [_] [] rfl rfl rfl rfl rfl (Nat.le_of_ble_eq_true rfl) rfl rfl rfl hC.2.2.1.1) rfl rfl (xk_expectB hC hT2 hb (k := 4 + i) (by omega) (by omega)) (fun r_42 mi mr hq_42 => ?_)
      obtain ⟨hm_42, hr_42⟩ := hq_42
      subst hm_42
      subst hr_42
      refine ev_s (is_aload_n rfl rfl) ?_
      refine ev_s (is_iconst (nI 0) rfl rfl) ?_
      refine ev_q0 (is_callR 2 [_] [] rfl rfl rfl rfl rfl (Nat.le_of_ble_eq_true rfl) rfl rfl rfl hC.2.2.1.1) rfl rfl (bE _ _ _ _ (by omega) hT2 hb) (fun r_47 mi mr hq_47 => ?_)
      obtain ⟨hm_47, hr_47⟩ := hq_47
      subst hm_47
      subst hr_47
      refine ev_s (is_aload_n rfl rfl) ?_
      refine ev_s (is_bipush (nI 59) rfl rfl) ?_
      refine ev_q0 (is_callR 2 [_] [] rfl rfl rfl rfl rfl (Nat.le_of_ble_eq_true rfl) rfl rfl rfl hC.2.2.1.1) rfl rfl (xk_expectB hC hT2 hb (by decide) (by decide)) (fun r_53 mi mr hq_53 => ?_)
      obtain ⟨hm_53, hr_53⟩ := hq_53
      subst hm_53
      subst hr_53
      refine ev_s (is_aload_n rfl rfl) ?_
      refine ev_s (is_getR rfl hC.2.2.1.1 rfl rfl hC.2.2.1.2.2) ?_
      refine ev_s (is_iload_n rfl rfl) ?_
      refine ev_q0 (is_callR 2 [_] [] rfl rfl rfl rfl rfl (Nat.le_of_ble_eq_true rfl) rfl rfl rfl hC.2.2.2.1.1) rfl rfl (xk_end hC hn (q := i) (by omega)) (fun r_61 mi mr hq_61 => ?_)
      obtain ⟨hm_61, hr_61⟩ := hq_61
      subst hm_61
      subst hr_61
      refine ev_s (st_iinc_3 _ rfl rfl (nI_inc _)) ?_
      refine ev_s (is_goto rfl) ?_
      refine ev_imp (ih (i + 1) f _ (by omega) (xb_E hb) (xs_M_V hT2 (sc_.u sc_rf (decide_eq_true (Or.inr ⟨by omega, Nat.le_refl _⟩))))) (fun r sh2 m2 r2 hh => ?_)
      exact ⟨hh.1, hh.2.1, hh.2.2.1, (sc_.u sc_rf (decide_eq_true (Or.inr ⟨by omega, Nat.le_refl _⟩))).trans hh.2.2.2⟩
  have loop : ∀ (j i : Nat) (ma : im_MI) (p : Nat) (l : List (List Nat)), i + j = 3 → sc_ (xv_S t) mi ma → xg_ t tb z ma p l.flatten → l.length = i → (∀ k, k < i → ma (80 + 3 * t) k = nI ((l.take (k + 1)).flatten.length)) → (∀ c, c ∈ l → te_ok 0 c = true) → Ev (d + 56) 46 33 [.ref 35, .ref 33, .ref (78 + 3 * t), .int (nI i)] [] sh ma mr (fun r sh2 m2 r2 => sh2 = sh ∧ (r2 = mr ∧ sc_ (xv_S t) mi m2 ∧ xR_Q t l (rdT (tk_k tb z) (tk_v tb z) (tk_f tb z) (tk_t tb z) j p) r m2)) := by
    intro j
    induction j with
    | zero =>
      intro i ma p l hi hs hg hl he hw
      have hTa := xs_M_V hT hs
      refine ev_s (is_iload_n rfl rfl) ?_
      refine ev_s (is_iconst (nI 3) rfl rfl) ?_
      refine ev_s (is_icmp_ge_t rfl (nI_le (by omega) (by omega))) ?_
      refine ev_s (is_aload_n rfl rfl) ?_
      refine ev_s (is_getI' rfl hC.2.2.1.1 rfl rfl hg.1.1) ?_
      refine ev_ifN_eq rfl (by have := tk_lt (tb := tb) (z := z) hTa.2.2.2.1 p; omega) (fun h_74 => ?_) (fun h_74 => ?_)
      · refine ev_s (is_aload_n rfl rfl) ?_
        first
          | refine ev_s (is_getI' rfl hC.2.2.1.1 rfl rfl hb.2.1) ?_
          | refine ev_s (is_getI' rfl hC.2.2.1.1 rfl rfl hg.2.1) ?_
        refine ev_ret (is_ireturn rfl rfl (by first | rfl | exact pu_b_nar | decide)) ?_
        first
          | (rw [rdT, if_pos h_74]; exact ⟨rfl, rfl, hs, rfl, by rw [List.append_nil]; omega, by rw [List.append_nil]; exact hg.2.2.1, by rw [List.append_nil]; have := hg.2.2.2.1; have := hg.2.2.2.2; omega, by rw [List.append_nil]; intro k hk; exact he k (by omega), by rw [List.append_nil]; exact hw⟩)
          | (rw [rdT, if_neg h_74]; exact ⟨rfl, rfl, hs.trans (hsc_78.mono fun _ h => xs_wv (xs_kw h)), rfl, hb.2.2.1⟩)
      · refine ev_s (is_aload_n rfl rfl) ?_
        refine ev_q0 (is_callR 1 [] [] rfl rfl rfl rfl rfl (Nat.le_of_ble_eq_true rfl) rfl rfl rfl hC.2.2.1.1) rfl rfl (xk_refuse hC hTa hg) (fun r_78 mi mr hq_78 => ?_)
        obtain ⟨rfl, hsc_78, hb⟩ := hq_78
        refine ev_s (is_aload_n rfl rfl) ?_
        first
          | refine ev_s (is_getI' rfl hC.2.2.1.1 rfl rfl hb.2.1) ?_
          | refine ev_s (is_getI' rfl hC.2.2.1.1 rfl rfl hg.2.1) ?_
        refine ev_ret (is_ireturn rfl rfl (by first | rfl | exact pu_b_nar | decide)) ?_
        first
          | (rw [rdT, if_pos h_74]; exact ⟨rfl, rfl, hs, rfl, by rw [List.append_nil]; omega, by rw [List.append_nil]; exact hg.2.2.1, by rw [List.append_nil]; have := hg.2.2.2.1; have := hg.2.2.2.2; omega, by rw [List.append_nil]; intro k hk; exact he k (by omega), by rw [List.append_nil]; exact hw⟩)
          | (rw [rdT, if_neg h_74]; exact ⟨rfl, rfl, hs.trans (hsc_78.mono fun _ h => xs_wv (xs_kw h)), rfl, hb.2.2.1⟩)
    | succ j ih =>
      intro i ma p l hi hs hg hl he hw
      have hTa := xs_M_V hT hs
      by_cases hk : tk_k tb z p = 6 - j
      · have hT0 := tk_T (tb := tb) (z := z) hz1 p hg.2.2.2.2 (by omega)
        refine ev_s (is_iload_n rfl rfl) ?_
        refine ev_s (is_iconst (nI 3) rfl rfl) ?_
        refine ev_s (is_icmp_ge_f rfl (nI_ge (by omega) (by omega))) ?_
        refine ev_s (is_aload_n rfl rfl) ?_
        refine ev_s (is_iconst (nI 4) rfl rfl) ?_
        refine ev_s (is_iload_n rfl rfl) ?_
        refine ev_s (is_iadd (nI (4 + i)) rfl (nI_add _ _)) ?_
        refine ev_q0 (is_callR 2 [_] [] rfl rfl rfl rfl rfl (Nat.le_of_ble_eq_true rfl) rfl rfl rfl hC.2.2.1.1) rfl rfl (xk_expect hC hTa hg (k := 4 + i) (by omega) (by omega)) (fun r_42 mi mr hq_42 => ?_)
        obtain ⟨rfl, hsc_42, hg2⟩ := hq_42
        have hs2 := hs.trans (hsc_42.mono (T := xv_S t) fun _ h => xs_wv (xs_kw h))
        have hT2 := xs_M_V hT hs2
        refine ev_s (is_aload_n rfl rfl) ?_
        refine ev_s (is_iconst (nI 0) rfl rfl) ?_
        refine ev_q0 (is_callR 2 [_] [] rfl rfl rfl rfl rfl (Nat.le_of_ble_eq_true rfl) rfl rfl rfl hC.2.2.1.1) rfl rfl (gE _ _ _ _ (by omega) hT2 hg2) (fun r_47 mi mr hq_47 => ?_)
        obtain ⟨rfl, hsc_47, hq3⟩ := hq_47
        have hs3 := hs2.trans (hsc_47.mono (T := xv_S t) fun _ => xs_wv)
        have hT3 := xs_M_V hT hs3
        cases hx : pd_ei (tk_k tb z) (tk_v tb z) (tk_f tb z) (tk_t tb z) (pd_sub (tk_k tb z) (tk_v tb z) (tk_f tb z) (tk_t tb z) 5) (tk_t tb z p) with
        | inl f =>
          rw [hx] at hq3
          have hb : xb_ t mi f := hq3
          have hT2 := hT3
          obtain ⟨s, hs160, hn⟩ := hb.2.2.2
          have hE : pd_E (tk_k tb z) (tk_v tb z) (tk_f tb z) (tk_t tb z) (tk_t tb z p) = .inl f := by unfold pd_E; rw [hx]; rfl
          refine ev_s (is_aload_n rfl rfl) ?_
          refine ev_s (is_bipush (nI 59) rfl rfl) ?_
          refine ev_q0 (is_callR 2 [_] [] rfl rfl rfl rfl rfl (Nat.le_of_ble_eq_true rfl) rfl rfl rfl hC.2.2.1.1) rfl rfl (xk_expectB hC hT2 hb (by decide) (by decide)) (fun r_53 mi mr hq_53 => ?_)
          obtain ⟨hm_53, hr_53⟩ := hq_53
          subst hm_53
          subst hr_53
          refine ev_s (is_aload_n rfl rfl) ?_
          refine ev_s (is_getR rfl hC.2.2.1.1 rfl rfl hC.2.2.1.2.2) ?_
          refine ev_s (is_iload_n rfl rfl) ?_
          refine ev_q0 (is_callR 2 [_] [] rfl rfl rfl rfl rfl (Nat.le_of_ble_eq_true rfl) rfl rfl rfl hC.2.2.2.1.1) rfl rfl (xk_end hC hn (q := i) (by omega)) (fun r_61 mi mr hq_61 => ?_)
          obtain ⟨hm_61, hr_61⟩ := hq_61
          subst hm_61
          subst hr_61
          refine ev_s (st_iinc_3 _ rfl rfl (nI_inc _)) ?_
          refine ev_s (is_goto rfl) ?_
          refine ev_imp (loopB j (i + 1) _ _ (by omega) (xb_E hb) (xs_M_V hT2 (sc_.u sc_rf (decide_eq_true (Or.inr ⟨by omega, Nat.le_refl _⟩))))) (fun r sh2 m2 r2 hh => ?_)
          obtain ⟨q1, q2, q3, q4⟩ := hh
          rw [rdT, if_pos hk, hE]
          exact ⟨q1, q3, (hs3.trans (sc_.u sc_rf (decide_eq_true (Or.inr ⟨by omega, Nat.le_refl _⟩)))).trans q4, q2, hb.2.2.1⟩
        | inr q =>
          rw [hx] at hq3
          have hg3 : xg_ t tb z mi q.1 (l.flatten ++ q.2) := hq3
          have hE0 : pd_E (tk_k tb z) (tk_v tb z) (tk_f tb z) (tk_t tb z) (tk_t tb z p) = (if tk_k tb z q.1 = 59 then .inr (tk_t tb z q.1, q.2) else .inl (tk_f tb z q.1)) := by unfold pd_E; rw [hx]; rfl
          by_cases h59 : tk_k tb z q.1 = 59
          · rw [if_pos h59] at hE0
            have hE := hE0
            have hok := (pd_E_W (tk_T hz1) tk_V hT0.2 hE).2.2.2
            refine ev_s (is_aload_n rfl rfl) ?_
            refine ev_s (is_bipush (nI 59) rfl rfl) ?_
            refine ev_q0 (is_callR 2 [_] [] rfl rfl rfl rfl rfl (Nat.le_of_ble_eq_true rfl) rfl rfl rfl hC.2.2.1.1) rfl rfl (xk_expect hC hT3 hg3 (by decide) h59) (fun r_53 mi mr hq_53 => ?_)
            obtain ⟨rfl, hsc_53, hg4⟩ := hq_53
            refine ev_s (is_aload_n rfl rfl) ?_
            refine ev_s (is_getR rfl hC.2.2.1.1 rfl rfl hC.2.2.1.2.2) ?_
            refine ev_s (is_iload_n rfl rfl) ?_
            refine ev_q0 (is_callR 2 [_] [] rfl rfl rfl rfl rfl (Nat.le_of_ble_eq_true rfl) rfl rfl rfl hC.2.2.2.1.1) rfl rfl (xk_end hC hg4.2.2.1.1 (q := i) (by omega)) (fun r_61 mi mr hq_61 => ?_)
            obtain ⟨hm_61, hr_61⟩ := hq_61
            subst hm_61
            subst hr_61
            refine ev_s (st_iinc_3 _ rfl rfl (nI_inc _)) ?_
            refine ev_s (is_goto rfl) ?_
            have hs4 := (hs3.trans (hsc_53.mono (T := xv_S t) fun _ h => xs_wv (xs_kw h))).u (k := 80 + 3 * t) (j := i) (v := nI (l.flatten ++ q.2).length) (decide_eq_true (Or.inr ⟨by omega, Nat.le_refl _⟩))
            rw [rdT, if_pos hk, hE]
            have hg5 : xg_ t tb z (im_u mi (80 + 3 * t) i (nI (l.flatten ++ q.2).length)) (tk_t tb z q.1) (l ++ [q.2]).flatten := by rw [flat_app]; exact xg_E (q := i) (v := (l.flatten ++ q.2).length) hg4
            refine ev_imp (ih (i + 1) _ (tk_t tb z q.1) (l ++ [q.2]) (by omega) hs4 hg5 (by rw [List.length_append, hl]; rfl) (fun k hk2 => ?_) (fun c hc => ?_)) (fun r sh2 m2 r2 hh => ?_)
            · by_cases e : k = i
              · rw [e, im_u_s, ← hl, take_all, flat_app]
              · rw [im_u_j _ _ _ _ e, take_app (by omega), hsc_53 _ (xk_ne (by omega)), hsc_47 _ (xw_ne (by omega) (by omega) (by omega)), hsc_42 _ (xk_ne (by omega))]
                exact he k (by omega)
            · rcases List.mem_append.mp hc with c1 | c1
              · exact hw c c1
              · rw [List.mem_singleton.mp c1]; exact hok
            · obtain ⟨q1, q2, q3, q4⟩ := hh
              refine ⟨q1, q2, q3, ?_⟩
              show xR_Q t l (match rdT (tk_k tb z) (tk_v tb z) (tk_f tb z) (tk_t tb z) j (tk_t tb z q.1) with
                | .inl f => .inl f
                | .inr l => .inr (q.2 :: l)) r m2
              cases hr : rdT (tk_k tb z) (tk_v tb z) (tk_f tb z) (tk_t tb z) j (tk_t tb z q.1) with
              | inl f => rw [hr] at q4; exact q4
              | inr l2 =>
                rw [hr] at q4
                have q5 : r = .int (-1) ∧ xf_ t m2 (l ++ [q.2] ++ l2) := q4
                rw [List.append_assoc] at q5
                exact q5
          · rw [if_neg h59] at hE0
            refine ev_s (is_aload_n rfl rfl) ?_
            refine ev_s (is_bipush (nI 59) rfl rfl) ?_
            refine ev_q0 (is_callR 2 [_] [] rfl rfl rfl rfl rfl (Nat.le_of_ble_eq_true rfl) rfl rfl rfl hC.2.2.1.1) rfl rfl (xk_expectN hC hT3 hg3 (by decide) h59) (fun r_53 mi mr hq_53 => ?_)
            obtain ⟨rfl, hsc_53, hb⟩ := hq_53
            have hs4 := hs3.trans (hsc_53.mono (T := xv_S t) fun _ h => xs_wv (xs_kw h))
            have hT2 := xs_M_V hT hs4
            obtain ⟨s, hs160, hn⟩ := hb.2.2.2
            refine ev_s (is_aload_n rfl rfl) ?_
            refine ev_s (is_getR rfl hC.2.2.1.1 rfl rfl hC.2.2.1.2.2) ?_
            refine ev_s (is_iload_n rfl rfl) ?_
            refine ev_q0 (is_callR 2 [_] [] rfl rfl rfl rfl rfl (Nat.le_of_ble_eq_true rfl) rfl rfl rfl hC.2.2.2.1.1) rfl rfl (xk_end hC hn (q := i) (by omega)) (fun r_61 mi mr hq_61 => ?_)
            obtain ⟨hm_61, hr_61⟩ := hq_61
            subst hm_61
            subst hr_61
            refine ev_s (st_iinc_3 _ rfl rfl (nI_inc _)) ?_
            refine ev_s (is_goto rfl) ?_
            refine ev_imp (loopB j (i + 1) _ _ (by omega) (xb_E hb) (xs_M_V hT2 (sc_.u sc_rf (decide_eq_true (Or.inr ⟨by omega, Nat.le_refl _⟩))))) (fun r sh2 m2 r2 hh => ?_)
            obtain ⟨q1, q2, q3, q4⟩ := hh
            rw [rdT, if_pos hk, hE0]
            exact ⟨q1, q3, (hs4.trans (sc_.u sc_rf (decide_eq_true (Or.inr ⟨by omega, Nat.le_refl _⟩)))).trans q4, q2, hb.2.2.1⟩
      · refine ev_s (is_iload_n rfl rfl) ?_
        refine ev_s (is_iconst (nI 3) rfl rfl) ?_
        refine ev_s (is_icmp_ge_f rfl (nI_ge (by omega) (by omega))) ?_
        refine ev_s (is_aload_n rfl rfl) ?_
        refine ev_s (is_iconst (nI 4) rfl rfl) ?_
        refine ev_s (is_iload_n rfl rfl) ?_
        refine ev_s (is_iadd (nI (4 + i)) rfl (nI_add _ _)) ?_
        refine ev_q0 (is_callR 2 [_] [] rfl rfl rfl rfl rfl (Nat.le_of_ble_eq_true rfl) rfl rfl rfl hC.2.2.1.1) rfl rfl (xk_expectN hC hTa hg (k := 4 + i) (by omega) (by omega)) (fun r_42 mi mr hq_42 => ?_)
        obtain ⟨rfl, hsc_42, hb⟩ := hq_42
        have hs2 := hs.trans (hsc_42.mono (T := xv_S t) fun _ h => xs_wv (xs_kw h))
        have hT2 := xs_M_V hT hs2
        obtain ⟨s, hs160, hn⟩ := hb.2.2.2
        refine ev_s (is_aload_n rfl rfl) ?_
        refine ev_s (is_iconst (nI 0) rfl rfl) ?_
        refine ev_q0 (is_callR 2 [_] [] rfl rfl rfl rfl rfl (Nat.le_of_ble_eq_true rfl) rfl rfl rfl hC.2.2.1.1) rfl rfl (bE _ _ _ _ (by omega) hT2 hb) (fun r_47 mi mr hq_47 => ?_)
        obtain ⟨hm_47, hr_47⟩ := hq_47
        subst hm_47
        subst hr_47
        refine ev_s (is_aload_n rfl rfl) ?_
        refine ev_s (is_bipush (nI 59) rfl rfl) ?_
        refine ev_q0 (is_callR 2 [_] [] rfl rfl rfl rfl rfl (Nat.le_of_ble_eq_true rfl) rfl rfl rfl hC.2.2.1.1) rfl rfl (xk_expectB hC hT2 hb (by decide) (by decide)) (fun r_53 mi mr hq_53 => ?_)
        obtain ⟨hm_53, hr_53⟩ := hq_53
        subst hm_53
        subst hr_53
        refine ev_s (is_aload_n rfl rfl) ?_
        refine ev_s (is_getR rfl hC.2.2.1.1 rfl rfl hC.2.2.1.2.2) ?_
        refine ev_s (is_iload_n rfl rfl) ?_
        refine ev_q0 (is_callR 2 [_] [] rfl rfl rfl rfl rfl (Nat.le_of_ble_eq_true rfl) rfl rfl rfl hC.2.2.2.1.1) rfl rfl (xk_end hC hn (q := i) (by omega)) (fun r_61 mi mr hq_61 => ?_)
        obtain ⟨hm_61, hr_61⟩ := hq_61
        subst hm_61
        subst hr_61
        refine ev_s (st_iinc_3 _ rfl rfl (nI_inc _)) ?_
        refine ev_s (is_goto rfl) ?_
        refine ev_imp (loopB j (i + 1) _ _ (by omega) (xb_E hb) (xs_M_V hT2 (sc_.u sc_rf (decide_eq_true (Or.inr ⟨by omega, Nat.le_refl _⟩))))) (fun r sh2 m2 r2 hh => ?_)
        obtain ⟨q1, q2, q3, q4⟩ := hh
        rw [rdT, if_neg hk]
        exact ⟨q1, q3, (hs2.trans (sc_.u sc_rf (decide_eq_true (Or.inr ⟨by omega, Nat.le_refl _⟩)))).trans q4, q2, hb.2.2.1⟩
  exact loop 3 0 mi 0 [] rfl sc_rf hg rfl (fun k hk => absurd hk (Nat.not_lt_zero _)) (fun c hc => absurd hc (List.not_mem_nil))
