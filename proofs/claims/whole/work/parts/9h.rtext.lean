/-! ===== PURE, the reference: text ===== -/
theorem te_at_3 {G : ho_G} {t p k : Nat} (hp : p < 3) (hk : k < (G t p).length) : te_at G t p + k < te_at G t 3 := by
  have e1 : te_at G t 1 = te_at G t 0 + (G t 0).length := rfl
  have e2 : te_at G t 2 = te_at G t 1 + (G t 1).length := rfl
  have e3 : te_at G t 3 = te_at G t 2 + (G t 2).length := rfl
  rcases (show p = 0 ∨ p = 1 ∨ p = 2 by omega) with rfl | rfl | rfl <;> omega
theorem te_at_G {G G2 : ho_G} {t : Nat} (h : G2 t = G t) (p : Nat) : te_at G2 t p = te_at G t p := by
  unfold te_at
  rw [h]
/-- a text's cells -/
def rt_ok (mi : im_MI) (G : ho_G) (t : Nat) : Prop := ((∀ p, p ≤ 3 → mi 116 (4 * t + p) = nI (te_at G t p)) ∧ ∀ p k, p < 3 → k < (G t p).length → mi 115 (200 * t + (te_at G t p + k)) = nI ((G t p).getD k 0)) ∧ (∀ p, p < 3 → te_ok 0 (G t p) = true) ∧ te_at G t 3 ≤ 160
theorem rg_rt {t : Nat} {mi : im_MI} {l : List (List Nat)} (h : rg_ t mi l) {G : ho_G} (hG : ∀ p, p < 3 → G t p = l.getD p []) : rt_ok mi G t := by
  obtain ⟨hl, ⟨hc1, hc2⟩, hE, hW, hL⟩ := h
  obtain ⟨a, b, c, rfl⟩ : ∃ a b c, l = [a, b, c] := by
    match l, hl with
    | [a, b, c], _ => exact ⟨a, b, c, rfl⟩
  have g0 : G t 0 = a := hG 0 (by decide)
  have g1 : G t 1 = b := hG 1 (by decide)
  have g2 : G t 2 = c := hG 2 (by decide)
  have t0 : te_at G t 0 = 0 := rfl
  have t1 : te_at G t 1 = a.length := by show 0 + (G t 0).length = _; rw [g0, Nat.zero_add]
  have t2 : te_at G t 2 = a.length + b.length := by show te_at G t 1 + (G t 1).length = _; rw [t1, g1]
  have t3 : te_at G t 3 = a.length + b.length + c.length := by show te_at G t 2 + (G t 2).length = _; rw [t2, g2]
  have hf : [a, b, c].flatten = a ++ (b ++ c) := by simp
  rw [hf] at hc1 hc2 hL
  have hlen : (a ++ (b ++ c)).length = a.length + b.length + c.length := by rw [List.length_append, List.length_append, Nat.add_assoc]
  refine ⟨⟨fun p hp => ?_, fun p k hp hk => ?_⟩, fun p hp => ?_, by rw [t3, ← hlen]; exact hL⟩
  · rw [hE p hp]
    rcases (show p = 0 ∨ p = 1 ∨ p = 2 ∨ p = 3 by omega) with rfl | rfl | rfl | rfl
    · rw [t0]; simp
    · rw [t1]; simp
    · rw [t2]; simp
    · rw [t3]; simp [Nat.add_assoc]
  · rcases (show p = 0 ∨ p = 1 ∨ p = 2 by omega) with rfl | rfl | rfl
    · rw [g0] at hk ⊢
      rw [show te_at G t 0 + k = k from Nat.zero_add k, hc2 k (by omega), getD_flat1 hk]
    · rw [g1] at hk ⊢
      rw [t1, hc2 _ (by omega), getD_flat (by rw [List.length_append]; omega), getD_flat1 hk]
    · rw [g2] at hk ⊢
      rw [t2, hc2 _ (by omega), Nat.add_assoc, getD_flat (by rw [List.length_append]; omega), getD_flat hk]
  · rcases (show p = 0 ∨ p = 1 ∨ p = 2 by omega) with rfl | rfl | rfl
    · rw [g0]; exact hW a (by simp)
    · rw [g1]; exact hW b (by simp)
    · rw [g2]; exact hW c (by simp)
theorem rt_row {mi m2 : im_MI} {G : ho_G} {t : Nat} (h : rt_ok mi G t) (e1 : m2 115 = mi 115) (e2 : m2 116 = mi 116) : rt_ok m2 G t := by
  unfold rt_ok at h ⊢
  rw [e1, e2]
  exact h
theorem rz_text {H K : ho_T} {G G2 : ho_G} {mi m2 : im_MI} (h : rz_ H K G mi mi) (ht : H 0 2 < 6) {c : Nat} (hc1 : c ≤ 1) (e1 : ∀ k, k ≠ 110 → k ≠ 115 → k ≠ 116 → k ≠ 124 → m2 k = mi k) (e2 : ∀ j, j < 18 → j ≠ 6 → j ≠ 9 → m2 110 j = mi 110 j) (e3 : ∀ i, i < 200 * H 0 2 → m2 115 i = mi 115 i) (e4 : ∀ i, i < 4 * H 0 2 → m2 116 i = mi 116 i) (e6 : m2 110 6 = nI 0) (e9 : m2 110 9 = nI (H 0 2 + c)) (hG : ∀ t, t < H 0 2 → G2 t = G t) (hn : c = 1 → rt_ok m2 G2 (H 0 2)) : rz_ (tx_H H c) K G2 mi m2 := by
  obtain ⟨⟨h1, h2, h3, h4, h5, h6, h7, h8, h9⟩, ⟨k1, k2, k3, k4, k5, k6, k7⟩, hs⟩ := h
  have h0 : H 0 3 < H 0 2 := h8.2.2.2.1
  refine ⟨⟨by rw [e2 0 (by decide) (by decide) (by decide), tx_Hj H c (by decide) (by decide)]; exact h1, by rw [e2 4 (by decide) (by decide) (by decide), tx_Hj H c (by decide) (by decide)]; exact h2, by rw [tx_H2]; exact e9, by rw [e2 10 (by decide) (by decide) (by decide), tx_Hj H c (by decide) (by decide)]; exact h4, fun m hm => ?_, fun m k hm hk => ?_, fun t q => ?_, tx_bd h8 (by omega), fun t q => ?_⟩, ⟨by rw [tx_H4]; exact e6, fun j hj => by rw [tx_H4] at hj; omega, by rw [e2 11 (by decide) (by decide) (by decide)]; exact k3, ?_, ?_, by rw [e1 123 (by decide) (by decide) (by decide) (by decide)]; exact k6, tx_hb k7 c⟩, fun k hk => e1 k (fun q => by rw [q] at hk; cases hk) (fun q => by rw [q] at hk; cases hk) (fun q => by rw [q] at hk; cases hk) (fun q => by rw [q] at hk; cases hk)⟩
  · rw [e1 111 (by decide) (by decide) (by decide) (by decide), e1 112 (by decide) (by decide) (by decide) (by decide), tx_Hi H c (by decide), tx_Hi H c (by decide)]
    exact h5 m hm
  · rw [e1 113 (by decide) (by decide) (by decide) (by decide), tx_Hi H c (by omega)]
    exact h6 m k hm hk
  · rw [tx_H2] at q
    by_cases ct : t < H 0 2
    · refine ⟨fun p hp => ?_, fun p k hp hk => ?_⟩
      · rw [e4 _ (by omega), te_at_G (hG t ct)]
        exact (h7 t ct).1 p hp
      · rw [hG t ct] at hk
        have hb := te_at_3 (G := G) (t := t) hp hk
        have hb2 := (h9 t ct).2
        rw [te_at_G (hG t ct), hG t ct, e3 _ (by omega)]
        exact (h7 t ct).2 p k hp hk
    · obtain rfl : t = H 0 2 := by omega
      exact (hn (by omega)).1
  · rw [tx_H2] at q
    by_cases ct : t < H 0 2
    · rw [te_at_G (hG t ct), hG t ct]
      exact h9 t ct
    · obtain rfl : t = H 0 2 := by omega
      exact (hn (by omega)).2
  · rw [e1 118 (by decide) (by decide) (by decide) (by decide), e1 117 (by decide) (by decide) (by decide) (by decide)]
    exact k4
  · rw [e1 119 (by decide) (by decide) (by decide) (by decide), e1 120 (by decide) (by decide) (by decide) (by decide), e1 121 (by decide) (by decide) (by decide) (by decide)]
    exact k5
theorem re_M_z {H K : ho_T} {G : ho_G} {mi : im_MI} (hz : rz_ H K G mi mi) : re_M mi (K 6) (H 0 4) := ⟨hz.2.1.1, hz.2.1.2.1, (rz_bd hz).2.2.2.2.1, (rz_hb hz).2.2.2.1, hz.2.1.2.2.2.2.2.1⟩
theorem r_text {d : Nat} {sh : im_Sh} {mi : im_MI} {mr : im_MR} (hC : pu_C sh mr) {H K : ho_T} {G : ho_G} (hz : rz_ H K G mi mi) : EvM (d + 4) 149 [.ref 110] sh mi mr (fun r sh2 m2 r2 => sh2 = sh ∧ (r = .int (an_text H K) ∧ r2 = mr ∧ rz_ (st_textH H K) K (st_textG H K G) mi m2)) := by
  show Ev (d + 4) 149 0 [.ref 110, im_bad, im_bad] [] sh mi mr _
  have ht6 : H 0 2 ≤ 6 := (rz_bd hz).2.2.1
  unfold an_text st_textH st_textG
  by_cases h6 : 6 ≤ H 0 2
  · rw [if_pos h6, if_pos h6, if_pos h6]
    have e6 : H 0 2 = 6 := by omega
    have hz9 : mi 110 9 = nI 6 := by rw [← e6]; exact hz.1.2.2.1
    refine ev_s (is_aload_n rfl rfl) ?_
    refine ev_s (is_getI' rfl (pu_s hC 110 rfl rfl) rfl rfl hz9) ?_
    refine ev_s (is_bipush (nI 6) rfl rfl) ?_
    refine ev_s (is_icmp_ne_f rfl (by decide)) ?_
    refine ev_s (is_bipush ((-4)) rfl rfl) ?_
    refine ev_ret (is_ireturn rfl rfl (by first | rfl | exact pu_b_nar | decide)) ?_
    exact ⟨rfl, rfl, rfl, hz⟩
  · rw [if_neg h6, if_neg h6, if_neg h6]
    refine ev_s (is_aload_n rfl rfl) ?_
    refine ev_s (is_getI' rfl (pu_s hC 110 rfl rfl) rfl rfl hz.1.2.2.1) ?_
    refine ev_s (is_bipush (nI 6) rfl rfl) ?_
    refine ev_s (is_icmp_ne_t rfl (fun q => h6 (by have := (nI_eq32 (by omega) (by decide)).mp q; omega))) ?_
    refine ev_s (is_aload_n rfl rfl) ?_
    refine ev_s (is_iconst (nI 0) rfl rfl) ?_
    refine ev_s (is_putI rfl (pu_s hC 110 rfl rfl) rfl rfl rfl) ?_
    refine ev_s (is_aload_n rfl rfl) ?_
    refine ev_s (is_iconst (nI 0) rfl rfl) ?_
    refine ev_s (is_putI rfl (pu_s hC 110 rfl rfl) rfl rfl rfl) ?_
    refine ev_s (is_iconst (nI 1) rfl rfl) ?_
    refine ev_s (st_istore_n_1 rfl rfl) ?_
    refine ev_s (is_iconst (nI 0) rfl rfl) ?_
    refine ev_s (st_istore_n_2 rfl rfl) ?_
    refine ev_imp (rT_loop hC (re_M_z hz) (by omega) hz.1.2.2.1 3 0 0 [] _ rfl (ru_u (ru_u ru_rf (Or.inl ⟨rfl, by decide⟩)) (Or.inl ⟨rfl, by decide⟩)) (Nat.zero_le _) ((im_u_j _ _ _ _ (by decide)).trans (im_u_s _ _ _ _)) ⟨im_u_s _ _ _ _, fun k hk => by cases hk⟩ (Nat.le_refl _) rfl (fun k hk => by cases hk) (fun c hc => by cases hc)) (fun r sh2 m2 r2 hh => ?_)
    obtain ⟨rfl, rfl, m1, hu, hq⟩ := hh
    have hq2 : rT_Q (H 0 2) [] (tx_ H K) r m1 m2 := hq
    cases htx : tx_ H K with
    | inl f =>
      rw [htx] at hq2
      obtain ⟨rfl, rfl⟩ := hq2
      refine ⟨rfl, rfl, rfl, ?_⟩
      rw [← tx_H0]
      exact rz_text hz (by omega) (Nat.zero_le _) (fun k q1 q2 q3 q4 => by rw [im_u_row' q1]; exact hu.1 k q1 q2 q3 q4) (fun j j1 j2 j3 => by rw [im_u_j _ _ _ _ j2]; exact hu.2.1 j j1) (fun i hi => by rw [im_u_k _ _ _ _ (by decide)]; exact hu.2.2.1 i hi) (fun i hi => by rw [im_u_k _ _ _ _ (by decide)]; exact hu.2.2.2 i hi) (im_u_s _ _ _ _) (by rw [im_u_j _ _ _ _ (by decide), hu.2.1 9 (by decide)]; exact hz.1.2.2.1) (fun t ht => rfl) (fun q => by omega)
    | inr l =>
      rw [htx] at hq2
      obtain ⟨rfl, rfl, hg⟩ := hq2
      refine ⟨rfl, rfl, rfl, ?_⟩
      exact rz_text (c := 1) hz (by omega) (Nat.le_refl _) (fun k q1 q2 q3 q4 => by rw [im_u_row' q1, im_u_row' q1]; exact hu.1 k q1 q2 q3 q4) (fun j j1 j2 j3 => by rw [im_u_j _ _ _ _ j3, im_u_j _ _ _ _ j2]; exact hu.2.1 j j1) (fun i hi => by rw [im_u_k _ _ _ _ (by decide), im_u_k _ _ _ _ (by decide)]; exact hu.2.2.1 i hi) (fun i hi => by rw [im_u_k _ _ _ _ (by decide), im_u_k _ _ _ _ (by decide)]; exact hu.2.2.2 i hi) (by rw [im_u_j _ _ _ _ (by decide), im_u_s]) (im_u_s _ _ _ _) (fun t ht => by funext p; exact if_neg (by omega)) (fun _ => rt_row (rg_rt hg (fun p _ => if_pos rfl)) (by rw [im_u_row' (by decide), im_u_row' (by decide)]) (by rw [im_u_row' (by decide), im_u_row' (by decide)]))
