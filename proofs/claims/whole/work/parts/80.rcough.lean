/-! ===== PURE, the reference: coughs by lots ===== -/

theorem ct_set (H : ho_T) (s o : Nat) {h i : Nat} (hh : h < 12) (hi : i < H 0 0) : ct_ H s o (h * H 0 0 + i + 1) = ho_set (ct_ H s o (h * H 0 0 + i)) (10 + i) h (if lt_ s (h * H 0 0 + i + 1) % 10 < o then 4 else ct_ H s o (h * H 0 0 + i) (10 + i) h) := by
  funext a b
  show (if 10 ≤ a ∧ a < 10 + H 0 0 ∧ b < 12 ∧ b * H 0 0 + (a - 10) < h * H 0 0 + i + 1 ∧ lt_ s (b * H 0 0 + (a - 10) + 1) % 10 < o then 4 else H a b) = (if a = 10 + i ∧ b = h then _ else ct_ H s o (h * H 0 0 + i) a b)
  by_cases c : a = 10 + i ∧ b = h
  · obtain ⟨rfl, rfl⟩ := c
    rw [if_pos (And.intro rfl rfl), show 10 + i - 10 = i by omega]
    by_cases c2 : lt_ s (b * H 0 0 + i + 1) % 10 < o
    · rw [if_pos ⟨by omega, by omega, hh, by omega, c2⟩, if_pos c2]
    · rw [if_neg (fun z => c2 z.2.2.2.2), if_neg c2]
      unfold ct_
      rw [if_neg (by omega)]
  · rw [if_neg c]
    unfold ct_
    by_cases c3 : 10 ≤ a ∧ a < 10 + H 0 0 ∧ b < 12
    · have := ct_idx (n := H 0 0) (h := h) (i := i) (q := a - 10) (j := b) hi (by omega) (by omega)
      by_cases c4 : lt_ s (b * H 0 0 + (a - 10) + 1) % 10 < o
      · by_cases c5 : b * H 0 0 + (a - 10) < h * H 0 0 + i
        · rw [if_pos ⟨c3.1, c3.2.1, c3.2.2, this.mpr c5, c4⟩, if_pos ⟨c3.1, c3.2.1, c3.2.2, c5, c4⟩]
        · rw [if_neg (fun z => c5 (this.mp z.2.2.2.1)), if_neg (fun z => c5 z.2.2.2.1)]
      · rw [if_neg (fun z => c4 z.2.2.2.2), if_neg (fun z => c4 z.2.2.2.2)]
    · rw [if_neg (fun z => c3 ⟨z.1, z.2.1, z.2.2.1⟩), if_neg (fun z => c3 ⟨z.1, z.2.1, z.2.2.1⟩)]
/-- the men's rows are laid back -/
theorem rz_bk113 {H Hc K : ho_T} {G : ho_G} {m0 ma m2 : im_MI} (h : rz_ Hc K G m0 ma) (hb : ho_bd H) (e0 : ∀ i j, i < 10 → Hc i j = H i j) (e : ∀ k, k ≠ 113 → m2 k = ma k) (g : ∀ m k, m < 6 → k < 14 → m2 113 (14 * m + k) = nI (H (10 + m) k)) : rz_ H K G m0 m2 := by
  refine ⟨?_, rh_H (rh_row h.2.1 (fun q hq => e q (by omega)) (by rw [e 110 (by decide)]) (by rw [e 110 (by decide)])) (e0 0 4 (by decide)).symm (ho_hb_eq h.2.1.2.2.2.2.2.2 (Nat.le_of_eq (e0 0 0 (by decide))) (Nat.le_of_eq (e0 0 2 (by decide)))), h.2.2.trans (fun k hk => e k (fun q => by rw [q] at hk; cases hk))⟩
  obtain ⟨h1, h2, h3, h4, h5, h6, h7, h8, h9⟩ := h.1
  refine ⟨by rw [e 110 (by decide), ← e0 0 0 (by decide)]; exact h1, by rw [e 110 (by decide), ← e0 0 1 (by decide)]; exact h2, by rw [e 110 (by decide), ← e0 0 2 (by decide)]; exact h3, by rw [e 110 (by decide), ← e0 0 3 (by decide)]; exact h4, fun q hq => by rw [e 111 (by decide), e 112 (by decide), ← e0 1 q (by decide), ← e0 2 q (by decide)]; exact h5 q hq, g, fun t ht => ?_, hb, fun t ht => ?_⟩
  · rw [← e0 0 2 (by decide)] at ht
    rw [e 116 (by decide), e 115 (by decide)]
    exact h7 t ht
  · rw [← e0 0 2 (by decide)] at ht
    exact h9 t ht
theorem lN_l1 {s : Nat} (h : s ≤ 200000) : (nI s).toInt64 + lN 1 = lN (s + 1) := by rw [nI_l (by omega), lN_add]

theorem r_allBy {d : Nat} {sh : im_Sh} {mi : im_MI} {mr : im_MR} (hC : pu_C sh mr) {H K : ho_T} {G : ho_G} {m0 : im_MI} (hz : rz_ H K G m0 mi) {s o : Nat} (hs5 : s ≤ 200000) (ho10 : o ≤ 10) : EvM (d + 7) 196 [.ref 110, .int (nI s), .int (nI o)] sh mi mr (fun r sh2 m2 r2 => sh2 = sh ∧ (r = .int (nI (ho_all (cg_ H s o) G)) ∧ r2 = mr ∧ rz_ H K G m0 m2)) := by
  show Ev (d + 7) 196 0 [.ref 110, .int (nI s), .int (nI o), im_bad, im_bad, im_bad, im_bad] [] sh mi mr _
  have hn6 := rz_n hz
  have hb0 := rz_bd hz
  have hrw0 : ∀ q k, q < 6 → k < 14 → mi 113 (14 * q + k) = nI (H (10 + q) k) := fun q k hq hk => rz_at hz hq hk
  have copy0 : ∀ (rw : Nat → Int32) (w6 : Value) (ma : im_MI), rz_ H K G m0 ma → ma 113 = rw → (∀ (ma : im_MI), rz_ H K G m0 ma → (∀ q, q < 84 → ma 132 q = rw q) → Ev (d + 7) 196 35 [.ref 110, .int (nI s), .int (nI o), .long (lN (lt_ s 0)), im_bad, .int (nI 84), w6] [] sh ma mr (fun r sh2 m2 r2 => sh2 = sh ∧ (r = .int (nI (ho_all (cg_ H s o) G)) ∧ r2 = mr ∧ rz_ H K G m0 m2))) → Ev (d + 7) 196 8 [.ref 110, .int (nI s), .int (nI o), .long (lN (lt_ s 0)), im_bad, .int (nI 0), w6] [] sh ma mr (fun r sh2 m2 r2 => sh2 = sh ∧ (r = .int (nI (ho_all (cg_ H s o) G)) ∧ r2 = mr ∧ rz_ H K G m0 m2)) := by
    intro rw w6 ma hz e113 hk
    have copy : ∀ (j i : Nat) (ma : im_MI), i + j = 84 → rz_ H K G m0 ma → ma 113 = rw → (∀ q, q < i → ma 132 q = rw q) → (∀ (ma : im_MI), rz_ H K G m0 ma → (∀ q, q < 84 → ma 132 q = rw q) → Ev (d + 7) 196 35 [.ref 110, .int (nI s), .int (nI o), .long (lN (lt_ s 0)), im_bad, .int (nI 84), w6] [] sh ma mr (fun r sh2 m2 r2 => sh2 = sh ∧ (r = .int (nI (ho_all (cg_ H s o) G)) ∧ r2 = mr ∧ rz_ H K G m0 m2))) → Ev (d + 7) 196 8 [.ref 110, .int (nI s), .int (nI o), .long (lN (lt_ s 0)), im_bad, .int (nI i), w6] [] sh ma mr (fun r sh2 m2 r2 => sh2 = sh ∧ (r = .int (nI (ho_all (cg_ H s o) G)) ∧ r2 = mr ∧ rz_ H K G m0 m2)) := by
      intro j
      induction j with
      | zero =>
        intro i ma hi hz e113 g1 hk
        refine ev_s (is_iload rfl rfl) ?_
        refine ev_s (is_bipush (nI 84) rfl rfl) ?_
        refine ev_s (is_icmp_ge_t rfl (nI_le (by omega) (by omega))) ?_
        have h6 : i = 84 := by omega
        subst h6
        exact hk _ hz g1
      | succ j ih =>
        intro i ma hi hz e113 g1 hk
        refine ev_s (is_iload rfl rfl) ?_
        refine ev_s (is_bipush (nI 84) rfl rfl) ?_
        refine ev_s (is_icmp_ge_f rfl (nI_ge (by omega) (by omega))) ?_
        refine ev_s (is_aload_n rfl rfl) ?_
        refine ev_s (is_getR rfl (pu_s hC 110 rfl rfl) rfl rfl (pu_r hC 110 36 rfl rfl)) ?_
        refine ev_s (is_iload rfl rfl) ?_
        refine ev_s (is_aload_n rfl rfl) ?_
        refine ev_s (is_getR rfl (pu_s hC 110 rfl rfl) rfl rfl (pu_r hC 110 3 rfl rfl)) ?_
        refine ev_s (is_iload rfl rfl) ?_
        refine ev_s (is_iaload (i) rfl (pu_s hC 113 rfl rfl) rfl rfl (by omega)) ?_
        refine ev_s (is_iastore (i) rfl (pu_s hC 132 rfl rfl) rfl rfl (by omega)) ?_
        refine ev_s (st_iinc_5 _ rfl rfl (nI_inc _)) ?_
        refine ev_s (is_goto rfl) ?_
        refine ih (i + 1) _ (by omega) (rz_s hz (Or.inl (by decide))) (by rw [im_u_kk _ _ _ _ (by decide)]; exact e113) (fun q hq => ?_) hk
        by_cases c : q = i
        · rw [c, im_u_s, e113]
        · rw [im_u_j _ _ _ _ c]; exact g1 q (by omega)
    exact copy 84 0 ma (by omega) hz e113 (fun q hq => by omega) hk
  have innerA : ∀ (h : Nat) (rw : Nat → Int32), h < 12 → ∀ (ma : im_MI), rz_ (ct_ H s o (h * H 0 0)) K G m0 ma → (∀ q, q < 84 → ma 132 q = rw q) → (∀ (w6 : Value) (ma : im_MI), rz_ (ct_ H s o (h * H 0 0 + H 0 0)) K G m0 ma → (∀ q, q < 84 → ma 132 q = rw q) → Ev (d + 7) 196 114 [.ref 110, .int (nI s), .int (nI o), .long (lN (lt_ s (h * H 0 0 + H 0 0))), im_bad, .int (nI h), w6] [] sh ma mr (fun r sh2 m2 r2 => sh2 = sh ∧ (r = .int (nI (ho_all (cg_ H s o) G)) ∧ r2 = mr ∧ rz_ H K G m0 m2))) → Ev (d + 7) 196 48 [.ref 110, .int (nI s), .int (nI o), .long (lN (lt_ s (h * H 0 0))), im_bad, .int (nI h), .int (nI 0)] [] sh ma mr (fun r sh2 m2 r2 => sh2 = sh ∧ (r = .int (nI (ho_all (cg_ H s o) G)) ∧ r2 = mr ∧ rz_ H K G m0 m2)) := by
    intro h rw hh ma hz g1 hk
    have loop : ∀ (j i : Nat) (ma : im_MI), i + j = H 0 0 → rz_ (ct_ H s o (h * H 0 0 + i)) K G m0 ma → (∀ q, q < 84 → ma 132 q = rw q) → (∀ (w6 : Value) (ma : im_MI), rz_ (ct_ H s o (h * H 0 0 + H 0 0)) K G m0 ma → (∀ q, q < 84 → ma 132 q = rw q) → Ev (d + 7) 196 114 [.ref 110, .int (nI s), .int (nI o), .long (lN (lt_ s (h * H 0 0 + H 0 0))), im_bad, .int (nI h), w6] [] sh ma mr (fun r sh2 m2 r2 => sh2 = sh ∧ (r = .int (nI (ho_all (cg_ H s o) G)) ∧ r2 = mr ∧ rz_ H K G m0 m2))) → Ev (d + 7) 196 48 [.ref 110, .int (nI s), .int (nI o), .long (lN (lt_ s (h * H 0 0 + i))), im_bad, .int (nI h), .int (nI i)] [] sh ma mr (fun r sh2 m2 r2 => sh2 = sh ∧ (r = .int (nI (ho_all (cg_ H s o) G)) ∧ r2 = mr ∧ rz_ H K G m0 m2)) := by
      intro j
      induction j with
      | zero =>
        intro i ma hi hz g1 hk
        refine ev_s (is_iload rfl rfl) ?_
        refine ev_s (is_aload_n rfl rfl) ?_
        refine ev_s (is_getI' rfl (pu_s hC 110 rfl rfl) rfl rfl (hz.1.1.trans (by rw [ct_lo _ _ _ _ (by decide)]))) ?_
        refine ev_s (is_icmp_ge_t rfl (nI_le (by omega) (by omega))) ?_
        have h6 : i = H 0 0 := by omega
        subst h6
        exact hk _ _ hz g1
      | succ j ih =>
        intro i ma hi hz g1 hk
        refine ev_s (is_iload rfl rfl) ?_
        refine ev_s (is_aload_n rfl rfl) ?_
        refine ev_s (is_getI' rfl (pu_s hC 110 rfl rfl) rfl rfl (hz.1.1.trans (by rw [ct_lo _ _ _ _ (by decide)]))) ?_
        refine ev_s (is_icmp_ge_f rfl (nI_ge (by omega) (by omega))) ?_
        refine ev_s (is_lload_n rfl rfl) ?_
        refine ev_s (is_ldc2 (lN 48271) rfl rfl) ?_
        refine ev_s (is_lmul _ rfl (lN_mul _ _)) ?_
        refine ev_s (is_ldc2 (lN 2147483647) rfl rfl) ?_
        refine ev_s (is_lrem _ rfl (by decide) (pk_lRem (lt_mul hs5) (by decide) (by decide))) ?_
        refine ev_s (st_lstore_n_3 rfl rfl) ?_
        have hls : lt_ s (h * H 0 0 + i) * 48271 % 2147483647 = lt_ s (h * H 0 0 + i + 1) := rfl
        rw [hls]
        have hl63 : lt_ s (h * H 0 0 + i + 1) < 2 ^ 63 := by have := lt_le hs5 (h * H 0 0 + i + 1); omega
        have hdo := (rz_bd hz).2.2.2.2.2.2.2.1 i h hh
        refine ev_s (is_aload_n rfl rfl) ?_
        refine ev_s (is_getR rfl (pu_s hC 110 rfl rfl) rfl rfl (pu_r hC 110 3 rfl rfl)) ?_
        refine ev_s (is_bipush (nI 14) rfl rfl) ?_
        refine ev_s (is_iload rfl rfl) ?_
        first
          | refine ev_s (is_imul _ rfl (pk_mul _ _)) ?_
          | refine ev_s (is_imul _ rfl rfl) ?_
        refine ev_s (is_iload rfl rfl) ?_
        first
          | refine ev_s (is_iadd _ rfl (nI_add _ _)) ?_
          | refine ev_s (is_iadd _ rfl rfl) ?_
        refine ev_s (is_lload_n rfl rfl) ?_
        refine ev_s (is_ldc2 (lN 10) rfl rfl) ?_
        refine ev_s (is_lrem _ rfl (by decide) (pk_lRem hl63 (by decide) (by decide))) ?_
        refine ev_s (is_iload_n rfl rfl) ?_
        refine ev_s (is_i2l _ rfl (nI_l (by omega))) ?_
        refine ev_s (is_lcmp _ rfl rfl) ?_
        refine ev_if_ge rfl (fun h_87 => ?_) (fun h_87 => ?_)
        · have hc := (lN_cmpge (by omega) (by omega)).mp h_87
          refine ev_s (is_aload_n rfl rfl) ?_
          refine ev_s (is_getR rfl (pu_s hC 110 rfl rfl) rfl rfl (pu_r hC 110 3 rfl rfl)) ?_
          refine ev_s (is_bipush (nI 14) rfl rfl) ?_
          refine ev_s (is_iload rfl rfl) ?_
          first
            | refine ev_s (is_imul _ rfl (pk_mul _ _)) ?_
            | refine ev_s (is_imul _ rfl rfl) ?_
          refine ev_s (is_iload rfl rfl) ?_
          first
            | refine ev_s (is_iadd _ rfl (nI_add _ _)) ?_
            | refine ev_s (is_iadd _ rfl rfl) ?_
          refine ev_s (is_iaload' (14 * i + h) rfl (pu_s hC 113 rfl rfl) rfl rfl (by omega) (rz_at hz (by omega) (by omega))) ?_
          refine ev_s (is_iastore (14 * i + h) rfl (pu_s hC 113 rfl rfl) rfl rfl (by omega)) ?_
          refine ev_s (st_iinc_6 _ rfl rfl (nI_inc _)) ?_
          refine ev_s (is_goto rfl) ?_
          first
            | (have hcs : ct_ H s o (h * H 0 0 + i + 1) = ho_set (ct_ H s o (h * H 0 0 + i)) (10 + i) h (4) := by rw [ct_set H s o hh (by omega), if_pos hc]
               have hz := rz_row hz (m := i) (w := h) (v := 4) (by omega) (by omega) (ho_bd_put (rz_bd hz) (Or.inl ⟨hh, by first | decide | exact hdo⟩))
               rw [← hcs] at hz
               exact ih (i + 1) _ (by omega) hz (fun q hq => by rw [im_u_k _ _ _ _ (by decide)]; exact g1 q hq) hk)
            | (have hcs : ct_ H s o (h * H 0 0 + i + 1) = ho_set (ct_ H s o (h * H 0 0 + i)) (10 + i) h (ct_ H s o (h * H 0 0 + i) (10 + i) h) := by rw [ct_set H s o hh (by omega), if_neg (by omega)]
               have hz := rz_row hz (m := i) (w := h) (v := ct_ H s o (h * H 0 0 + i) (10 + i) h) (by omega) (by omega) (ho_bd_put (rz_bd hz) (Or.inl ⟨hh, by first | decide | exact hdo⟩))
               rw [← hcs] at hz
               exact ih (i + 1) _ (by omega) hz (fun q hq => by rw [im_u_k _ _ _ _ (by decide)]; exact g1 q hq) hk)
        · have hc : lt_ s (h * H 0 0 + i + 1) % 10 < o := Nat.not_le.mp (fun c => h_87 ((lN_cmpge (by omega) (by omega)).mpr c))
          refine ev_s (is_iconst (nI 4) rfl rfl) ?_
          refine ev_s (is_goto rfl) ?_
          refine ev_s (is_iastore (14 * i + h) rfl (pu_s hC 113 rfl rfl) rfl rfl (by omega)) ?_
          refine ev_s (st_iinc_6 _ rfl rfl (nI_inc _)) ?_
          refine ev_s (is_goto rfl) ?_
          first
            | (have hcs : ct_ H s o (h * H 0 0 + i + 1) = ho_set (ct_ H s o (h * H 0 0 + i)) (10 + i) h (4) := by rw [ct_set H s o hh (by omega), if_pos hc]
               have hz := rz_row hz (m := i) (w := h) (v := 4) (by omega) (by omega) (ho_bd_put (rz_bd hz) (Or.inl ⟨hh, by first | decide | exact hdo⟩))
               rw [← hcs] at hz
               exact ih (i + 1) _ (by omega) hz (fun q hq => by rw [im_u_k _ _ _ _ (by decide)]; exact g1 q hq) hk)
            | (have hcs : ct_ H s o (h * H 0 0 + i + 1) = ho_set (ct_ H s o (h * H 0 0 + i)) (10 + i) h (ct_ H s o (h * H 0 0 + i) (10 + i) h) := by rw [ct_set H s o hh (by omega), if_neg (by omega)]
               have hz := rz_row hz (m := i) (w := h) (v := ct_ H s o (h * H 0 0 + i) (10 + i) h) (by omega) (by omega) (ho_bd_put (rz_bd hz) (Or.inl ⟨hh, by first | decide | exact hdo⟩))
               rw [← hcs] at hz
               exact ih (i + 1) _ (by omega) hz (fun q hq => by rw [im_u_k _ _ _ _ (by decide)]; exact g1 q hq) hk)
    exact loop (H 0 0) 0 ma (by omega) hz g1 hk
  have bk0 : ∀ (rw : Nat → Int32) (lot : Nat) (mb : im_MI), rz_ (cg_ H s o) K G m0 mb → (∀ q, q < 84 → mb 132 q = rw q) → (∀ q k, q < 6 → k < 14 → rw (14 * q + k) = nI (H (10 + q) k)) → Ev (d + 7) 196 129 [.ref 110, .int (nI s), .int (nI o), .long (lN lot), im_bad, .int (nI (ho_all (cg_ H s o) G)), .int (nI 0)] [] sh mb mr (fun r sh2 m2 r2 => sh2 = sh ∧ (r = .int (nI (ho_all (cg_ H s o) G)) ∧ r2 = mr ∧ rz_ H K G m0 m2)) := by
    intro rw lot mb hz g1 hrw
    have bk : ∀ (j i : Nat) (ma : im_MI), i + j = 84 → (∀ k, k ≠ 113 → ma k = mb k) → (∀ q, q < i → ma 113 q = rw q) → Ev (d + 7) 196 129 [.ref 110, .int (nI s), .int (nI o), .long (lN lot), im_bad, .int (nI (ho_all (cg_ H s o) G)), .int (nI i)] [] sh ma mr (fun r sh2 m2 r2 => sh2 = sh ∧ (r = .int (nI (ho_all (cg_ H s o) G)) ∧ r2 = mr ∧ rz_ H K G m0 m2)) := by
      intro j
      induction j with
      | zero =>
        intro i ma hi e g2
        refine ev_s (is_iload rfl rfl) ?_
        refine ev_s (is_bipush (nI 84) rfl rfl) ?_
        refine ev_s (is_icmp_ge_t rfl (nI_le (by omega) (by omega))) ?_
        refine ev_s (is_iload rfl rfl) ?_
        refine ev_ret (is_ireturn rfl rfl (by first | rfl | exact pu_b_nar | decide)) ?_
        exact ⟨rfl, rfl, rfl, rz_bk113 hz hb0 (fun a b h => ct_lo _ _ _ _ h _) e (fun q k hq hk => by rw [g2 _ (by omega)]; exact hrw q k hq hk)⟩
      | succ j ih =>
        intro i ma hi e g2
        refine ev_s (is_iload rfl rfl) ?_
        refine ev_s (is_bipush (nI 84) rfl rfl) ?_
        refine ev_s (is_icmp_ge_f rfl (nI_ge (by omega) (by omega))) ?_
        refine ev_s (is_aload_n rfl rfl) ?_
        refine ev_s (is_getR rfl (pu_s hC 110 rfl rfl) rfl rfl (pu_r hC 110 3 rfl rfl)) ?_
        refine ev_s (is_iload rfl rfl) ?_
        refine ev_s (is_aload_n rfl rfl) ?_
        refine ev_s (is_getR rfl (pu_s hC 110 rfl rfl) rfl rfl (pu_r hC 110 36 rfl rfl)) ?_
        refine ev_s (is_iload rfl rfl) ?_
        refine ev_s (is_iaload (i) rfl (pu_s hC 132 rfl rfl) rfl rfl (by omega)) ?_
        refine ev_s (is_iastore (i) rfl (pu_s hC 113 rfl rfl) rfl rfl (by omega)) ?_
        refine ev_s (st_iinc_6 _ rfl rfl (nI_inc _)) ?_
        refine ev_s (is_goto rfl) ?_
        refine ih (i + 1) _ (by omega) (fun k hk => by rw [im_u_kk _ _ _ _ hk]; exact e k hk) (fun q hq => ?_)
        by_cases c : q = i
        · rw [c, im_u_s, e 132 (by decide)]; exact g1 i (by omega)
        · rw [im_u_j _ _ _ _ c]; exact g2 q (by omega)
    exact bk 84 0 mb (by omega) (fun _ _ => rfl) (fun q hq => by omega)
  have outer : ∀ (rw : Nat → Int32), (∀ q k, q < 6 → k < 14 → rw (14 * q + k) = nI (H (10 + q) k)) → ∀ (j h : Nat) (w6 : Value) (ma : im_MI), h + j = 12 → rz_ (ct_ H s o (h * H 0 0)) K G m0 ma → (∀ q, q < 84 → ma 132 q = rw q) → Ev (d + 7) 196 38 [.ref 110, .int (nI s), .int (nI o), .long (lN (lt_ s (h * H 0 0))), im_bad, .int (nI h), w6] [] sh ma mr (fun r sh2 m2 r2 => sh2 = sh ∧ (r = .int (nI (ho_all (cg_ H s o) G)) ∧ r2 = mr ∧ rz_ H K G m0 m2)) := by
    intro rw hrw j
    induction j with
    | zero =>
      intro h w6 ma hi hz g1
      have h12 : h = 12 := by omega
      subst h12
      have hz : rz_ (cg_ H s o) K G m0 ma := hz
      refine ev_s (is_iload rfl rfl) ?_
      refine ev_s (is_bipush (nI 12) rfl rfl) ?_
      refine ev_s (is_icmp_ge_t rfl (nI_le (by omega) (by omega))) ?_
      refine ev_s (is_aload_n rfl rfl) ?_
      refine ev_q1 (is_callR 1 [] [] rfl rfl rfl rfl rfl (Nat.le_of_ble_eq_true rfl) rfl rfl rfl (pu_s hC 110 rfl rfl)) rfl rfl (r_allOf hC hz.1) (fun r_121 mi mr hq_121 => ?_)
      obtain ⟨rfl, hmr, hsc⟩ := hq_121
      have hmr := hmr.symm
      subst hmr
      have g1 : ∀ q, q < 84 → mi 132 q = rw q := fun q hq => by rw [hsc 132 rfl]; exact g1 q hq
      have hz := rz_sS hz hsc
      refine ev_s (st_istore_5 rfl rfl) ?_
      refine ev_s (is_iconst (nI 0) rfl rfl) ?_
      refine ev_s (st_istore_6 rfl rfl) ?_
      exact bk0 rw _ _ hz g1 hrw
    | succ j ih =>
      intro h w6 ma hi hz g1
      refine ev_s (is_iload rfl rfl) ?_
      refine ev_s (is_bipush (nI 12) rfl rfl) ?_
      refine ev_s (is_icmp_ge_f rfl (nI_ge (by omega) (by omega))) ?_
      refine ev_s (is_iconst (nI 0) rfl rfl) ?_
      refine ev_s (st_istore_6 rfl rfl) ?_
      refine innerA h rw (by omega) _ hz g1 (fun w6 ma hz g1 => ?_)
      refine ev_s (st_iinc_5 _ rfl rfl (nI_inc _)) ?_
      refine ev_s (is_goto rfl) ?_
      have hm : (h + 1) * H 0 0 = h * H 0 0 + H 0 0 := by rw [Nat.add_mul, Nat.one_mul]
      have := ih (h + 1) w6 _ (by omega) (by rw [hm]; exact hz) g1
      rw [hm] at this
      exact this
  refine ev_s (is_iload_n rfl rfl) ?_
  refine ev_s (is_i2l _ rfl rfl) ?_
  refine ev_s (is_lconst (lN 1) rfl rfl) ?_
  refine ev_s (is_ladd _ rfl (lN_l1 hs5)) ?_
  refine ev_s (st_lstore_n_3 rfl rfl) ?_
  refine ev_s (is_iconst (nI 0) rfl rfl) ?_
  refine ev_s (st_istore_5 rfl rfl) ?_
  refine copy0 (mi 113) _ mi hz rfl (fun ma hz g1 => ?_)
  refine ev_s (is_iconst (nI 0) rfl rfl) ?_
  refine ev_s (st_istore_5 rfl rfl) ?_
  have := outer (mi 113) hrw0 12 0 im_bad ma (by omega) (by rw [Nat.zero_mul, ct_0]; exact hz) g1
  rw [Nat.zero_mul] at this
  exact this

theorem r_drawn {d : Nat} {sh : im_Sh} {mi : im_MI} {mr : im_MR} (hC : pu_C sh mr) {H K : ho_T} {G : ho_G} (hz : rz_ H K G mi mi) (s o : Int32) : EvM (d + 8) 197 [.ref 110, .int s, .int o] sh mi mr (fun r sh2 m2 r2 => sh2 = sh ∧ (r = .int (an_drawn H G s o) ∧ r2 = mr ∧ rz_ (H) (K) G mi m2)) := by
  show Ev (d + 8) 197 0 [.ref 110, .int s, .int o] [] sh mi mr _
  have hn6 := rz_n hz
  refine ev_s (is_iload_n rfl rfl) ?_
  refine ev_s (is_iconst (nI 0) rfl rfl) ?_
  refine ev_s (is_ldcI (nI 99999) rfl rfl) ?_
  refine ev_c1 (is_call0 3 [_, _, _] [] rfl rfl rfl rfl rfl (Nat.le_of_ble_eq_true rfl) rfl rfl rfl) rfl rfl (r_in' _ _ _) ?_
  refine ev_ifB_eq rfl (fun h_7 => ?_) (fun h_7 => ?_)
  · refine ev_s (is_bipush ((-2)) rfl rfl) ?_
    refine ev_ret (is_ireturn rfl rfl (by first | rfl | exact pu_b_nar | decide)) ?_
    exact ⟨rfl, by simp [an_drawn, h_7], rfl, hz⟩
  · obtain ⟨s0, rfl, ls0, us0, es0⟩ := ho_rng_n h_7 (by decide) (by decide)
    refine ev_s (is_iload_n rfl rfl) ?_
    refine ev_s (is_iconst (nI 0) rfl rfl) ?_
    refine ev_s (is_bipush (nI 10) rfl rfl) ?_
    refine ev_c1 (is_call0 3 [_, _, _] [] rfl rfl rfl rfl rfl (Nat.le_of_ble_eq_true rfl) rfl rfl rfl) rfl rfl (r_in' _ _ _) ?_
    refine ev_ifB_eq rfl (fun h_17 => ?_) (fun h_17 => ?_)
    · refine ev_s (is_bipush ((-2)) rfl rfl) ?_
      refine ev_ret (is_ireturn rfl rfl (by first | rfl | exact pu_b_nar | decide)) ?_
      exact ⟨rfl, by simp [an_drawn, h_7, es0, h_17], rfl, hz⟩
    · obtain ⟨o0, rfl, lo0, uo0, eo0⟩ := ho_rng_n h_17 (by decide) (by decide)
      refine ev_s (is_aload_n rfl rfl) ?_
      refine ev_s (is_iload_n rfl rfl) ?_
      refine ev_s (is_iload_n rfl rfl) ?_
      refine ev_q1 (is_callR 3 [_, _] [] rfl rfl rfl rfl rfl (Nat.le_of_ble_eq_true rfl) rfl rfl rfl (pu_s hC 110 rfl rfl)) rfl rfl (r_allBy hC hz (s := s0) (o := o0) (by omega) (by omega)) (fun r_23 mi mr hq_23 => ?_)
      obtain ⟨rfl, hmr, hz⟩ := hq_23
      have hmr := hmr.symm
      subst hmr
      refine ev_s (is_goto rfl) ?_
      refine ev_ret (is_ireturn rfl rfl (by first | rfl | exact pu_b_nar | decide)) ?_
      exact ⟨rfl, by simp [an_drawn, h_7, es0, h_17, eo0], rfl, hz⟩

theorem r_odds {d : Nat} {sh : im_Sh} {mi : im_MI} {mr : im_MR} (hC : pu_C sh mr) {H K : ho_T} {G : ho_G} (hz : rz_ H K G mi mi) (s n o d1 p : Int32) : EvM (d + 8) 198 [.ref 110, .int s, .int n, .int o, .int d1, .int p] sh mi mr (fun r sh2 m2 r2 => sh2 = sh ∧ (r = .long (an_odds H G s n o d1 p) ∧ r2 = mr ∧ rz_ (H) (K) G mi m2)) := by
  show Ev (d + 8) 198 0 [.ref 110, .int s, .int n, .int o, .int d1, .int p, im_bad, im_bad, im_bad, im_bad] [] sh mi mr _
  have hn6 := rz_n hz
  refine ev_s (is_iload_n rfl rfl) ?_
  refine ev_s (is_iconst (nI 0) rfl rfl) ?_
  refine ev_s (is_ldcI (nI 99999) rfl rfl) ?_
  refine ev_c1 (is_call0 3 [_, _, _] [] rfl rfl rfl rfl rfl (Nat.le_of_ble_eq_true rfl) rfl rfl rfl) rfl rfl (r_in' _ _ _) ?_
  refine ev_ifB_eq rfl (fun h_7 => ?_) (fun h_7 => ?_)
  · refine ev_s (is_iconst (nI 0) rfl rfl) ?_
    refine ev_s (st_istore_6 rfl rfl) ?_
    refine ev_s (is_iload rfl rfl) ?_
    refine ev_s (is_if_ne_f rfl (fun q => q rfl)) ?_
    refine ev_s (is_ldc2 ((-4611686018427387904)) rfl rfl) ?_
    refine ev_ret (is_lreturn rfl) ?_
    refine ⟨rfl, ?_, rfl, hz⟩
    simp [an_odds, h_7]
    all_goals (try rfl)
  · obtain ⟨s0, rfl, ls0, us0, es0⟩ := ho_rng_n h_7 (by decide) (by decide)
    refine ev_s (is_iload_n rfl rfl) ?_
    refine ev_s (is_iconst (nI 1) rfl rfl) ?_
    refine ev_s (is_bipush (nI 40) rfl rfl) ?_
    refine ev_c1 (is_call0 3 [_, _, _] [] rfl rfl rfl rfl rfl (Nat.le_of_ble_eq_true rfl) rfl rfl rfl) rfl rfl (r_in' _ _ _) ?_
    refine ev_ifB_eq rfl (fun h_17 => ?_) (fun h_17 => ?_)
    · refine ev_s (is_iconst (nI 0) rfl rfl) ?_
      refine ev_s (st_istore_6 rfl rfl) ?_
      refine ev_s (is_iload rfl rfl) ?_
      refine ev_s (is_if_ne_f rfl (fun q => q rfl)) ?_
      refine ev_s (is_ldc2 ((-4611686018427387904)) rfl rfl) ?_
      refine ev_ret (is_lreturn rfl) ?_
      refine ⟨rfl, ?_, rfl, hz⟩
      simp [an_odds, h_7, es0, h_17]
      all_goals (try rfl)
    · obtain ⟨n0, rfl, ln0, un0, en0⟩ := ho_rng_n h_17 (by decide) (by decide)
      refine ev_s (is_iload_n rfl rfl) ?_
      refine ev_s (is_iconst (nI 0) rfl rfl) ?_
      refine ev_s (is_bipush (nI 10) rfl rfl) ?_
      refine ev_c1 (is_call0 3 [_, _, _] [] rfl rfl rfl rfl rfl (Nat.le_of_ble_eq_true rfl) rfl rfl rfl) rfl rfl (r_in' _ _ _) ?_
      refine ev_ifB_eq rfl (fun h_27 => ?_) (fun h_27 => ?_)
      · refine ev_s (is_iconst (nI 0) rfl rfl) ?_
        refine ev_s (st_istore_6 rfl rfl) ?_
        refine ev_s (is_iload rfl rfl) ?_
        refine ev_s (is_if_ne_f rfl (fun q => q rfl)) ?_
        refine ev_s (is_ldc2 ((-4611686018427387904)) rfl rfl) ?_
        refine ev_ret (is_lreturn rfl) ?_
        refine ⟨rfl, ?_, rfl, hz⟩
        simp [an_odds, h_7, es0, h_17, en0, h_27]
        all_goals (try rfl)
      · obtain ⟨o0, rfl, lo0, uo0, eo0⟩ := ho_rng_n h_27 (by decide) (by decide)
        refine ev_s (is_iload rfl rfl) ?_
        refine ev_s (is_iconst (nI 0) rfl rfl) ?_
        refine ev_s (is_sipush (nI 9999) rfl rfl) ?_
        refine ev_c1 (is_call0 3 [_, _, _] [] rfl rfl rfl rfl rfl (Nat.le_of_ble_eq_true rfl) rfl rfl rfl) rfl rfl (r_in' _ _ _) ?_
        refine ev_ifB_eq rfl (fun h_39 => ?_) (fun h_39 => ?_)
        · refine ev_s (is_iconst (nI 0) rfl rfl) ?_
          refine ev_s (st_istore_6 rfl rfl) ?_
          refine ev_s (is_iload rfl rfl) ?_
          refine ev_s (is_if_ne_f rfl (fun q => q rfl)) ?_
          refine ev_s (is_ldc2 ((-4611686018427387904)) rfl rfl) ?_
          refine ev_ret (is_lreturn rfl) ?_
          refine ⟨rfl, ?_, rfl, hz⟩
          simp [an_odds, h_7, es0, h_17, en0, h_27, eo0, h_39]
          all_goals (try rfl)
        · obtain ⟨d0, rfl, ld0, ud0, ed0⟩ := ho_rng_n h_39 (by decide) (by decide)
          refine ev_s (is_iload rfl rfl) ?_
          refine ev_s (is_iconst (nI 0) rfl rfl) ?_
          refine ev_s (is_iconst (nI 1) rfl rfl) ?_
          refine ev_c1 (is_call0 3 [_, _, _] [] rfl rfl rfl rfl rfl (Nat.le_of_ble_eq_true rfl) rfl rfl rfl) rfl rfl (r_in' _ _ _) ?_
          refine ev_ifB_eq rfl (fun h_49 => ?_) (fun h_49 => ?_)
          · refine ev_s (is_iconst (nI 0) rfl rfl) ?_
            refine ev_s (st_istore_6 rfl rfl) ?_
            refine ev_s (is_iload rfl rfl) ?_
            refine ev_s (is_if_ne_f rfl (fun q => q rfl)) ?_
            refine ev_s (is_ldc2 ((-4611686018427387904)) rfl rfl) ?_
            refine ev_ret (is_lreturn rfl) ?_
            refine ⟨rfl, ?_, rfl, hz⟩
            simp [an_odds, h_7, es0, h_17, en0, h_27, eo0, h_39, ed0, h_49]
            all_goals (try rfl)
          · obtain ⟨p0, rfl, lp0, up0, ep0⟩ := ho_rng_n h_49 (by decide) (by decide)
            refine ev_s (is_iconst (nI 1) rfl rfl) ?_
            refine ev_s (is_goto rfl) ?_
            refine ev_s (st_istore_6 rfl rfl) ?_
            refine ev_s (is_iload rfl rfl) ?_
            refine ev_s (is_if_ne_t rfl (by decide)) ?_
            refine ev_s (is_lconst (lN 0) rfl rfl) ?_
            refine ev_s (st_lstore_7 rfl rfl) ?_
            refine ev_s (is_iconst (nI 0) rfl rfl) ?_
            refine ev_s (st_istore_9 rfl rfl) ?_
            rw [show an_odds H G (nI s0) (nI n0) (nI o0) (nI d0) (nI p0) = lN (lw_ (od_n H G s0 o0 d0 n0) n0 p0) by simp [an_odds, h_7, es0, h_17, en0, h_27, eo0, h_39, ed0, h_49, ep0]]
            have loop : ∀ (j i : Nat) (ma : im_MI), i + j = n0 → rz_ H K G mi ma → Ev (d + 8) 198 74 [.ref 110, .int (nI s0), .int (nI n0), .int (nI o0), .int (nI d0), .int (nI p0), .int (nI 1), .long (lN (od_n H G s0 o0 d0 i)), im_bad, .int (nI i)] [] sh ma mr (fun r sh2 m2 r2 => sh2 = sh ∧ (r = .long (lN (lw_ (od_n H G s0 o0 d0 n0) n0 p0)) ∧ r2 = mr ∧ rz_ (H) (K) G mi m2)) := by
              intro j
              induction j with
              | zero =>
                intro i ma hi hz
                have hodl : (od_n H G s0 o0 d0 i) ≤ i * 1 := lo_sum_le i (fun q _ => by show (if _ then 1 else 0) ≤ 1; split <;> omega)
                refine ev_s (is_iload rfl rfl) ?_
                refine ev_s (is_iload_n rfl rfl) ?_
                refine ev_s (is_icmp_ge_t rfl (nI_le (by omega) (by omega))) ?_
                refine ev_s (is_lload rfl rfl) ?_
                refine ev_s (is_iload_n rfl rfl) ?_
                refine ev_s (is_i2l _ rfl (nI_l (by omega))) ?_
                refine ev_s (is_iload rfl rfl) ?_
                refine ev_c1 (is_call0 3 [_, _, _] [] rfl rfl rfl rfl rfl (Nat.le_of_ble_eq_true rfl) rfl rfl rfl) rfl rfl (r_lowest (a := (od_n H G s0 o0 d0 i)) (b := n0) (p := p0) (by omega) (by omega) (by omega) (by omega)) ?_
                refine ev_ret (is_lreturn rfl) ?_
                exact ⟨rfl, by rw [show i = n0 by omega], rfl, hz⟩
              | succ j ih =>
                intro i ma hi hz
                refine ev_s (is_iload rfl rfl) ?_
                refine ev_s (is_iload_n rfl rfl) ?_
                refine ev_s (is_icmp_ge_f rfl (nI_ge (by omega) (by omega))) ?_
                refine ev_s (is_lload rfl rfl) ?_
                refine ev_s (is_aload_n rfl rfl) ?_
                refine ev_s (is_iload_n rfl rfl) ?_
                refine ev_s (is_iload rfl rfl) ?_
                first
                  | refine ev_s (is_iadd _ rfl (nI_add _ _)) ?_
                  | refine ev_s (is_iadd _ rfl rfl) ?_
                refine ev_s (is_iload_n rfl rfl) ?_
                refine ev_q1 (is_callR 3 [_, _] [_] rfl rfl rfl rfl rfl (Nat.le_of_ble_eq_true rfl) rfl rfl rfl (pu_s hC 110 rfl rfl)) rfl rfl (r_allBy hC hz (s := s0 + i) (o := o0) (by omega) (by omega)) (fun r_88 mi mr hq_88 => ?_)
                obtain ⟨rfl, hmr, hz⟩ := hq_88
                have hmr := hmr.symm
                subst hmr
                have hal := ho_all_le (H := cg_ H (s0 + i) o0) G (by unfold cg_; rw [ct_lo H (s0 + i) o0 _ (by decide)]; exact hn6)
                refine ev_s (is_iload rfl rfl) ?_
                refine ev_icmpN_gt rfl (by omega) (by omega) (fun h_93 => ?_) (fun h_93 => ?_)
                · have hf : (od_n H G s0 o0 d0 (i + 1)) = (od_n H G s0 o0 d0 i + 0) := by show lo_sum _ (i + 1) = _; rw [lo_sum_s]; rw [if_neg (by omega)]; rfl
                  refine ev_s (is_lconst (lN 0) rfl rfl) ?_
                  refine ev_s (is_ladd _ rfl (lN_add _ _)) ?_
                  refine ev_s (st_lstore_7 rfl rfl) ?_
                  refine ev_s (st_iinc_9 _ rfl rfl (nI_inc _)) ?_
                  refine ev_s (is_goto rfl) ?_
                  have := ih (i + 1) _ (by omega) hz
                  rw [hf] at this
                  exact this
                · have hf : (od_n H G s0 o0 d0 (i + 1)) = (od_n H G s0 o0 d0 i) + 1 := by show lo_sum _ (i + 1) = _; rw [lo_sum_s]; rw [if_pos (by omega)]; rfl
                  refine ev_s (is_lconst (lN 1) rfl rfl) ?_
                  refine ev_s (is_goto rfl) ?_
                  refine ev_s (is_ladd _ rfl (lN_add _ _)) ?_
                  refine ev_s (st_lstore_7 rfl rfl) ?_
                  refine ev_s (st_iinc_9 _ rfl rfl (nI_inc _)) ?_
                  refine ev_s (is_goto rfl) ?_
                  have := ih (i + 1) _ (by omega) hz
                  rw [hf] at this
                  exact this
            exact loop n0 0 mi (by omega) hz
