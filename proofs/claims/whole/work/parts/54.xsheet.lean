/-! ===== PURE, the class: force, sheets, taken ===== -/

theorem x_enforce {d : Nat} {sh : im_Sh} {mi : im_MI} {mr : im_MR} (hC : pu_C sh mr) {t : Nat} (ht : t < 6) : EvM (d) 109 [.ref 29, .int (nI t)] sh mi mr (ev_R sh im_bad (im_u mi 29 7 (nI t)) (im_u mr 104 0 (some (78 + 3 * t)))) := by
  show Ev (d) 109 0 [.ref 29, .int (nI t)] [] sh mi mr _
  refine ev_s (is_aload_n rfl rfl) ?_
  refine ev_s (is_iload_n rfl rfl) ?_
  refine ev_s (is_putI rfl (pu_s hC 29 rfl rfl) rfl rfl rfl) ?_
  refine ev_s (is_aload_n rfl rfl) ?_
  refine ev_s (is_getR rfl (pu_s hC 29 rfl rfl) rfl rfl (pu_r hC 29 3 rfl rfl)) ?_
  refine ev_s (is_aload_n rfl rfl) ?_
  refine ev_s (is_getR rfl (pu_s hC 29 rfl rfl) rfl rfl (pu_r hC 29 5 rfl rfl)) ?_
  refine ev_s (is_iload_n rfl rfl) ?_
  refine ev_s (is_aaload (k := 6) (t) rfl (pu_s hC 32 rfl rfl) rfl rfl rfl (by omega) (pu_rows hC (by omega)).2.2.1) ?_
  refine ev_s (is_putR rfl (pu_s hC 104 rfl rfl) rfl rfl rfl (by rw [hC.2.1]; omega)) ?_
  refine ev_ret (is_return rfl) ?_
  exact ⟨rfl, rfl, rfl, rfl⟩

theorem im_u_kk {α : Type} (f : Nat → Nat → α) (k j : Nat) (v : α) {k2 : Nat} (h : k2 ≠ k) : im_u f k j v k2 = f k2 := by funext q; exact im_u_k f k j v h
theorem xa_force {H : ho_T} {G : ho_G} {mi : im_MI} {mr : im_MR} (h : xa_ok H G mi mr) {t : Nat} (ht : t < H 0 2) : xa_ok (ho_set H 0 3 t) G (im_u mi 29 7 (nI t)) (im_u mr 104 0 (some (78 + 3 * t))) := by
  have hn := xa_n h
  have hb := xa_bd h
  have ht6 := hb.2.2.1
  obtain ⟨h1, h2, h3, h4, h5, h6, h7, h8, h9⟩ := h
  have e : ∀ k, k ≠ 29 → im_u mi 29 7 (nI t) k = mi k := fun k hk => im_u_row' hk
  have e29 : ∀ j, j ≠ 7 → im_u mi 29 7 (nI t) 29 j = mi 29 j := fun j hj => im_u_j _ _ _ _ hj
  have e1 : ∀ i j, i ≠ 0 → ho_set H 0 3 t i j = H i j := fun i j hi => ho_set_i _ _ _ _ hi _
  have e2 : ∀ j, j ≠ 3 → ho_set H 0 3 t 0 j = H 0 j := fun j hj => ho_set_j _ _ _ _ hj _
  have er : ∀ m, ho_row (ho_set H 0 3 t) m = ho_row H m := fun m => by funext j; unfold ho_row; rw [e1 1 _ (by decide), e1 2 _ (by decide), e1 _ _ (by omega)]
  obtain ⟨b1, b2, b3, b4, b5, b6, b7, b8, b9, b10⟩ := h8
  refine ⟨by rw [e29 2 (by decide), e2 0 (by decide)]; exact h1, by rw [e29 6 (by decide), e2 2 (by decide)]; exact h2, by rw [im_u_s, ho_set_s], by rw [e 104 (by decide), e2 1 (by decide)]; exact h4, by rw [im_u_s, ho_set_s], fun m hm => ?_, fun q hq => ?_, ⟨by rw [e2 0 (by decide)]; exact b1, by rw [e2 1 (by decide)]; exact b2, by rw [e2 2 (by decide)]; exact b3, by rw [ho_set_s, e2 2 (by decide)]; exact ht, by rw [e2 4 (by decide)]; exact b5, fun m => by rw [e1 1 _ (by decide)]; exact b6 m, fun m => by rw [e1 2 _ (by decide)]; exact b7 m, fun m k hk => by rw [e1 _ _ (by omega)]; exact b8 m k hk, fun m => by rw [e1 _ _ (by omega)]; exact b9 m, fun m => by rw [e1 _ _ (by omega)]; exact b10 m⟩, ho_iv_lo h9 (e2 0 (by decide)) (fun m => e1 _ _ (by omega))⟩
  · rw [e2 0 (by decide)] at hm
    rw [er]
    exact xm_row (h6 m hm) (e _ (by omega)) (e _ (by omega))
  · rw [e2 2 (by decide)] at hq
    exact xt_row (h7 q hq) (e _ (by omega)) (e _ (by omega))
theorem xh_H3 {H K : ho_T} {mi mi2 : im_MI} (h : xh_ok H K mi) (hn : H 0 0 ≤ 6) (t : Nat) (hs : ∀ k, k = 33 ∨ k = 34 ∨ (40 ≤ k ∧ k ≤ 53) ∨ (96 ≤ k ∧ k ≤ 103) → mi2 k = mi k) : xh_ok (ho_set H 0 3 t) K mi2 := by
  have h3 := xh_row h hs (xh_i6 h hn)
  have e1 : ∀ i j, i ≠ 0 → ho_set H 0 3 t i j = H i j := fun i j hi => ho_set_i _ _ _ _ hi _
  have e2 : ∀ j, j ≠ 3 → ho_set H 0 3 t 0 j = H 0 j := fun j hj => ho_set_j _ _ _ _ hj _
  have er : ∀ m, ho_irow (ho_set H 0 3 t) K m = ho_irow H K m := fun m => by funext j; unfold ho_irow; rw [e1 1 _ (by decide), e1 2 _ (by decide)]
  unfold xh_ok ho_hb at h3 ⊢
  simp only [e2 0 (by decide), e2 4 (by decide), e2 2 (by decide), er]
  exact h3

theorem x_force {d : Nat} {sh : im_Sh} {mi : im_MI} {mr : im_MR} (hC : pu_C sh mr) {H K : ho_T} {G : ho_G} (hx : xa_ok H G mi mr) (hz : xh_ok H K mi) (t : Int32) : EvM (d + 1) 69 [.ref 29, .int t] sh mi mr (fun r sh2 m2 r2 => sh2 = sh ∧ (r = .int (an_force H t) ∧ pu_C sh r2 ∧ xa_ok (st_force H t) G m2 r2 ∧ xh_ok (st_force H t) (K) m2 ∧ sc_ xAll mi m2)) := by
  show Ev (d + 1) 69 0 [.ref 29, .int t, im_bad] [] sh mi mr _
  have hn6 := xa_n hx
  have hs : sc_ xQ mi mi := sc_rf
  refine ev_s (is_iload_n rfl rfl) ?_
  refine ev_s (is_iconst (nI 0) rfl rfl) ?_
  refine ev_s (is_aload_n rfl rfl) ?_
  refine ev_s (is_getI' rfl (pu_s hC 29 rfl rfl) rfl rfl hx.2.1) ?_
  refine ev_s (is_iconst (nI 1) rfl rfl) ?_
  first
    | refine ev_s (is_isub _ rfl (pk_sub (by omega))) ?_
    | refine ev_s (is_isub _ rfl rfl) ?_
  refine ev_c1 (is_call0 3 [_, _, _] [] rfl rfl rfl rfl rfl (Nat.le_of_ble_eq_true rfl) rfl rfl rfl) rfl rfl (x_within' _ _ _) ?_
  refine ev_ifB_ne rfl (fun h_11 => ?_) (fun h_11 => ?_)
  · have ht6 := (xa_bd hx).2.2.1
    obtain ⟨t0, rfl, ht0, et0⟩ := ho_isT_n ht6 h_11
    refine ev_s (is_aload_n rfl rfl) ?_
    refine ev_s (is_getI' rfl (pu_s hC 29 rfl rfl) rfl rfl hx.2.2.1) ?_
    refine ev_s (st_istore_n_2 rfl rfl) ?_
    refine ev_s (is_aload_n rfl rfl) ?_
    refine ev_s (is_iload_n rfl rfl) ?_
    refine ev_c0 (is_callR 2 [_] [] rfl rfl rfl rfl rfl (Nat.le_of_ble_eq_true rfl) rfl rfl rfl (pu_s hC 29 rfl rfl)) rfl rfl (x_enforce hC (t := t0) (by omega)) ?_
    refine ev_s (is_iload_n rfl rfl) ?_
    refine ev_ret (is_ireturn rfl rfl (by first | rfl | exact pu_b_nar | decide)) ?_
    have hT : ho_isT H (nI t0) = true := h_11
    refine ⟨rfl, ?_, pu_C_u hC (by decide), ?_, ?_, sc_rf.u (decide_eq_true (by decide))⟩
    · simp [an_force, hT]
    · simp only [st_force, hT, et0]; exact xa_force hx ht0
    · simp only [st_force, hT, et0]; exact xh_H3 hz hn6 t0 (fun k hk => im_u_row' (by omega))
  · refine ev_s (is_bipush ((-2)) rfl rfl) ?_
    refine ev_ret (is_ireturn rfl rfl (by first | rfl | exact pu_b_nar | decide)) ?_
    have hT : ho_isT H t = false := by simpa [ho_isT] using h_11
    refine ⟨rfl, ?_, hC, ?_, ?_, sc_rf⟩
    · simp [an_force, hT]
    · simp only [st_force, hT]; exact hx
    · simp only [st_force, hT]; exact hz

theorem pu_sort {z : Nat} (h : z < 4) : (nI z - 1 = -1 ↔ z = 0) ∧ (nI z - 1 = nI 0 ↔ z = 1) ∧ (nI z - 1 = nI 1 ↔ z = 2) := by
  rcases (show z = 0 ∨ z = 1 ∨ z = 2 ∨ z = 3 by omega) with rfl | rfl | rfl | rfl <;> decide

theorem x_missing {d : Nat} {sh : im_Sh} {mi : im_MI} {mr : im_MR} (hC : pu_C sh mr) {H K : ho_T} (hz : xh_ok H K mi) {s : Nat} (hs : s < 4) : EvM (d) 24 [.ref (96 + 2 * s)] sh mi mr (ev_R sh (.int (pu_b (K 4 s = 0))) mi mr) := by
  show Ev (d) 24 0 [.ref (96 + 2 * s)] [] sh mi mr _
  refine ev_s (is_aload_n rfl rfl) ?_
  refine ev_s (is_getI' rfl (pu_sheet hC (j := s) (by omega)).2.1 rfl rfl ((hz.1 s hs).1)) ?_
  refine ev_s (is_iconst ((-1)) rfl rfl) ?_
  refine ev_icmp_ne rfl (fun h_5 => ?_) (fun h_5 => ?_)
  · refine ev_s (is_iconst (nI 0) rfl rfl) ?_
    refine ev_ret (is_ireturn rfl rfl (by first | rfl | exact pu_b_nar | decide)) ?_
    first
      | exact ⟨pu_b_t ((pu_sort (hz.2.2.2.2.2.1 s)).1.mp (Decidable.of_not_not h_5)), rfl, rfl, rfl⟩
      | exact ⟨pu_b_f (fun q => h_5 ((pu_sort (hz.2.2.2.2.2.1 s)).1.mpr q)), rfl, rfl, rfl⟩
  · refine ev_s (is_iconst (nI 1) rfl rfl) ?_
    refine ev_s (is_goto rfl) ?_
    refine ev_ret (is_ireturn rfl rfl (by first | rfl | exact pu_b_nar | decide)) ?_
    first
      | exact ⟨pu_b_t ((pu_sort (hz.2.2.2.2.2.1 s)).1.mp (Decidable.of_not_not h_5)), rfl, rfl, rfl⟩
      | exact ⟨pu_b_f (fun q => h_5 ((pu_sort (hz.2.2.2.2.2.1 s)).1.mpr q)), rfl, rfl, rfl⟩

theorem x_hasPlace {d : Nat} {sh : im_Sh} {mi : im_MI} {mr : im_MR} (hC : pu_C sh mr) {H K : ho_T} (hz : xh_ok H K mi) {s : Nat} (hs : s < 4) (i : Int32) : EvM (d + 1) 25 [.ref (96 + 2 * s), .int i] sh mi mr (ev_R sh (.int (pu_b (ho_inS K s i = true))) mi mr) := by
  show Ev (d + 1) 25 0 [.ref (96 + 2 * s), .int i] [] sh mi mr _
  refine ev_s (is_iload_n rfl rfl) ?_
  refine ev_s (is_iconst (nI 0) rfl rfl) ?_
  refine ev_s (is_aload_n rfl rfl) ?_
  refine ev_s (is_getI' rfl (pu_sheet hC (j := s) (by omega)).2.1 rfl rfl ((hz.1 s hs).2.1)) ?_
  refine ev_s (is_iconst (nI 1) rfl rfl) ?_
  first
    | refine ev_s (is_isub _ rfl (pk_sub (by omega))) ?_
    | refine ev_s (is_isub _ rfl rfl) ?_
  refine ev_c1 (is_call0 3 [_, _, _] [] rfl rfl rfl rfl rfl (Nat.le_of_ble_eq_true rfl) rfl rfl rfl) rfl rfl (x_within' _ _ _) ?_
  refine ev_ret (is_ireturn rfl rfl (by first | rfl | exact pu_b_nar | decide)) ?_
  exact ⟨rfl, rfl, rfl, rfl⟩

theorem x_hasRoom {d : Nat} {sh : im_Sh} {mi : im_MI} {mr : im_MR} (hC : pu_C sh mr) {H K : ho_T} (hz : xh_ok H K mi) {s : Nat} (hs : s < 4) (i n : Int32) : EvM (d) 26 [.ref (96 + 2 * s), .int i, .int n] sh mi mr (ev_R sh (.int (pu_b (sh_room K s i n = true))) mi mr) := by
  show Ev (d) 26 0 [.ref (96 + 2 * s), .int i, .int n] [] sh mi mr _
  refine ev_s (is_iload_n rfl rfl) ?_
  refine ev_if_lt rfl (fun h_1 => ?_) (fun h_1 => ?_)
  · refine ev_s (is_iconst (nI 0) rfl rfl) ?_
    refine ev_ret (is_ireturn rfl rfl (by first | rfl | exact pu_b_nar | decide)) ?_
    have h00 : (0 : Int32) = nI 0 := rfl
    first
      | exact ⟨pu_b_t (decide_eq_true ⟨Int32.not_lt.mp h_1, Int32.not_lt.mp h_5, Int32.not_lt.mp h_15⟩), rfl, rfl, rfl⟩
      | exact ⟨pu_b_f (fun q => absurd h_15 (Int32.not_lt.mpr (of_decide_eq_true q).2.2)), rfl, rfl, rfl⟩
      | exact ⟨pu_b_f (fun q => absurd h_5 (Int32.not_lt.mpr (of_decide_eq_true q).2.1)), rfl, rfl, rfl⟩
      | exact ⟨pu_b_f (fun q => absurd h_1 (Int32.not_lt.mpr (of_decide_eq_true q).1)), rfl, rfl, rfl⟩
  · refine ev_s (is_iload_n rfl rfl) ?_
    refine ev_if_lt rfl (fun h_5 => ?_) (fun h_5 => ?_)
    · refine ev_s (is_iconst (nI 0) rfl rfl) ?_
      refine ev_ret (is_ireturn rfl rfl (by first | rfl | exact pu_b_nar | decide)) ?_
      have h00 : (0 : Int32) = nI 0 := rfl
      first
        | exact ⟨pu_b_t (decide_eq_true ⟨Int32.not_lt.mp h_1, Int32.not_lt.mp h_5, Int32.not_lt.mp h_15⟩), rfl, rfl, rfl⟩
        | exact ⟨pu_b_f (fun q => absurd h_15 (Int32.not_lt.mpr (of_decide_eq_true q).2.2)), rfl, rfl, rfl⟩
        | exact ⟨pu_b_f (fun q => absurd h_5 (Int32.not_lt.mpr (of_decide_eq_true q).2.1)), rfl, rfl, rfl⟩
        | exact ⟨pu_b_f (fun q => absurd h_1 (Int32.not_lt.mpr (of_decide_eq_true q).1)), rfl, rfl, rfl⟩
    · refine ev_s (is_iload_n rfl rfl) ?_
      refine ev_s (is_aload_n rfl rfl) ?_
      refine ev_s (is_getI' rfl (pu_sheet hC (j := s) (by omega)).2.1 rfl rfl ((hz.1 s hs).2.1)) ?_
      refine ev_s (is_iload_n rfl rfl) ?_
      refine ev_s (is_isub _ rfl rfl) ?_
      refine ev_icmp_gt rfl (fun h_15 => ?_) (fun h_15 => ?_)
      · refine ev_s (is_iconst (nI 0) rfl rfl) ?_
        refine ev_ret (is_ireturn rfl rfl (by first | rfl | exact pu_b_nar | decide)) ?_
        have h00 : (0 : Int32) = nI 0 := rfl
        first
          | exact ⟨pu_b_t (decide_eq_true ⟨Int32.not_lt.mp h_1, Int32.not_lt.mp h_5, Int32.not_lt.mp h_15⟩), rfl, rfl, rfl⟩
          | exact ⟨pu_b_f (fun q => absurd h_15 (Int32.not_lt.mpr (of_decide_eq_true q).2.2)), rfl, rfl, rfl⟩
          | exact ⟨pu_b_f (fun q => absurd h_5 (Int32.not_lt.mpr (of_decide_eq_true q).2.1)), rfl, rfl, rfl⟩
          | exact ⟨pu_b_f (fun q => absurd h_1 (Int32.not_lt.mpr (of_decide_eq_true q).1)), rfl, rfl, rfl⟩
      · refine ev_s (is_iconst (nI 1) rfl rfl) ?_
        refine ev_s (is_goto rfl) ?_
        refine ev_ret (is_ireturn rfl rfl (by first | rfl | exact pu_b_nar | decide)) ?_
        have h00 : (0 : Int32) = nI 0 := rfl
        first
          | exact ⟨pu_b_t (decide_eq_true ⟨Int32.not_lt.mp h_1, Int32.not_lt.mp h_5, Int32.not_lt.mp h_15⟩), rfl, rfl, rfl⟩
          | exact ⟨pu_b_f (fun q => absurd h_15 (Int32.not_lt.mpr (of_decide_eq_true q).2.2)), rfl, rfl, rfl⟩
          | exact ⟨pu_b_f (fun q => absurd h_5 (Int32.not_lt.mpr (of_decide_eq_true q).2.1)), rfl, rfl, rfl⟩
          | exact ⟨pu_b_f (fun q => absurd h_1 (Int32.not_lt.mpr (of_decide_eq_true q).1)), rfl, rfl, rfl⟩

theorem x_become4 {d : Nat} {sh : im_Sh} {mi : im_MI} {mr : im_MR} (hC : pu_C sh mr) {s n : Nat} (hs : s < 4) {z : Int32} (hn : n ≤ 40) : EvM (d + 1) 27 [.ref (96 + 2 * s), .int z, .int (nI n)] sh mi mr (fun r sh2 m2 r2 => sh2 = sh ∧ (r2 = mr ∧ sc_ (xM2 (96 + 2 * s)) mi m2 ∧ m2 (96 + 2 * s) 1 = z ∧ m2 (96 + 2 * s) 2 = nI n ∧ ∀ j, j < 40 → m2 (97 + 2 * s) j = nI 0)) := by
  show Ev (d + 1) 27 0 [.ref (96 + 2 * s), .int z, .int (nI n), im_bad] [] sh mi mr _
  have loop : ∀ (j i : Nat) (ma : im_MI), i + j = 40 → sc_ (xM2 (96 + 2 * s)) mi ma → ma (96 + 2 * s) 1 = z → ma (96 + 2 * s) 2 = nI n → (∀ q, q < i → ma (97 + 2 * s) q = nI 0) → Ev (d + 1) 27 26 [.ref (96 + 2 * s), .int z, .int (nI n), .int (nI i)] [] sh ma mr (fun r sh2 m2 r2 => sh2 = sh ∧ (r2 = mr ∧ sc_ (xM2 (96 + 2 * s)) mi m2 ∧ m2 (96 + 2 * s) 1 = z ∧ m2 (96 + 2 * s) 2 = nI n ∧ ∀ j, j < 40 → m2 (97 + 2 * s) j = nI 0)) := by
    intro j
    induction j with
    | zero =>
      intro i ma hi hs2 g1 g2 g4
      try have hi40 : i = 40 := by omega
      refine ev_s (is_iload_n rfl rfl) ?_
      refine ev_s (is_bipush (nI 40) rfl rfl) ?_
      refine ev_s (is_icmp_ge_t rfl (nI_le (by omega) (by omega))) ?_
      refine ev_ret (is_return rfl) ?_
      exact ⟨rfl, rfl, hs2, g1, g2, fun j hj => g4 j (by omega)⟩
    | succ j ih =>
      intro i ma hi hs2 g1 g2 g4
      refine ev_s (is_iload_n rfl rfl) ?_
      refine ev_s (is_bipush (nI 40) rfl rfl) ?_
      refine ev_s (is_icmp_ge_f rfl (nI_ge (by omega) (by omega))) ?_
      refine ev_s (is_aload_n rfl rfl) ?_
      refine ev_s (is_getR rfl (pu_sheet hC (j := s) (by omega)).2.1 rfl rfl (pu_sheet hC (j := s) (by omega)).2.2.2) ?_
      refine ev_s (is_iload_n rfl rfl) ?_
      refine ev_s (is_iconst (nI 0) rfl rfl) ?_
      refine ev_s (is_iastore (i) rfl ((pu_sheet hC (j := s) (by omega)).2.2.1) rfl rfl (by omega)) ?_
      refine ev_s (st_iinc_3 _ rfl rfl (nI_inc _)) ?_
      refine ev_s (is_goto rfl) ?_
      exact ih (i + 1) _ (by omega) (hs2.u (decide_eq_true (by omega))) (by rw [im_u_k _ _ _ _ (by omega)]; exact g1) (by rw [im_u_k _ _ _ _ (by omega)]; exact g2) (fun q hq => by
        by_cases hqi : q = i
        · rw [hqi, im_u_s]
        · rw [im_u_j _ _ _ _ hqi]; exact g4 q (by omega))
  refine ev_s (is_aload_n rfl rfl) ?_
  refine ev_s (is_iload_n rfl rfl) ?_
  refine ev_s (is_putI rfl (pu_sheet hC (j := s) (by omega)).2.1 rfl rfl rfl) ?_
  refine ev_s (is_aload_n rfl rfl) ?_
  refine ev_s (is_iload_n rfl rfl) ?_
  refine ev_s (is_iconst (nI 0) rfl rfl) ?_
  refine ev_s (is_bipush (nI 40) rfl rfl) ?_
  refine ev_c1 (is_call0 3 [_, _, _] [_] rfl rfl rfl rfl rfl (Nat.le_of_ble_eq_true rfl) rfl rfl rfl) rfl rfl (x_within' _ _ _) ?_
  rw [show pu_b (ho_rng (nI 0) (nI n) (nI 40) = true) = nI 1 from if_pos (ho_rng_t (by omega) hn (by decide))]
  refine ev_s (is_if_eq_f rfl (by decide)) ?_
  refine ev_s (is_iload_n rfl rfl) ?_
  refine ev_s (is_goto rfl) ?_
  refine ev_s (is_putI rfl (pu_sheet hC (j := s) (by omega)).2.1 rfl rfl rfl) ?_
  refine ev_s (is_iconst (nI 0) rfl rfl) ?_
  refine ev_s (st_istore_n_3 rfl rfl) ?_
  exact loop 40 0 _ (by omega) ((sc_rf.u (decide_eq_true (by omega))).u (decide_eq_true (by omega))) (by rw [im_u_j _ _ _ _ (by decide), im_u_s]) (by rw [im_u_s]) (fun q hq => absurd hq (by omega))
