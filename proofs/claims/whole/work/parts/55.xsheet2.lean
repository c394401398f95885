/-! ===== PURE, the class: sheet, cell, taken ===== -/

theorem x_hasPlaceG {d : Nat} {sh : im_Sh} {mi : im_MI} {mr : im_MR} (hC : pu_C sh mr) {s n : Nat} (hs : s < 4) (hN : mi (96 + 2 * s) 2 = nI n) (i : Int32) : EvM (d + 1) 25 [.ref (96 + 2 * s), .int i] sh mi mr (ev_R sh (.int (pu_b (ho_rng (nI 0) i (nI n - nI 1) = true))) mi mr) := by
  show Ev (d + 1) 25 0 [.ref (96 + 2 * s), .int i] [] sh mi mr _
  refine ev_s (is_iload_n rfl rfl) ?_
  refine ev_s (is_iconst (nI 0) rfl rfl) ?_
  refine ev_s (is_aload_n rfl rfl) ?_
  refine ev_s (is_getI' rfl (pu_sheet hC (j := s) (by omega)).2.1 rfl rfl hN) ?_
  refine ev_s (is_iconst (nI 1) rfl rfl) ?_
  first
    | refine ev_s (is_isub _ rfl (pk_sub (by omega))) ?_
    | refine ev_s (is_isub _ rfl rfl) ?_
  refine ev_c1 (is_call0 3 [_, _, _] [] rfl rfl rfl rfl rfl (Nat.le_of_ble_eq_true rfl) rfl rfl rfl) rfl rfl (x_within' _ _ _) ?_
  refine ev_ret (is_ireturn rfl rfl (by first | rfl | exact pu_b_nar | decide)) ?_
  exact ⟨rfl, rfl, rfl, rfl⟩

theorem pu_inS {j n : Nat} (h : j < n) (hn : n ≤ 40) : ho_rng (nI 0) (nI j) (nI n - nI 1) = true := decide_eq_true (pu_man' (by omega) h)

theorem x_setc {d : Nat} {sh : im_Sh} {mi : im_MI} {mr : im_MR} (hC : pu_C sh mr) {s n : Nat} (hs : s < 4) (hN : mi (96 + 2 * s) 2 = nI n) {z j : Nat} (hn : n ≤ 40) (hj : j < n) (hz4 : z < 4) (hS : mi (96 + 2 * s) 1 = nI z - 1) (v : Int32) : EvM (d + 2) 28 [.ref (96 + 2 * s), .int (nI j), .int v] sh mi mr (ev_R sh im_bad (im_u mi (97 + 2 * s) j (sh_v z v)) mr) := by
  show Ev (d + 2) 28 0 [.ref (96 + 2 * s), .int (nI j), .int v] [] sh mi mr _
  refine ev_s (is_aload_n rfl rfl) ?_
  refine ev_s (is_iload_n rfl rfl) ?_
  refine ev_c1 (is_callR 2 [_] [] rfl rfl rfl rfl rfl (Nat.le_of_ble_eq_true rfl) rfl rfl rfl (pu_sheet hC (j := s) (by omega)).2.1) rfl rfl (x_hasPlaceG hC hs hN _) ?_
  rw [show pu_b (ho_rng (nI 0) (nI j) (nI n - nI 1) = true) = nI 1 from if_pos (pu_inS hj hn)]
  refine ev_s (is_if_ne_t rfl (by decide)) ?_
  refine ev_s (is_aload_n rfl rfl) ?_
  refine ev_s (is_getI' rfl (pu_sheet hC (j := s) (by omega)).2.1 rfl rfl hS) ?_
  refine ev_if_ne rfl (fun h_13 => ?_) (fun h_13 => ?_)
  · refine ev_s (is_aload_n rfl rfl) ?_
    refine ev_s (is_getR rfl (pu_sheet hC (j := s) (by omega)).2.1 rfl rfl (pu_sheet hC (j := s) (by omega)).2.2.2) ?_
    refine ev_s (is_iload_n rfl rfl) ?_
    refine ev_s (is_aload_n rfl rfl) ?_
    refine ev_s (is_getI' rfl (pu_sheet hC (j := s) (by omega)).2.1 rfl rfl hS) ?_
    refine ev_s (is_iconst (nI 1) rfl rfl) ?_
    refine ev_icmp_ne rfl (fun h_37 => ?_) (fun h_37 => ?_)
    · refine ev_s (is_iload_n rfl rfl) ?_
      refine ev_s (is_iastore (j) rfl ((pu_sheet hC (j := s) (by omega)).2.2.1) rfl rfl (by omega)) ?_
      refine ev_ret (is_return rfl) ?_
      have e1 := (pu_sort hz4).2.1
      have e2 := (pu_sort hz4).2.2
      have h0 : (0 : Int32) = nI 0 := rfl
      refine ⟨rfl, rfl, ?_, rfl⟩
      unfold sh_v
      first
        | rw [if_pos (e1.mp (Decidable.of_not_not h_13))]
        | rw [if_neg (fun q => h_13 (e1.mpr q)), if_pos (e2.mp (Decidable.of_not_not h_37))]
        | rw [if_neg (fun q => h_13 (e1.mpr q)), if_neg (fun q => h_37 (e2.mpr q))]
    · refine ev_s (is_iload_n rfl rfl) ?_
      refine ev_s (is_i2s _ rfl rfl) ?_
      refine ev_s (is_goto rfl) ?_
      refine ev_s (is_iastore (j) rfl ((pu_sheet hC (j := s) (by omega)).2.2.1) rfl rfl (by omega)) ?_
      refine ev_ret (is_return rfl) ?_
      have e1 := (pu_sort hz4).2.1
      have e2 := (pu_sort hz4).2.2
      have h0 : (0 : Int32) = nI 0 := rfl
      refine ⟨rfl, rfl, ?_, rfl⟩
      unfold sh_v
      first
        | rw [if_pos (e1.mp (Decidable.of_not_not h_13))]
        | rw [if_neg (fun q => h_13 (e1.mpr q)), if_pos (e2.mp (Decidable.of_not_not h_37))]
        | rw [if_neg (fun q => h_13 (e1.mpr q)), if_neg (fun q => h_37 (e2.mpr q))]
  · refine ev_s (is_aload_n rfl rfl) ?_
    refine ev_s (is_getR rfl (pu_sheet hC (j := s) (by omega)).2.1 rfl rfl (pu_sheet hC (j := s) (by omega)).2.2.2) ?_
    refine ev_s (is_iload_n rfl rfl) ?_
    refine ev_s (is_iload_n rfl rfl) ?_
    refine ev_s (is_i2b _ rfl rfl) ?_
    refine ev_s (is_iastore (j) rfl ((pu_sheet hC (j := s) (by omega)).2.2.1) rfl rfl (by omega)) ?_
    refine ev_s (is_goto rfl) ?_
    refine ev_ret (is_return rfl) ?_
    have e1 := (pu_sort hz4).2.1
    have e2 := (pu_sort hz4).2.2
    have h0 : (0 : Int32) = nI 0 := rfl
    refine ⟨rfl, rfl, ?_, rfl⟩
    unfold sh_v
    first
      | rw [if_pos (e1.mp (Decidable.of_not_not h_13))]
      | rw [if_neg (fun q => h_13 (e1.mpr q)), if_pos (e2.mp (Decidable.of_not_not h_37))]
      | rw [if_neg (fun q => h_13 (e1.mpr q)), if_neg (fun q => h_37 (e2.mpr q))]

theorem xh_sheet {H K : ho_T} {mi m2 : im_MI} (h : xh_ok H K mi) (hn6 : H 0 0 ≤ 6) {s z n : Nat} (hs : s < 4) (hz : z < 4) (hn : n ≤ 40) (hsc : sc_ (xM2 (96 + 2 * s)) mi m2) (h1 : m2 (96 + 2 * s) 1 = nI z - 1) (h2 : m2 (96 + 2 * s) 2 = nI n) {f : Nat → Nat} (hf : ∀ j, f j < 2 ^ 32) (h3 : ∀ j, j < 40 → m2 (97 + 2 * s) j = nI (f j)) {K2 : ho_T} (k4 : ∀ q, K2 4 q = if q = s then z else K 4 q) (k5 : ∀ q, K2 5 q = if q = s then n else K 5 q) (k6 : ∀ q j, q < 4 → K2 (20 + q) j = if q = s then f j else K (20 + q) j) (ko : ∀ i j, i ≠ 4 → i ≠ 5 → (i < 20 ∨ 24 ≤ i) → K2 i j = K i j) : xh_ok H K2 m2 := by
  have hi6 := xh_i6 h hn6
  obtain ⟨g1, g2, g3, g4, g5, b1, b2, b3, b4, b5, b6⟩ := h
  have eo : ∀ k, k ≠ 96 + 2 * s → k ≠ 97 + 2 * s → m2 k = mi k := fun k q1 q2 => hsc k (decide_eq_false (by omega))
  have er : ∀ m, m < 6 → ho_irow H K2 m = ho_irow H K m := fun m hm => by
    funext j
    unfold ho_irow
    rw [ko (10 + m) j (by omega) (by omega) (by omega)]
  have k0 : ∀ j, K2 0 j = K 0 j := fun j => ko 0 j (by decide) (by decide) (by decide)
  have k6' : ∀ j, K2 6 j = K 6 j := fun j => ko 6 j (by decide) (by decide) (by decide)
  refine ⟨fun q hq => ?_, by rw [eo 33 (by omega) (by omega)]; exact g2, fun j hj => by rw [eo 34 (by omega) (by omega), k6']; exact g3 j hj, by rw [eo 40 (by omega) (by omega), k0]; exact g4, fun hi => ?_, fun q => ?_, fun q => ?_, fun q j hq => ?_, fun j => by rw [k6']; exact b4 j, by rw [k0]; exact b5, fun hi => ?_⟩
  · rw [k4, k5]
    by_cases hqs : q = s
    · subst hqs
      rw [if_pos rfl, if_pos rfl]
      exact ⟨h1, h2, fun j hj => by rw [k6 _ _ hq, if_pos rfl]; exact h3 j hj⟩
    · rw [if_neg hqs, if_neg hqs, eo _ (by omega) (by omega), eo _ (by omega) (by omega)]
      exact ⟨(g1 q hq).1, (g1 q hq).2.1, fun j hj => by rw [k6 _ _ hq, if_neg hqs]; exact (g1 q hq).2.2 j hj⟩
  · rw [k0] at hi
    have := hi6 hi
    obtain ⟨q1, q2, q3, q4⟩ := g5 hi
    rw [eo 40 (by omega) (by omega), k0, k0, k0]
    refine ⟨q1, q2, q3, fun m hm => ?_⟩
    rw [er m (by omega)]
    exact xm_row (q4 m hm) (eo _ (by omega) (by omega)) (eo _ (by omega) (by omega))
  · rw [k4]; split
    · exact hz
    · exact b1 q
  · rw [k5]; split
    · exact hn
    · exact b2 q
  · rw [k6 _ _ hq]; split
    · exact hf j
    · exact b3 q j hq
  · rw [k0] at hi
    have := hi6 hi
    obtain ⟨c1, c2, c3, c4, c5, c6, c7, c8⟩ := b6 hi
    simp only [k0]
    refine ⟨c1, c2, c3, fun m h hm hh => by rw [ko _ _ (by omega) (by omega) (by omega)]; exact c4 m h hm hh, fun m hm => by rw [ko _ _ (by omega) (by omega) (by omega)]; exact c5 m hm, fun m hm => by rw [ko _ _ (by omega) (by omega) (by omega)]; exact c6 m hm, fun m hm => by rw [ko _ _ (by omega) (by omega) (by omega)]; exact c7 m hm, fun m o hm ho hq => ?_⟩
    rw [ko _ _ (by omega) (by omega) (by omega), ko _ _ (by omega) (by omega) (by omega)] at hq
    exact c8 m o hm ho hq
theorem xM2_host {s : Nat} (hs : s < 4) (k : Nat) (h : xM2 (96 + 2 * s) k = true) : xHost k = true := by
  have := of_decide_eq_true h
  exact xHost_t (by omega)
theorem sh_K4 (K : ho_T) (s z n q : Nat) : sh_K K s z n 4 q = if q = s then z else K 4 q := by
  unfold sh_K
  by_cases h : q = s
  · rw [if_pos ⟨rfl, h⟩, if_pos h]
  · rw [if_neg (by omega), if_neg (by omega), if_neg (by omega), if_neg h]
theorem sh_K5 (K : ho_T) (s z n q : Nat) : sh_K K s z n 5 q = if q = s then n else K 5 q := by
  unfold sh_K
  rw [if_neg (by omega)]
  by_cases h : q = s
  · rw [if_pos ⟨rfl, h⟩, if_pos h]
  · rw [if_neg (by omega), if_neg (by omega), if_neg h]
theorem sh_K6 (K : ho_T) (s z n q j : Nat) : sh_K K s z n (20 + q) j = if q = s then 0 else K (20 + q) j := by
  unfold sh_K
  rw [if_neg (by omega), if_neg (by omega)]
  by_cases h : q = s
  · rw [if_pos (by omega), if_pos h]
  · rw [if_neg (by omega), if_neg h]
theorem sh_Ko (K : ho_T) {s z n i j : Nat} (hs : s < 4) (h4 : i ≠ 4) (h5 : i ≠ 5) (h : i < 20 ∨ 24 ≤ i) : sh_K K s z n i j = K i j := by
  unfold sh_K
  rw [if_neg (by omega), if_neg (by omega), if_neg (by omega)]
theorem xh_shK {H K : ho_T} {mi m2 : im_MI} (h : xh_ok H K mi) (hn6 : H 0 0 ≤ 6) {s z n : Nat} (hs : s < 4) (hz : z < 4) (hn : n ≤ 40) (hsc : sc_ (xM2 (96 + 2 * s)) mi m2) (h1 : m2 (96 + 2 * s) 1 = nI z - 1) (h2 : m2 (96 + 2 * s) 2 = nI n) (h3 : ∀ j, j < 40 → m2 (97 + 2 * s) j = nI 0) : xh_ok H (sh_K K s z n) m2 :=
  xh_sheet h hn6 hs hz hn hsc h1 h2 (f := fun _ => 0) (fun _ => by decide) h3 (sh_K4 K s z n) (sh_K5 K s z n) (fun q j _ => sh_K6 K s z n q j) (fun i j h4 h5 hi => sh_Ko K hs h4 h5 hi)
theorem ho_rngm_n {v : Int32} (h : ho_rng (-1) v (nI 2) = true) (h1 : v ≠ -1) : ∃ j, v = nI j ∧ j ≤ 2 ∧ jn (nI j) = j := by
  have h2 := of_decide_eq_true h
  have h3 : ¬ v < 0 := by
    intro q
    apply h1
    have q1 := Int32.le_iff_toInt_le.mp h2.1
    have q2 := Int32.lt_iff_toInt_lt.mp q
    rw [show (-1 : Int32).toInt = -1 by decide] at q1
    rw [show (0 : Int32).toInt = 0 by decide] at q2
    apply Int32.toInt_inj.mp
    rw [show (-1 : Int32).toInt = -1 by decide]
    omega
  obtain ⟨j, hj, rfl⟩ := nI_of h3
  exact ⟨j, rfl, (nI_leI hj (by decide)).mp h2.2, jn_n hj⟩

theorem x_sheet {d : Nat} {sh : im_Sh} {mi : im_MI} {mr : im_MR} (hC : pu_C sh mr) {H K : ho_T} {G : ho_G} (hx : xa_ok H G mi mr) (hz : xh_ok H K mi) (s sort n : Int32) : EvM (d + 2) 98 [.ref 29, .int s, .int sort, .int n] sh mi mr (fun r sh2 m2 r2 => sh2 = sh ∧ (r = .int (an_sheet s sort n) ∧ r2 = mr ∧ xa_ok (H) G m2 mr ∧ xh_ok (H) (st_sheet K s sort n) m2 ∧ sc_ xAll mi m2)) := by
  show Ev (d + 2) 98 0 [.ref 29, .int s, .int sort, .int n] [] sh mi mr _
  have hn6 := xa_n hx
  have hs : sc_ xQ mi mi := sc_rf
  refine ev_s (is_iload_n rfl rfl) ?_
  refine ev_c1 (is_call0 1 [_] [] rfl rfl rfl rfl rfl (Nat.le_of_ble_eq_true rfl) rfl rfl rfl) rfl rfl (x_noSheet _) ?_
  refine ev_ifB_ne rfl (fun h_4 => ?_) (fun h_4 => ?_)
  · refine ev_s (is_bipush ((-2)) rfl rfl) ?_
    refine ev_ret (is_ireturn rfl rfl (by first | rfl | exact pu_b_nar | decide)) ?_
    refine ⟨rfl, ?_, rfl, hx, ?_, sc_rf⟩
    · simp [an_sheet, h_4]
    · rw [show st_sheet K s sort n = K by simp [st_sheet, h_4]]; exact hz
  · have h_4 := Decidable.of_not_not h_4
    obtain ⟨s0, rfl, ls0, us0, es0⟩ := ho_rng_n h_4 (by decide) (by decide)
    refine ev_s (is_iload_n rfl rfl) ?_
    refine ev_s (is_iconst ((-1)) rfl rfl) ?_
    refine ev_s (is_iconst (nI 2) rfl rfl) ?_
    refine ev_c1 (is_call0 3 [_, _, _] [] rfl rfl rfl rfl rfl (Nat.le_of_ble_eq_true rfl) rfl rfl rfl) rfl rfl (x_within' _ _ _) ?_
    refine ev_ifB_ne rfl (fun h_13 => ?_) (fun h_13 => ?_)
    · refine ev_s (is_iload_n rfl rfl) ?_
      refine ev_s (is_iconst ((-1)) rfl rfl) ?_
      refine ev_icmp_ne rfl (fun h_21 => ?_) (fun h_21 => ?_)
      · refine ev_s (is_iload_n rfl rfl) ?_
        refine ev_s (is_bipush (nI 40) rfl rfl) ?_
        refine ev_icmp_le rfl (fun h_40 => ?_) (fun h_40 => ?_)
        · have h_40b : ¬ nI 40 < n := Int32.not_lt.mpr h_40
          refine ev_s (is_iload_n rfl rfl) ?_
          refine ev_if_ge rfl (fun h_47 => ?_) (fun h_47 => ?_)
          · have h_47b : ¬ n < 0 := Int32.not_lt.mpr h_47
            have hne : sort ≠ -1 := h_21
            obtain ⟨o0, rfl, uo0, eo0⟩ := ho_rngm_n h_13 hne
            obtain ⟨n0, hn0, rfl⟩ := nI_of (x := n) h_47b
            have hn40 : n0 ≤ 40 := by
              rcases Nat.lt_or_ge 40 n0 with q | q
              · exact absurd ((nI_ltI (by decide) hn0).mpr q) h_40b
              · exact q
            have en0 : jn (nI n0) = n0 := jn_n hn0
            refine ev_s (is_aload_n rfl rfl) ?_
            refine ev_s (is_getR rfl (pu_s hC 29 rfl rfl) rfl rfl (pu_r hC 29 12 rfl rfl)) ?_
            refine ev_s (is_iload_n rfl rfl) ?_
            refine ev_s (is_aaload (k := 4) (s0) rfl (pu_s hC 39 rfl rfl) rfl rfl rfl (by omega) (pu_sheet hC (by omega)).1) ?_
            refine ev_s (is_iload_n rfl rfl) ?_
            refine ev_s (is_iload_n rfl rfl) ?_
            refine ev_q0 (is_callR 3 [_, _] [] rfl rfl rfl rfl rfl (Nat.le_of_ble_eq_true rfl) rfl rfl rfl (pu_sheet hC (j := s0) (by omega)).2.1) rfl rfl (x_become4 hC (s := s0) (n := n0) (z := nI o0) (by omega) (by omega)) (fun r_61 mi mr hq_61 => ?_)
            obtain ⟨hmr, hsc, q1, q2, q3⟩ := hq_61
            have hmr := hmr.symm
            subst hmr
            refine ev_s (is_iconst (nI 1) rfl rfl) ?_
            refine ev_ret (is_ireturn rfl rfl (by first | rfl | exact pu_b_nar | decide)) ?_
            have hst : st_sheet K (nI s0) (nI o0) (nI n0) = sh_K K s0 (o0 + 1) n0 := by simp [st_sheet, h_4, h_13, es0, eo0, en0, hne, h_40b, h_47b]
            refine ⟨rfl, by simp [an_sheet, h_4, h_13, hne, h_40b, h_47b], rfl, xa_host' hx (hsc.mono (xM2_host (by omega))), ?_, (hsc.mono (xM2_host (by omega))).mono xHost_all⟩
            rw [hst]
            exact xh_shK hz hn6 (by omega) (by omega) (by omega) hsc (by rw [q1, show (1 : Int32) = nI 1 from rfl, pk_sub (by omega)]; rfl) q2 q3
          · refine ev_s (is_bipush ((-14)) rfl rfl) ?_
            refine ev_ret (is_ireturn rfl rfl (by first | rfl | exact pu_b_nar | decide)) ?_
            have h_47b : n < 0 := Int32.not_le.mp h_47
            refine ⟨rfl, ?_, rfl, hx, ?_, sc_rf⟩
            · simp [an_sheet, h_4, h_13, h_21, h_40b, h_47b]
            · rw [show st_sheet K (nI s0) sort n = K by simp [st_sheet, h_4, h_13, h_21, h_40b, h_47b]]; exact hz
        · refine ev_s (is_bipush ((-2)) rfl rfl) ?_
          refine ev_ret (is_ireturn rfl rfl (by first | rfl | exact pu_b_nar | decide)) ?_
          have h_40b : nI 40 < n := Int32.not_le.mp h_40
          refine ⟨rfl, ?_, rfl, hx, ?_, sc_rf⟩
          · simp [an_sheet, h_4, h_13, h_21, h_40b]
          · rw [show st_sheet K (nI s0) sort n = K by simp [st_sheet, h_4, h_13, h_21, h_40b]]; exact hz
      · refine ev_s (is_aload_n rfl rfl) ?_
        refine ev_s (is_getR rfl (pu_s hC 29 rfl rfl) rfl rfl (pu_r hC 29 12 rfl rfl)) ?_
        refine ev_s (is_iload_n rfl rfl) ?_
        refine ev_s (is_aaload (k := 4) (s0) rfl (pu_s hC 39 rfl rfl) rfl rfl rfl (by omega) (pu_sheet hC (by omega)).1) ?_
        refine ev_s (is_iconst ((-1)) rfl rfl) ?_
        refine ev_s (is_iconst (nI 0) rfl rfl) ?_
        refine ev_q0 (is_callR 3 [_, _] [] rfl rfl rfl rfl rfl (Nat.le_of_ble_eq_true rfl) rfl rfl rfl (pu_sheet hC (j := s0) (by omega)).2.1) rfl rfl (x_become4 hC (s := s0) (n := 0) (z := -1) (by omega) (by decide)) (fun r_32 mi mr hq_32 => ?_)
        obtain ⟨hmr, hsc, q1, q2, q3⟩ := hq_32
        have hmr := hmr.symm
        subst hmr
        refine ev_s (is_iconst (nI 1) rfl rfl) ?_
        refine ev_ret (is_ireturn rfl rfl (by first | rfl | exact pu_b_nar | decide)) ?_
        have e21 : sort = -1 := Decidable.of_not_not h_21
        subst e21
        have hst : st_sheet K (nI s0) (-1) n = sh_K K s0 0 0 := by simp [st_sheet, h_4, h_13, es0]
        refine ⟨rfl, by simp [an_sheet, h_4, h_13], rfl, xa_host' hx (hsc.mono (xM2_host (by omega))), ?_, (hsc.mono (xM2_host (by omega))).mono xHost_all⟩
        rw [hst]
        exact xh_shK hz hn6 (by omega) (by decide) (by decide) hsc (by rw [q1]; decide) q2 q3
    · refine ev_s (is_bipush ((-2)) rfl rfl) ?_
      refine ev_ret (is_ireturn rfl rfl (by first | rfl | exact pu_b_nar | decide)) ?_
      refine ⟨rfl, ?_, rfl, hx, ?_, sc_rf⟩
      · simp [an_sheet, h_4, es0, h_13]
      · rw [show st_sheet K (nI s0) sort n = K by simp [st_sheet, h_4, es0, h_13]]; exact hz
