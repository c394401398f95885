/-! ===== PURE, the reference: copy, menBy, taken ===== -/

theorem room_nn {K : ho_T} {s i n : Nat} (hz : K 5 s ≤ 40) (hi : i < 2 ^ 31) (hn : n < 2 ^ 31) : sh_room K s (nI i) (nI n) = true ↔ i + n ≤ K 5 s := by
  constructor
  · intro h
    obtain ⟨a, b, e1, e2, hab, _, _⟩ := sh_room_n hz h
    have := (nI_eq hi (by omega)).mp e1
    have := (nI_eq hn (by omega)).mp e2
    omega
  · intro h
    refine decide_eq_true ⟨nI_pos' hi, nI_pos' hn, ?_⟩
    rw [pk_sub (by omega)]
    exact nI_le (by omega) (by omega)
theorem room_ng {K : ho_T} {s : Nat} {i n : Int32} (h : i < 0 ∨ n < 0) : sh_room K s i n = false := decide_eq_false fun q => by
  rcases h with h | h
  · exact absurd h (Int32.not_lt.mpr q.1)
  · exact absurd h (Int32.not_lt.mpr q.2.1)
theorem cp_4 (K : ho_T) (s i o j n q : Nat) (ho : o < 4) : cp_K K s i o j n 4 q = if q = o then K 4 o else K 4 q := by
  unfold cp_K
  rw [if_neg (by omega)]
  by_cases h : q = o
  · rw [if_pos h, h]
  · rw [if_neg h]
theorem cp_5 (K : ho_T) (s i o j n q : Nat) (ho : o < 4) : cp_K K s i o j n 5 q = if q = o then K 5 o else K 5 q := by
  unfold cp_K
  rw [if_neg (by omega)]
  by_cases h : q = o
  · rw [if_pos h, h]
  · rw [if_neg h]
theorem cp_6 (K : ho_T) (s i o j n q b : Nat) : cp_K K s i o j n (20 + q) b = if q = o then (fun b => if j ≤ b ∧ b < j + n then K (20 + s) (i + (b - j)) else K (20 + o) b) b else K (20 + q) b := by
  unfold cp_K
  by_cases h : q = o
  · subst h
    rw [if_pos rfl]
    by_cases h2 : j ≤ b ∧ b < j + n
    · rw [if_pos ⟨rfl, h2⟩]; exact (if_pos h2).symm
    · rw [if_neg (by omega)]; exact (if_neg h2).symm
  · rw [if_neg h, if_neg (by omega)]
theorem rz_copy {H K : ho_T} {G : ho_G} {m0 mi m2 : im_MI} (h : rz_ H K G m0 mi) {s i o j n : Nat} (hs : s < 4) (ho : o < 4) (hi : i + n ≤ 40) (hj : j + n ≤ 40) (e : ∀ k, k ≠ 121 → m2 k = mi k) (g : ∀ q, m2 121 q = if 40 * o + j ≤ q ∧ q < 40 * o + j + n then mi 121 (40 * s + i + (q - (40 * o + j))) else mi 121 q) : rz_ H (cp_K K s i o j n) G m0 m2 := by
  have hb := rz_hb h
  have hR : rr_ok H G m2 := rr_row h.1 fun q h1 h2 => e q (by omega)
  refine rz_sh h (s := o) (z := K 4 o) (n := K 5 o) ho (hb.1 o) (hb.2.1 o) (f := fun b => if j ≤ b ∧ b < j + n then K (20 + s) (i + (b - j)) else K (20 + o) b) (fun q => ?_) hR (fun k h1 h2 h3 => e k (by omega)) (fun q hq => ?_) (fun q hq => ?_) (fun q b hq hb2 => ?_) (fun q => cp_4 K s i o j n q ho) (fun q => cp_5 K s i o j n q ho) (fun q b _ => cp_6 K s i o j n q b) (fun a b h4 h5 h6 => if_neg (by omega))
  · show (if j ≤ q ∧ q < j + n then _ else _) < _
    split
    · exact hb.2.2.1 s _ hs
    · exact hb.2.2.1 o q ho
  · rw [e 119 (by decide)]
    by_cases c : q = o
    · rw [if_pos c, c]; exact rz_sort h ho
    · rw [if_neg c]
  · rw [e 120 (by decide)]
    by_cases c : q = o
    · rw [if_pos c, c]; exact rz_size h ho
    · rw [if_neg c]
  · rw [g]
    by_cases c : q = o
    · subst c
      rw [if_pos rfl]
      show _ = nI (if j ≤ b ∧ b < j + n then K (20 + s) (i + (b - j)) else K (20 + q) b)
      by_cases c2 : j ≤ b ∧ b < j + n
      · rw [if_pos c2, if_pos (by omega), show 40 * s + i + (40 * q + b - (40 * q + j)) = 40 * s + (i + (b - j)) by omega]
        exact rz_cell h hs (by omega)
      · rw [if_neg c2, if_neg (by omega)]
        exact rz_cell h hq hb2
    · rw [if_neg c, if_neg (by omega)]

theorem r_copy {d : Nat} {sh : im_Sh} {mi : im_MI} {mr : im_MR} (hC : pu_C sh mr) {H K : ho_T} {G : ho_G} (hz : rz_ H K G mi mi) (s i o j n : Int32) : EvM (d + 1) 203 [.ref 110, .int s, .int i, .int o, .int j, .int n] sh mi mr (fun r sh2 m2 r2 => sh2 = sh ∧ (r = .int (an_copy K s i o j n) ∧ r2 = mr ∧ rz_ (H) (st_copy K s i o j n) G mi m2)) := by
  show Ev (d + 1) 203 0 [.ref 110, .int s, .int i, .int o, .int j, .int n, im_bad, im_bad, im_bad, im_bad] [] sh mi mr _
  have hn6 := rz_n hz
  refine ev_s (is_iload_n rfl rfl) ?_
  refine ev_s (is_iconst (nI 0) rfl rfl) ?_
  refine ev_s (is_iconst (nI 3) rfl rfl) ?_
  refine ev_c1 (is_call0 3 [_, _, _] [] rfl rfl rfl rfl rfl (Nat.le_of_ble_eq_true rfl) rfl rfl rfl) rfl rfl (r_in' _ _ _) ?_
  refine ev_ifB_eq rfl (fun h_6 => ?_) (fun h_6 => ?_)
  · refine ev_s (is_bipush ((-2)) rfl rfl) ?_
    refine ev_ret (is_ireturn rfl rfl (by first | rfl | exact pu_b_nar | decide)) ?_
    rw [show an_copy K s i o j n = -2 by simp [an_copy, h_6], show st_copy K s i o j n = K by simp [st_copy, h_6]]
    exact ⟨rfl, rfl, rfl, hz⟩
  · obtain ⟨s0, rfl, ls0, us0, es0⟩ := ho_rng_n h_6 (by decide) (by decide)
    have hbs := rz_hs hz s0
    refine ev_s (is_iload_n rfl rfl) ?_
    refine ev_s (is_iconst (nI 0) rfl rfl) ?_
    refine ev_s (is_iconst (nI 3) rfl rfl) ?_
    refine ev_c1 (is_call0 3 [_, _, _] [] rfl rfl rfl rfl rfl (Nat.le_of_ble_eq_true rfl) rfl rfl rfl) rfl rfl (r_in' _ _ _) ?_
    refine ev_ifB_ne rfl (fun h_15 => ?_) (fun h_15 => ?_)
    · obtain ⟨o0, rfl, lo0, uo0, eo0⟩ := ho_rng_n h_15 (by decide) (by decide)
      have hbo := rz_hs hz o0
      refine ev_s (is_aload_n rfl rfl) ?_
      refine ev_s (is_getR rfl (pu_s hC 110 rfl rfl) rfl rfl (pu_r hC 110 14 rfl rfl)) ?_
      refine ev_s (is_iload_n rfl rfl) ?_
      refine ev_s (is_iaload' (s0) rfl (pu_s hC 119 rfl rfl) rfl rfl (by omega) (rz_sort hz (by omega))) ?_
      refine ev_s (is_iconst ((-1)) rfl rfl) ?_
      refine ev_icmp_eq rfl (fun h_28 => ?_) (fun h_28 => ?_)
      · have e28 : K 4 s0 = 0 := (pu_srt hbs.1).mp h_28
        refine ev_s (is_bipush ((-11)) rfl rfl) ?_
        refine ev_ret (is_ireturn rfl rfl (by first | rfl | exact pu_b_nar | decide)) ?_
        rw [show an_copy K (nI s0) i (nI o0) j n = -11 by simp [an_copy, h_6, es0, h_15, eo0, e28], show st_copy K (nI s0) i (nI o0) j n = K by simp [st_copy, h_6, es0, h_15, eo0, e28]]
        exact ⟨rfl, rfl, rfl, hz⟩
      · have e28 : ¬ K 4 s0 = 0 := fun q => h_28 ((pu_srt hbs.1).mpr q)
        refine ev_s (is_aload_n rfl rfl) ?_
        refine ev_s (is_getR rfl (pu_s hC 110 rfl rfl) rfl rfl (pu_r hC 110 14 rfl rfl)) ?_
        refine ev_s (is_iload_n rfl rfl) ?_
        refine ev_s (is_iaload' (o0) rfl (pu_s hC 119 rfl rfl) rfl rfl (by omega) (rz_sort hz (by omega))) ?_
        refine ev_s (is_iconst ((-1)) rfl rfl) ?_
        refine ev_icmp_ne rfl (fun h_38 => ?_) (fun h_38 => ?_)
        · have e38 : ¬ K 4 o0 = 0 := fun q => h_38 ((pu_srt hbo.1).mpr q)
          refine ev_s (is_aload_n rfl rfl) ?_
          refine ev_s (is_getR rfl (pu_s hC 110 rfl rfl) rfl rfl (pu_r hC 110 14 rfl rfl)) ?_
          refine ev_s (is_iload_n rfl rfl) ?_
          refine ev_s (is_iaload' (s0) rfl (pu_s hC 119 rfl rfl) rfl rfl (by omega) (rz_sort hz (by omega))) ?_
          refine ev_s (is_aload_n rfl rfl) ?_
          refine ev_s (is_getR rfl (pu_s hC 110 rfl rfl) rfl rfl (pu_r hC 110 14 rfl rfl)) ?_
          refine ev_s (is_iload_n rfl rfl) ?_
          refine ev_s (is_iaload' (o0) rfl (pu_s hC 119 rfl rfl) rfl rfl (by omega) (rz_sort hz (by omega))) ?_
          refine ev_icmp_eq rfl (fun h_56 => ?_) (fun h_56 => ?_)
          · have e56 : K 4 s0 = K 4 o0 := (pu_sub1 hbs.1 hbo.1).mp h_56
            refine ev_s (is_iload rfl rfl) ?_
            refine ev_if_lt rfl (fun h_64 => ?_) (fun h_64 => ?_)
            · have ers : sh_room K s0 i n = false := room_ng (Or.inr h_64)
              refine ev_s (is_bipush ((-12)) rfl rfl) ?_
              refine ev_ret (is_ireturn rfl rfl (by first | rfl | exact pu_b_nar | decide)) ?_
              rw [show an_copy K (nI s0) i (nI o0) j n = -12 by simp [an_copy, h_6, es0, h_15, eo0, e28, e38, e56, ers], show st_copy K (nI s0) i (nI o0) j n = K by simp [st_copy, h_6, es0, h_15, eo0, e28, e38, e56, ers]]
              exact ⟨rfl, rfl, rfl, hz⟩
            · refine ev_s (is_iload_n rfl rfl) ?_
              refine ev_if_lt rfl (fun h_68 => ?_) (fun h_68 => ?_)
              · have ers : sh_room K s0 i n = false := room_ng (Or.inl h_68)
                refine ev_s (is_bipush ((-12)) rfl rfl) ?_
                refine ev_ret (is_ireturn rfl rfl (by first | rfl | exact pu_b_nar | decide)) ?_
                rw [show an_copy K (nI s0) i (nI o0) j n = -12 by simp [an_copy, h_6, es0, h_15, eo0, e28, e38, e56, ers], show st_copy K (nI s0) i (nI o0) j n = K by simp [st_copy, h_6, es0, h_15, eo0, e28, e38, e56, ers]]
                exact ⟨rfl, rfl, rfl, hz⟩
              · refine ev_s (is_iload rfl rfl) ?_
                refine ev_if_lt rfl (fun h_73 => ?_) (fun h_73 => ?_)
                · have ero : sh_room K o0 j n = false := room_ng (Or.inl h_73)
                  refine ev_s (is_bipush ((-12)) rfl rfl) ?_
                  refine ev_ret (is_ireturn rfl rfl (by first | rfl | exact pu_b_nar | decide)) ?_
                  rw [show an_copy K (nI s0) i (nI o0) j n = -12 by simp [an_copy, h_6, es0, h_15, eo0, e28, e38, e56, ero], show st_copy K (nI s0) i (nI o0) j n = K by simp [st_copy, h_6, es0, h_15, eo0, e28, e38, e56, ero]]
                  exact ⟨rfl, rfl, rfl, hz⟩
                · obtain ⟨n0, hn31, rfl⟩ := nI_of h_64
                  obtain ⟨i0, hi31, rfl⟩ := nI_of h_68
                  obtain ⟨j0, hj31, rfl⟩ := nI_of h_73
                  have en0 := jn_n hn31
                  have ei0 := jn_n hi31
                  have ej0 := jn_n hj31
                  refine ev_s (is_iload_n rfl rfl) ?_
                  refine ev_s (is_aload_n rfl rfl) ?_
                  refine ev_s (is_getR rfl (pu_s hC 110 rfl rfl) rfl rfl (pu_r hC 110 15 rfl rfl)) ?_
                  refine ev_s (is_iload_n rfl rfl) ?_
                  refine ev_s (is_iaload' (s0) rfl (pu_s hC 120 rfl rfl) rfl rfl (by omega) (rz_size hz (by omega))) ?_
                  refine ev_icmpN_gt rfl (by omega) (by omega) (fun h_83 => ?_) (fun h_83 => ?_)
                  · have ers : sh_room K s0 (nI i0) (nI n0) = false := Bool.eq_false_iff.mpr (fun q => absurd ((room_nn hbs.2 (by omega) (by omega)).mp q) (by omega))
                    refine ev_s (is_bipush ((-12)) rfl rfl) ?_
                    refine ev_ret (is_ireturn rfl rfl (by first | rfl | exact pu_b_nar | decide)) ?_
                    rw [show an_copy K (nI s0) (nI i0) (nI o0) (nI j0) (nI n0) = -12 by simp [an_copy, h_6, es0, h_15, eo0, e28, e38, e56, ers], show st_copy K (nI s0) (nI i0) (nI o0) (nI j0) (nI n0) = K by simp [st_copy, h_6, es0, h_15, eo0, e28, e38, e56, ers]]
                    exact ⟨rfl, rfl, rfl, hz⟩
                  · refine ev_s (is_iload rfl rfl) ?_
                    refine ev_s (is_aload_n rfl rfl) ?_
                    refine ev_s (is_getR rfl (pu_s hC 110 rfl rfl) rfl rfl (pu_r hC 110 15 rfl rfl)) ?_
                    refine ev_s (is_iload_n rfl rfl) ?_
                    refine ev_s (is_iaload' (o0) rfl (pu_s hC 120 rfl rfl) rfl rfl (by omega) (rz_size hz (by omega))) ?_
                    refine ev_icmpN_gt rfl (by omega) (by omega) (fun h_94 => ?_) (fun h_94 => ?_)
                    · have ero : sh_room K o0 (nI j0) (nI n0) = false := Bool.eq_false_iff.mpr (fun q => absurd ((room_nn hbo.2 (by omega) (by omega)).mp q) (by omega))
                      refine ev_s (is_bipush ((-12)) rfl rfl) ?_
                      refine ev_ret (is_ireturn rfl rfl (by first | rfl | exact pu_b_nar | decide)) ?_
                      rw [show an_copy K (nI s0) (nI i0) (nI o0) (nI j0) (nI n0) = -12 by simp [an_copy, h_6, es0, h_15, eo0, e28, e38, e56, ero], show st_copy K (nI s0) (nI i0) (nI o0) (nI j0) (nI n0) = K by simp [st_copy, h_6, es0, h_15, eo0, e28, e38, e56, ero]]
                      exact ⟨rfl, rfl, rfl, hz⟩
                    · refine ev_s (is_iload rfl rfl) ?_
                      refine ev_s (is_aload_n rfl rfl) ?_
                      refine ev_s (is_getR rfl (pu_s hC 110 rfl rfl) rfl rfl (pu_r hC 110 15 rfl rfl)) ?_
                      refine ev_s (is_iload_n rfl rfl) ?_
                      refine ev_s (is_iaload' (s0) rfl (pu_s hC 120 rfl rfl) rfl rfl (by omega) (rz_size hz (by omega))) ?_
                      refine ev_s (is_iload_n rfl rfl) ?_
                      refine ev_s (is_isub _ rfl (pk_sub (by omega))) ?_
                      refine ev_icmpN_gt rfl (by omega) (by omega) (fun h_107 => ?_) (fun h_107 => ?_)
                      · have ers : sh_room K s0 (nI i0) (nI n0) = false := Bool.eq_false_iff.mpr (fun q => absurd ((room_nn hbs.2 (by omega) (by omega)).mp q) (by omega))
                        refine ev_s (is_bipush ((-12)) rfl rfl) ?_
                        refine ev_ret (is_ireturn rfl rfl (by first | rfl | exact pu_b_nar | decide)) ?_
                        rw [show an_copy K (nI s0) (nI i0) (nI o0) (nI j0) (nI n0) = -12 by simp [an_copy, h_6, es0, h_15, eo0, e28, e38, e56, ers], show st_copy K (nI s0) (nI i0) (nI o0) (nI j0) (nI n0) = K by simp [st_copy, h_6, es0, h_15, eo0, e28, e38, e56, ers]]
                        exact ⟨rfl, rfl, rfl, hz⟩
                      · refine ev_s (is_iload rfl rfl) ?_
                        refine ev_s (is_aload_n rfl rfl) ?_
                        refine ev_s (is_getR rfl (pu_s hC 110 rfl rfl) rfl rfl (pu_r hC 110 15 rfl rfl)) ?_
                        refine ev_s (is_iload_n rfl rfl) ?_
                        refine ev_s (is_iaload' (o0) rfl (pu_s hC 120 rfl rfl) rfl rfl (by omega) (rz_size hz (by omega))) ?_
                        refine ev_s (is_iload rfl rfl) ?_
                        refine ev_s (is_isub _ rfl (pk_sub (by omega))) ?_
                        refine ev_icmpN_le rfl (by omega) (by omega) (fun h_121 => ?_) (fun h_121 => ?_)
                        · have ers : sh_room K s0 (nI i0) (nI n0) = true := (room_nn hbs.2 hi31 hn31).mpr (by omega)
                          have ero : sh_room K o0 (nI j0) (nI n0) = true := (room_nn hbo.2 hj31 hn31).mpr (by omega)
                          refine ev_s (is_bipush (nI 40) rfl rfl) ?_
                          refine ev_s (is_iload_n rfl rfl) ?_
                          first
                            | refine ev_s (is_imul _ rfl (pk_mul _ _)) ?_
                            | refine ev_s (is_imul _ rfl rfl) ?_
                          refine ev_s (is_iload_n rfl rfl) ?_
                          first
                            | refine ev_s (is_iadd _ rfl (nI_add _ _)) ?_
                            | refine ev_s (is_iadd _ rfl rfl) ?_
                          refine ev_s (st_istore_6 rfl rfl) ?_
                          refine ev_s (is_bipush (nI 40) rfl rfl) ?_
                          refine ev_s (is_iload_n rfl rfl) ?_
                          first
                            | refine ev_s (is_imul _ rfl (pk_mul _ _)) ?_
                            | refine ev_s (is_imul _ rfl rfl) ?_
                          refine ev_s (is_iload rfl rfl) ?_
                          first
                            | refine ev_s (is_iadd _ rfl (nI_add _ _)) ?_
                            | refine ev_s (is_iadd _ rfl rfl) ?_
                          refine ev_s (st_istore_7 rfl rfl) ?_
                          refine ev_s (is_iconst (nI 0) rfl rfl) ?_
                          refine ev_s (st_istore_8 rfl rfl) ?_
                          rw [show an_copy K (nI s0) (nI i0) (nI o0) (nI j0) (nI n0) = nI n0 by simp [an_copy, h_6, es0, h_15, eo0, e28, e38, e56, ers, ero, en0, ei0, ej0], show st_copy K (nI s0) (nI i0) (nI o0) (nI j0) (nI n0) = cp_K K s0 i0 o0 j0 n0 by simp [st_copy, h_6, es0, h_15, eo0, e28, e38, e56, ers, ero, en0, ei0, ej0]]
                          rcases Nat.lt_or_ge (40 * s0 + i0) (40 * o0 + j0) with hab | hab
                          · have loop : ∀ (j i : Nat) (w9 : Value) (ma : im_MI), i + j = n0 → (∀ k, k ≠ 121 → ma k = mi k) → (∀ q, ma 121 q = if (40 * o0 + j0) + (n0 - i) ≤ q ∧ q < (40 * o0 + j0) + n0 then mi 121 ((40 * s0 + i0) + (q - (40 * o0 + j0))) else mi 121 q) → Ev (d + 1) 203 147 [.ref 110, .int (nI s0), .int (nI i0), .int (nI o0), .int (nI j0), .int (nI n0), .int (nI (40 * s0 + i0)), .int (nI (40 * o0 + j0)), .int (nI i), w9] [] sh ma mr (fun r sh2 m2 r2 => sh2 = sh ∧ (r = .int (nI n0) ∧ r2 = mr ∧ rz_ (H) (cp_K K s0 i0 o0 j0 n0) G mi m2)) := by
                              intro j
                              induction j with
                              | zero =>
                                intro i w9 ma hi e g
                                refine ev_s (is_iload rfl rfl) ?_
                                refine ev_s (is_iload rfl rfl) ?_
                                refine ev_s (is_icmp_ge_t rfl (nI_le (by omega) (by omega))) ?_
                                refine ev_s (is_iload rfl rfl) ?_
                                refine ev_ret (is_ireturn rfl rfl (by first | rfl | exact pu_b_nar | decide)) ?_
                                refine ⟨rfl, rfl, rfl, rz_copy hz (by omega) (by omega) (by omega) (by omega) e (fun q => ?_)⟩
                                rw [g]
                                by_cases c : (40 * o0 + j0) ≤ q ∧ q < (40 * o0 + j0) + n0
                                · rw [if_pos c, if_pos (by omega)]
                                · rw [if_neg c, if_neg (by omega)]
                              | succ j ih =>
                                intro i w9 ma hi e g
                                refine ev_s (is_iload rfl rfl) ?_
                                refine ev_s (is_iload rfl rfl) ?_
                                refine ev_s (is_icmp_ge_f rfl (nI_ge (by omega) (by omega))) ?_
                                refine ev_s (is_iload rfl rfl) ?_
                                refine ev_s (is_iload rfl rfl) ?_
                                refine ev_s (is_icmp_ge_f rfl (nI_ge (by omega) (by omega))) ?_
                                refine ev_s (is_iload rfl rfl) ?_
                                refine ev_s (is_iconst (nI 1) rfl rfl) ?_
                                refine ev_s (is_isub _ rfl (pk_sub (by omega))) ?_
                                refine ev_s (is_iload rfl rfl) ?_
                                refine ev_s (is_isub _ rfl (pk_sub (by omega))) ?_
                                refine ev_s (is_goto rfl) ?_
                                refine ev_s (st_istore_9 rfl rfl) ?_
                                refine ev_s (is_aload_n rfl rfl) ?_
                                refine ev_s (is_getR rfl (pu_s hC 110 rfl rfl) rfl rfl (pu_r hC 110 16 rfl rfl)) ?_
                                refine ev_s (is_iload rfl rfl) ?_
                                refine ev_s (is_iload rfl rfl) ?_
                                first
                                  | refine ev_s (is_iadd _ rfl (nI_add _ _)) ?_
                                  | refine ev_s (is_iadd _ rfl rfl) ?_
                                refine ev_s (is_aload_n rfl rfl) ?_
                                refine ev_s (is_getR rfl (pu_s hC 110 rfl rfl) rfl rfl (pu_r hC 110 16 rfl rfl)) ?_
                                refine ev_s (is_iload rfl rfl) ?_
                                refine ev_s (is_iload rfl rfl) ?_
                                first
                                  | refine ev_s (is_iadd _ rfl (nI_add _ _)) ?_
                                  | refine ev_s (is_iadd _ rfl rfl) ?_
                                refine ev_s (is_iaload' ((40 * s0 + i0) + (n0 - 1 - i)) rfl (pu_s hC 121 rfl rfl) rfl rfl (by omega) (show ma 121 ((40 * s0 + i0) + (n0 - 1 - i)) = mi 121 ((40 * s0 + i0) + (n0 - 1 - i)) by rw [g, if_neg (by omega)])) ?_
                                refine ev_s (is_iastore ((40 * o0 + j0) + (n0 - 1 - i)) rfl (pu_s hC 121 rfl rfl) rfl rfl (by omega)) ?_
                                refine ev_s (st_iinc_8 _ rfl rfl (nI_inc _)) ?_
                                refine ev_s (is_goto rfl) ?_
                                refine ih (i + 1) _ _ (by omega) (fun k hk => by rw [im_u_kk _ _ _ _ hk]; exact e k hk) (fun q => ?_)
                                by_cases c : q = (40 * o0 + j0) + (n0 - 1 - i)
                                · rw [c, im_u_s, if_pos (by omega), show (40 * s0 + i0) + ((40 * o0 + j0) + (n0 - 1 - i) - (40 * o0 + j0)) = (40 * s0 + i0) + (n0 - 1 - i) by omega]
                                · rw [im_u_j _ _ _ _ c, g]
                                  by_cases c2 : (40 * o0 + j0) + (n0 - i) ≤ q ∧ q < (40 * o0 + j0) + n0
                                  · rw [if_pos c2, if_pos (by omega)]
                                  · rw [if_neg c2, if_neg (by omega)]
                            exact loop n0 0 _ mi (by omega) (fun _ _ => rfl) (fun q => (if_neg (by omega)).symm)
                          · have loop : ∀ (j i : Nat) (w9 : Value) (ma : im_MI), i + j = n0 → (∀ k, k ≠ 121 → ma k = mi k) → (∀ q, ma 121 q = if (40 * o0 + j0) ≤ q ∧ q < (40 * o0 + j0) + i then mi 121 ((40 * s0 + i0) + (q - (40 * o0 + j0))) else mi 121 q) → Ev (d + 1) 203 147 [.ref 110, .int (nI s0), .int (nI i0), .int (nI o0), .int (nI j0), .int (nI n0), .int (nI (40 * s0 + i0)), .int (nI (40 * o0 + j0)), .int (nI i), w9] [] sh ma mr (fun r sh2 m2 r2 => sh2 = sh ∧ (r = .int (nI n0) ∧ r2 = mr ∧ rz_ (H) (cp_K K s0 i0 o0 j0 n0) G mi m2)) := by
                              intro j
                              induction j with
                              | zero =>
                                intro i w9 ma hi e g
                                refine ev_s (is_iload rfl rfl) ?_
                                refine ev_s (is_iload rfl rfl) ?_
                                refine ev_s (is_icmp_ge_t rfl (nI_le (by omega) (by omega))) ?_
                                refine ev_s (is_iload rfl rfl) ?_
                                refine ev_ret (is_ireturn rfl rfl (by first | rfl | exact pu_b_nar | decide)) ?_
                                refine ⟨rfl, rfl, rfl, rz_copy hz (by omega) (by omega) (by omega) (by omega) e (fun q => ?_)⟩
                                rw [g]
                                by_cases c : (40 * o0 + j0) ≤ q ∧ q < (40 * o0 + j0) + n0
                                · rw [if_pos c, if_pos (by omega)]
                                · rw [if_neg c, if_neg (by omega)]
                              | succ j ih =>
                                intro i w9 ma hi e g
                                refine ev_s (is_iload rfl rfl) ?_
                                refine ev_s (is_iload rfl rfl) ?_
                                refine ev_s (is_icmp_ge_f rfl (nI_ge (by omega) (by omega))) ?_
                                refine ev_s (is_iload rfl rfl) ?_
                                refine ev_s (is_iload rfl rfl) ?_
                                refine ev_s (is_icmp_ge_t rfl (nI_le (by omega) (by omega))) ?_
                                refine ev_s (is_iload rfl rfl) ?_
                                refine ev_s (st_istore_9 rfl rfl) ?_
                                refine ev_s (is_aload_n rfl rfl) ?_
                                refine ev_s (is_getR rfl (pu_s hC 110 rfl rfl) rfl rfl (pu_r hC 110 16 rfl rfl)) ?_
                                refine ev_s (is_iload rfl rfl) ?_
                                refine ev_s (is_iload rfl rfl) ?_
                                first
                                  | refine ev_s (is_iadd _ rfl (nI_add _ _)) ?_
                                  | refine ev_s (is_iadd _ rfl rfl) ?_
                                refine ev_s (is_aload_n rfl rfl) ?_
                                refine ev_s (is_getR rfl (pu_s hC 110 rfl rfl) rfl rfl (pu_r hC 110 16 rfl rfl)) ?_
                                refine ev_s (is_iload rfl rfl) ?_
                                refine ev_s (is_iload rfl rfl) ?_
                                first
                                  | refine ev_s (is_iadd _ rfl (nI_add _ _)) ?_
                                  | refine ev_s (is_iadd _ rfl rfl) ?_
                                refine ev_s (is_iaload' ((40 * s0 + i0) + i) rfl (pu_s hC 121 rfl rfl) rfl rfl (by omega) (show ma 121 ((40 * s0 + i0) + i) = mi 121 ((40 * s0 + i0) + i) by rw [g, if_neg (by omega)])) ?_
                                refine ev_s (is_iastore ((40 * o0 + j0) + i) rfl (pu_s hC 121 rfl rfl) rfl rfl (by omega)) ?_
                                refine ev_s (st_iinc_8 _ rfl rfl (nI_inc _)) ?_
                                refine ev_s (is_goto rfl) ?_
                                refine ih (i + 1) _ _ (by omega) (fun k hk => by rw [im_u_kk _ _ _ _ hk]; exact e k hk) (fun q => ?_)
                                by_cases c : q = (40 * o0 + j0) + i
                                · rw [c, im_u_s, if_pos (by omega), show (40 * s0 + i0) + ((40 * o0 + j0) + i - (40 * o0 + j0)) = (40 * s0 + i0) + i by omega]
                                · rw [im_u_j _ _ _ _ c, g]
                                  by_cases c2 : (40 * o0 + j0) ≤ q ∧ q < (40 * o0 + j0) + i
                                  · rw [if_pos c2, if_pos (by omega)]
                                  · rw [if_neg c2, if_neg (by omega)]
                            exact loop n0 0 _ mi (by omega) (fun _ _ => rfl) (fun q => (if_neg (by omega)).symm)
                        · have ero : sh_room K o0 (nI j0) (nI n0) = false := Bool.eq_false_iff.mpr (fun q => absurd ((room_nn hbo.2 (by omega) (by omega)).mp q) (by omega))
                          refine ev_s (is_bipush ((-12)) rfl rfl) ?_
                          refine ev_ret (is_ireturn rfl rfl (by first | rfl | exact pu_b_nar | decide)) ?_
                          rw [show an_copy K (nI s0) (nI i0) (nI o0) (nI j0) (nI n0) = -12 by simp [an_copy, h_6, es0, h_15, eo0, e28, e38, e56, ero], show st_copy K (nI s0) (nI i0) (nI o0) (nI j0) (nI n0) = K by simp [st_copy, h_6, es0, h_15, eo0, e28, e38, e56, ero]]
                          exact ⟨rfl, rfl, rfl, hz⟩
          · have e56 : ¬ K 4 s0 = K 4 o0 := fun q => h_56 ((pu_sub1 hbs.1 hbo.1).mpr q)
            refine ev_s (is_bipush ((-13)) rfl rfl) ?_
            refine ev_ret (is_ireturn rfl rfl (by first | rfl | exact pu_b_nar | decide)) ?_
            rw [show an_copy K (nI s0) i (nI o0) j n = -13 by simp [an_copy, h_6, es0, h_15, eo0, e28, e38, e56], show st_copy K (nI s0) i (nI o0) j n = K by simp [st_copy, h_6, es0, h_15, eo0, e28, e38, e56]]
            exact ⟨rfl, rfl, rfl, hz⟩
        · have e38 : K 4 o0 = 0 := (pu_srt hbo.1).mp (Decidable.of_not_not h_38)
          refine ev_s (is_bipush ((-11)) rfl rfl) ?_
          refine ev_ret (is_ireturn rfl rfl (by first | rfl | exact pu_b_nar | decide)) ?_
          rw [show an_copy K (nI s0) i (nI o0) j n = -11 by simp [an_copy, h_6, es0, h_15, eo0, e28, e38], show st_copy K (nI s0) i (nI o0) j n = K by simp [st_copy, h_6, es0, h_15, eo0, e28, e38]]
          exact ⟨rfl, rfl, rfl, hz⟩
    · refine ev_s (is_bipush ((-2)) rfl rfl) ?_
      refine ev_ret (is_ireturn rfl rfl (by first | rfl | exact pu_b_nar | decide)) ?_
      rw [show an_copy K (nI s0) i o j n = -2 by simp [an_copy, h_6, es0, h_15], show st_copy K (nI s0) i o j n = K by simp [st_copy, h_6, es0, h_15]]
      exact ⟨rfl, rfl, rfl, hz⟩

theorem mb_lt {z : Nat} {frm : Int32} {k : Nat} (hz : z ≤ 40) (hk : k ≤ 5) (h0 : k = 0 ∨ (0 ≤ frm ∧ frm ≤ nI z - nI 1)) : (¬ frm < 0 ∧ ¬ frm + nI k < frm ∧ frm + nI k ≤ nI z - nI 1) ↔ ho_rng (nI 0) (frm + nI k) (nI z - nI 1) = true := by
  have e0 : (0 : Int32).toInt = 0 := by decide
  have e00 : (nI 0).toInt = 0 := by decide
  have ez : (nI z - nI 1).toInt = (z : Int) - 1 := pk_sub_toInt (by omega) (by decide)
  have hfl := Int32.le_toInt frm
  have hfu := Int32.toInt_lt frm
  have es : (frm + nI k).toInt = (frm.toInt + (k : Int)).bmod (2 ^ 32) := by rw [Int32.toInt_add, nI_toInt (by omega)]
  rw [Int.bmod_def] at es
  unfold ho_rng
  rw [decide_eq_true_iff]
  simp only [Int32.le_iff_toInt_le, Int32.lt_iff_toInt_lt, e0, e00, ez] at h0 ⊢
  rcases h0 with rfl | h0 <;> omega

theorem r_menBy {d : Nat} {sh : im_Sh} {mi : im_MI} {mr : im_MR} (hC : pu_C sh mr) {H K : ho_T} {G : ho_G} (hz : rz_ H K G mi mi) (s sort frm n : Int32) : EvM (d + 2) 204 [.ref 110, .int s, .int sort, .int frm, .int n] sh mi mr (fun r sh2 m2 r2 => sh2 = sh ∧ (r = .int ((an_menBy H K s sort frm n).1) ∧ r2 = mr ∧ rz_ ((an_menBy H K s sort frm n).2) (K) G mi m2)) := by
  show Ev (d + 2) 204 0 [.ref 110, .int s, .int sort, .int frm, .int n, im_bad, im_bad, im_bad, im_bad] [] sh mi mr _
  have hn6 := rz_n hz
  refine ev_s (is_iload_n rfl rfl) ?_
  refine ev_s (is_iconst (nI 0) rfl rfl) ?_
  refine ev_s (is_iconst (nI 3) rfl rfl) ?_
  refine ev_c1 (is_call0 3 [_, _, _] [] rfl rfl rfl rfl rfl (Nat.le_of_ble_eq_true rfl) rfl rfl rfl) rfl rfl (r_in' _ _ _) ?_
  refine ev_ifB_eq rfl (fun h_6 => ?_) (fun h_6 => ?_)
  · refine ev_s (is_bipush ((-2)) rfl rfl) ?_
    refine ev_ret (is_ireturn rfl rfl (by first | rfl | exact pu_b_nar | decide)) ?_
    rw [show an_menBy H K s sort frm n = (-2, H) by simp [an_menBy, h_6]]
    exact ⟨rfl, rfl, rfl, hz⟩
  · obtain ⟨s0, rfl, ls0, us0, es0⟩ := ho_rng_n h_6 (by decide) (by decide)
    have hbs := rz_hs hz s0
    refine ev_s (is_iload_n rfl rfl) ?_
    refine ev_s (is_iconst (nI 0) rfl rfl) ?_
    refine ev_s (is_iconst (nI 2) rfl rfl) ?_
    refine ev_c1 (is_call0 3 [_, _, _] [] rfl rfl rfl rfl rfl (Nat.le_of_ble_eq_true rfl) rfl rfl rfl) rfl rfl (r_in' _ _ _) ?_
    refine ev_ifB_eq rfl (fun h_15 => ?_) (fun h_15 => ?_)
    · refine ev_s (is_bipush ((-2)) rfl rfl) ?_
      refine ev_ret (is_ireturn rfl rfl (by first | rfl | exact pu_b_nar | decide)) ?_
      rw [show an_menBy H K (nI s0) sort frm n = (-2, H) by simp [an_menBy, h_6, es0, h_15]]
      exact ⟨rfl, rfl, rfl, hz⟩
    · obtain ⟨z0, rfl, lz0, uz0, ez0⟩ := ho_rng_n h_15 (by decide) (by decide)
      refine ev_s (is_iload rfl rfl) ?_
      refine ev_s (is_iconst (nI 0) rfl rfl) ?_
      refine ev_s (is_bipush (nI 6) rfl rfl) ?_
      refine ev_c1 (is_call0 3 [_, _, _] [] rfl rfl rfl rfl rfl (Nat.le_of_ble_eq_true rfl) rfl rfl rfl) rfl rfl (r_in' _ _ _) ?_
      refine ev_ifB_ne rfl (fun h_26 => ?_) (fun h_26 => ?_)
      · obtain ⟨n0, rfl, ln0, un0, en0⟩ := ho_rng_n h_26 (by decide) (by decide)
        refine ev_s (is_aload_n rfl rfl) ?_
        refine ev_s (is_getR rfl (pu_s hC 110 rfl rfl) rfl rfl (pu_r hC 110 14 rfl rfl)) ?_
        refine ev_s (is_iload_n rfl rfl) ?_
        refine ev_s (is_iaload' (s0) rfl (pu_s hC 119 rfl rfl) rfl rfl (by omega) (rz_sort hz (by omega))) ?_
        refine ev_s (is_iconst ((-1)) rfl rfl) ?_
        refine ev_icmp_ne rfl (fun h_39 => ?_) (fun h_39 => ?_)
        · have e39 : ¬ K 4 s0 = 0 := fun q => h_39 ((pu_srt hbs.1).mpr q)
          refine ev_s (is_aload_n rfl rfl) ?_
          refine ev_s (is_getR rfl (pu_s hC 110 rfl rfl) rfl rfl (pu_r hC 110 14 rfl rfl)) ?_
          refine ev_s (is_iload_n rfl rfl) ?_
          refine ev_s (is_iaload' (s0) rfl (pu_s hC 119 rfl rfl) rfl rfl (by omega) (rz_sort hz (by omega))) ?_
          refine ev_s (is_iload_n rfl rfl) ?_
          refine ev_icmp_eq rfl (fun h_52 => ?_) (fun h_52 => ?_)
          · have e52 : K 4 s0 = z0 + 1 := (pu_sortz hbs.1 (by omega)).mp h_52
            refine ev_s (is_iconst (nI 0) rfl rfl) ?_
            refine ev_s (st_istore_5 rfl rfl) ?_
            refine ev_s (is_iconst (nI 0) rfl rfl) ?_
            refine ev_s (st_istore_6 rfl rfl) ?_
            rw [show an_menBy H K (nI s0) (nI z0) frm (nI n0) = mb_run K s0 frm n0 n0 0 0 H by simp [an_menBy, h_6, es0, h_15, ez0, h_26, en0, e39, e52]]
            have loop : ∀ (j i : Nat) (c : Nat) (H2 : ho_T) (w7 w8 : Value) (ma : im_MI), i + j = n0 → (i = 0 ∨ (0 ≤ frm ∧ frm ≤ nI (K 5 s0) - nI 1)) → rz_ H2 K G mi ma → Ev (d + 2) 204 64 [.ref 110, .int (nI s0), .int (nI z0), .int frm, .int (nI n0), .int (nI c), .int (nI i), w7, w8] [] sh ma mr (fun r sh2 m2 r2 => sh2 = sh ∧ (r = .int ((mb_run K s0 frm n0 j i c H2).1) ∧ r2 = mr ∧ rz_ ((mb_run K s0 frm n0 j i c H2).2) (K) G mi m2)) := by
              intro j
              induction j with
              | zero =>
                intro i c H2 w7 w8 ma hi hi0 hz
                refine ev_s (is_iload rfl rfl) ?_
                refine ev_s (is_iload rfl rfl) ?_
                refine ev_s (is_icmp_ge_t rfl (nI_le (by omega) (by omega))) ?_
                refine ev_s (is_iload rfl rfl) ?_
                refine ev_ret (is_ireturn rfl rfl (by first | rfl | exact pu_b_nar | decide)) ?_
                exact ⟨rfl, rfl, rfl, hz⟩
              | succ j ih =>
                intro i c H2 w7 w8 ma hi hi0 hz
                refine ev_s (is_iload rfl rfl) ?_
                refine ev_s (is_iload rfl rfl) ?_
                refine ev_s (is_icmp_ge_f rfl (nI_ge (by omega) (by omega))) ?_
                refine ev_s (is_iload_n rfl rfl) ?_
                refine ev_s (is_iconst (nI 1) rfl rfl) ?_
                refine ev_s (is_iload rfl rfl) ?_
                refine ev_s (is_imul _ rfl (by rw [show (nI 1 : Int32) = 1 from rfl, Int32.one_mul])) ?_
                refine ev_s (is_iadd _ rfl rfl) ?_
                refine ev_s (st_istore_7 rfl rfl) ?_
                refine ev_s (is_iload_n rfl rfl) ?_
                refine ev_if_lt rfl (fun h_80 => ?_) (fun h_80 => ?_)
                · refine ev_s (is_bipush ((-12)) rfl rfl) ?_
                  refine ev_ret (is_ireturn rfl rfl (by first | rfl | exact pu_b_nar | decide)) ?_
                  have hin : ¬ ho_inS K s0 (frm + nI i) = true := fun q => by
                    obtain ⟨q1, q2, q3⟩ := (mb_lt hbs.2 (by omega) hi0).mpr q
                    first
                      | exact q1 h_80
                      | exact q2 h_86
                      | exact h_99 q3
                  rw [show mb_run K s0 frm n0 (j + 1) i c H2 = (-12, H2) by rw [mb_run, if_neg hin]]
                  exact ⟨rfl, rfl, rfl, hz⟩
                · refine ev_s (is_iload rfl rfl) ?_
                  refine ev_s (is_iload_n rfl rfl) ?_
                  refine ev_icmp_lt rfl (fun h_86 => ?_) (fun h_86 => ?_)
                  · refine ev_s (is_bipush ((-12)) rfl rfl) ?_
                    refine ev_ret (is_ireturn rfl rfl (by first | rfl | exact pu_b_nar | decide)) ?_
                    have hin : ¬ ho_inS K s0 (frm + nI i) = true := fun q => by
                      obtain ⟨q1, q2, q3⟩ := (mb_lt hbs.2 (by omega) hi0).mpr q
                      first
                        | exact q1 h_80
                        | exact q2 h_86
                        | exact h_99 q3
                    rw [show mb_run K s0 frm n0 (j + 1) i c H2 = (-12, H2) by rw [mb_run, if_neg hin]]
                    exact ⟨rfl, rfl, rfl, hz⟩
                  · refine ev_s (is_iload rfl rfl) ?_
                    refine ev_s (is_aload_n rfl rfl) ?_
                    refine ev_s (is_getR rfl (pu_s hC 110 rfl rfl) rfl rfl (pu_r hC 110 15 rfl rfl)) ?_
                    refine ev_s (is_iload_n rfl rfl) ?_
                    refine ev_s (is_iaload' (s0) rfl (pu_s hC 120 rfl rfl) rfl rfl (by omega) (rz_size hz (by omega))) ?_
                    refine ev_s (is_iconst (nI 1) rfl rfl) ?_
                    refine ev_s (is_isub _ rfl rfl) ?_
                    refine ev_icmp_le rfl (fun h_99 => ?_) (fun h_99 => ?_)
                    · have hin : ho_inS K s0 (frm + nI i) = true := (mb_lt hbs.2 (by omega) hi0).mp ⟨h_80, h_86, h_99⟩
                      obtain ⟨j0, e87, hj0, ej0⟩ := ho_inS_n hbs.2 hin
                      have hfr : 0 ≤ frm ∧ frm ≤ nI (K 5 s0) - nI 1 := by
                        rcases hi0 with q | q
                        · subst q; exact ⟨Int32.not_lt.mp h_80, by rw [show frm + nI 0 = frm from Int32.add_zero frm] at h_99; exact h_99⟩
                        · exact q
                      refine ev_s (is_bipush (nI 40) rfl rfl) ?_
                      refine ev_s (is_iload_n rfl rfl) ?_
                      first
                        | refine ev_s (is_imul _ rfl (pk_mul _ _)) ?_
                        | refine ev_s (is_imul _ rfl rfl) ?_
                      refine ev_s (is_iload rfl rfl) ?_
                      refine ev_s (is_iadd _ rfl rfl) ?_
                      refine ev_s (st_istore_8 rfl rfl) ?_
                      refine ev_s (is_iload rfl rfl) ?_
                      refine ev_s (is_aload_n rfl rfl) ?_
                      refine ev_s (is_aload_n rfl rfl) ?_
                      refine ev_s (is_getR rfl (pu_s hC 110 rfl rfl) rfl rfl (pu_r hC 110 16 rfl rfl)) ?_
                      refine ev_s (is_iload rfl rfl) ?_
                      refine ev_s (is_iaload' (40 * s0 + j0) rfl (pu_s hC 121 rfl rfl) rfl (by rw [e87, nI_add]) (by omega) (rz_cell hz (by omega) (by omega))) ?_
                      have hzb := rz_rf hz.1 hz.2.1
                      refine ev_q1 (is_callR 2 [_] [_] rfl rfl rfl rfl rfl (Nat.le_of_ble_eq_true rfl) rfl rfl rfl (pu_s hC 110 rfl rfl)) rfl rfl (r_man hC hzb (nI (K (20 + s0) j0))) (fun r_124 mi mr hq_124 => ?_)
                      obtain ⟨rfl, hmr, hz2⟩ := hq_124
                      have hmr := hmr.symm
                      subst hmr
                      have hz := rz_tr hz hz2
                      refine ev_if_lt rfl (fun h_127 => ?_) (fun h_127 => ?_)
                      · refine ev_s (is_iconst (nI 0) rfl rfl) ?_
                        first
                          | refine ev_s (is_iadd _ rfl (nI_add _ _)) ?_
                          | refine ev_s (is_iadd _ rfl rfl) ?_
                        refine ev_s (st_istore_5 rfl rfl) ?_
                        refine ev_s (st_iinc_6 _ rfl rfl (nI_inc _)) ?_
                        refine ev_s (is_goto rfl) ?_
                        rw [show mb_run K s0 frm n0 (j + 1) i c H2 = mb_run K s0 frm n0 j (i + 1) (c + (if 0 ≤ an_man H2 (nI (K (20 + s0) j0)) then 1 else 0)) (st_man H2 (nI (K (20 + s0) j0))) by rw [mb_run, if_pos hin, e87, ej0]]
                        first
                          | (rw [if_neg (Int32.not_le.mpr h_127)]; exact ih (i + 1) (c + 0) _ _ _ _ (by omega) (Or.inr hfr) hz)
                          | (rw [if_pos (Int32.not_lt.mp h_127)]; exact ih (i + 1) (c + 1) _ _ _ _ (by omega) (Or.inr hfr) hz)
                      · refine ev_s (is_iconst (nI 1) rfl rfl) ?_
                        refine ev_s (is_goto rfl) ?_
                        first
                          | refine ev_s (is_iadd _ rfl (nI_add _ _)) ?_
                          | refine ev_s (is_iadd _ rfl rfl) ?_
                        refine ev_s (st_istore_5 rfl rfl) ?_
                        refine ev_s (st_iinc_6 _ rfl rfl (nI_inc _)) ?_
                        refine ev_s (is_goto rfl) ?_
                        rw [show mb_run K s0 frm n0 (j + 1) i c H2 = mb_run K s0 frm n0 j (i + 1) (c + (if 0 ≤ an_man H2 (nI (K (20 + s0) j0)) then 1 else 0)) (st_man H2 (nI (K (20 + s0) j0))) by rw [mb_run, if_pos hin, e87, ej0]]
                        first
                          | (rw [if_neg (Int32.not_le.mpr h_127)]; exact ih (i + 1) (c + 0) _ _ _ _ (by omega) (Or.inr hfr) hz)
                          | (rw [if_pos (Int32.not_lt.mp h_127)]; exact ih (i + 1) (c + 1) _ _ _ _ (by omega) (Or.inr hfr) hz)
                    · refine ev_s (is_bipush ((-12)) rfl rfl) ?_
                      refine ev_ret (is_ireturn rfl rfl (by first | rfl | exact pu_b_nar | decide)) ?_
                      have hin : ¬ ho_inS K s0 (frm + nI i) = true := fun q => by
                        obtain ⟨q1, q2, q3⟩ := (mb_lt hbs.2 (by omega) hi0).mpr q
                        first
                          | exact q1 h_80
                          | exact q2 h_86
                          | exact h_99 q3
                      rw [show mb_run K s0 frm n0 (j + 1) i c H2 = (-12, H2) by rw [mb_run, if_neg hin]]
                      exact ⟨rfl, rfl, rfl, hz⟩
            exact loop n0 0 0 H _ _ mi (by omega) (Or.inl rfl) hz
          · have e52 : ¬ K 4 s0 = z0 + 1 := fun q => h_52 ((pu_sortz hbs.1 (by omega)).mpr q)
            refine ev_s (is_bipush ((-13)) rfl rfl) ?_
            refine ev_ret (is_ireturn rfl rfl (by first | rfl | exact pu_b_nar | decide)) ?_
            rw [show an_menBy H K (nI s0) (nI z0) frm (nI n0) = (-13, H) by simp [an_menBy, h_6, es0, h_15, ez0, h_26, en0, e39, e52]]
            exact ⟨rfl, rfl, rfl, hz⟩
        · have e39 : K 4 s0 = 0 := (pu_srt hbs.1).mp (Decidable.of_not_not h_39)
          refine ev_s (is_bipush ((-11)) rfl rfl) ?_
          refine ev_ret (is_ireturn rfl rfl (by first | rfl | exact pu_b_nar | decide)) ?_
          rw [show an_menBy H K (nI s0) (nI z0) frm (nI n0) = (-11, H) by simp [an_menBy, h_6, es0, h_15, ez0, h_26, en0, e39]]
          exact ⟨rfl, rfl, rfl, hz⟩
      · refine ev_s (is_bipush ((-2)) rfl rfl) ?_
        refine ev_ret (is_ireturn rfl rfl (by first | rfl | exact pu_b_nar | decide)) ?_
        rw [show an_menBy H K (nI s0) (nI z0) frm n = (-2, H) by simp [an_menBy, h_6, es0, h_15, ez0, h_26]]
        exact ⟨rfl, rfl, rfl, hz⟩

theorem kd_one_d : ∀ k, k < 6 → ∀ q, q < 6 → (kd_one k q = true ↔ (q = 0 ∨ k = q ∨ (q = 1 ∧ k = 3) ∨ (q = 2 ∧ k = 4))) := by decide

theorem r_isUnder {d : Nat} {sh : im_Sh} {mi : im_MI} {mr : im_MR} {k q : Nat} (hk : k < 6) (hq : q < 6) : EvM (d) 205 [.int (nI k), .int (nI q)] sh mi mr (ev_R sh (.int (pu_b (kd_one k q = true))) mi mr) := by
  show Ev (d) 205 0 [.int (nI k), .int (nI q)] [] sh mi mr _
  refine ev_s (is_iload_n rfl rfl) ?_
  refine ev_ifN_eq rfl (by omega) (fun h_1 => ?_) (fun h_1 => ?_)
  · refine ev_s (is_iconst (nI 1) rfl rfl) ?_
    refine ev_s (is_goto rfl) ?_
    refine ev_ret (is_ireturn rfl rfl (by first | rfl | exact pu_b_nar | decide)) ?_
    have hko := kd_one_d k hk q hq
    first
      | exact ⟨pu_b_t (hko.mpr (by omega)), rfl, rfl, rfl⟩
      | exact ⟨pu_b_f (fun z => absurd (hko.mp z) (by omega)), rfl, rfl, rfl⟩
  · refine ev_s (is_iload_n rfl rfl) ?_
    refine ev_s (is_iload_n rfl rfl) ?_
    refine ev_icmpN_eq rfl (by omega) (by omega) (fun h_6 => ?_) (fun h_6 => ?_)
    · refine ev_s (is_iconst (nI 1) rfl rfl) ?_
      refine ev_s (is_goto rfl) ?_
      refine ev_ret (is_ireturn rfl rfl (by first | rfl | exact pu_b_nar | decide)) ?_
      have hko := kd_one_d k hk q hq
      first
        | exact ⟨pu_b_t (hko.mpr (by omega)), rfl, rfl, rfl⟩
        | exact ⟨pu_b_f (fun z => absurd (hko.mp z) (by omega)), rfl, rfl, rfl⟩
    · refine ev_s (is_iload_n rfl rfl) ?_
      refine ev_s (is_iconst (nI 1) rfl rfl) ?_
      refine ev_icmpN_ne rfl (by omega) (by omega) (fun h_11 => ?_) (fun h_11 => ?_)
      · refine ev_s (is_iload_n rfl rfl) ?_
        refine ev_s (is_iconst (nI 2) rfl rfl) ?_
        refine ev_icmpN_ne rfl (by omega) (by omega) (fun h_21 => ?_) (fun h_21 => ?_)
        · refine ev_s (is_iconst (nI 0) rfl rfl) ?_
          refine ev_ret (is_ireturn rfl rfl (by first | rfl | exact pu_b_nar | decide)) ?_
          have hko := kd_one_d k hk q hq
          first
            | exact ⟨pu_b_t (hko.mpr (by omega)), rfl, rfl, rfl⟩
            | exact ⟨pu_b_f (fun z => absurd (hko.mp z) (by omega)), rfl, rfl, rfl⟩
        · refine ev_s (is_iload_n rfl rfl) ?_
          refine ev_s (is_iconst (nI 4) rfl rfl) ?_
          refine ev_icmpN_ne rfl (by omega) (by omega) (fun h_26 => ?_) (fun h_26 => ?_)
          · refine ev_s (is_iconst (nI 0) rfl rfl) ?_
            refine ev_ret (is_ireturn rfl rfl (by first | rfl | exact pu_b_nar | decide)) ?_
            have hko := kd_one_d k hk q hq
            first
              | exact ⟨pu_b_t (hko.mpr (by omega)), rfl, rfl, rfl⟩
              | exact ⟨pu_b_f (fun z => absurd (hko.mp z) (by omega)), rfl, rfl, rfl⟩
          · refine ev_s (is_iconst (nI 1) rfl rfl) ?_
            refine ev_s (is_goto rfl) ?_
            refine ev_ret (is_ireturn rfl rfl (by first | rfl | exact pu_b_nar | decide)) ?_
            have hko := kd_one_d k hk q hq
            first
              | exact ⟨pu_b_t (hko.mpr (by omega)), rfl, rfl, rfl⟩
              | exact ⟨pu_b_f (fun z => absurd (hko.mp z) (by omega)), rfl, rfl, rfl⟩
      · refine ev_s (is_iload_n rfl rfl) ?_
        refine ev_s (is_iconst (nI 3) rfl rfl) ?_
        refine ev_icmpN_eq rfl (by omega) (by omega) (fun h_16 => ?_) (fun h_16 => ?_)
        · refine ev_s (is_iconst (nI 1) rfl rfl) ?_
          refine ev_s (is_goto rfl) ?_
          refine ev_ret (is_ireturn rfl rfl (by first | rfl | exact pu_b_nar | decide)) ?_
          have hko := kd_one_d k hk q hq
          first
            | exact ⟨pu_b_t (hko.mpr (by omega)), rfl, rfl, rfl⟩
            | exact ⟨pu_b_f (fun z => absurd (hko.mp z) (by omega)), rfl, rfl, rfl⟩
        · refine ev_s (is_iload_n rfl rfl) ?_
          refine ev_s (is_iconst (nI 2) rfl rfl) ?_
          refine ev_icmpN_ne rfl (by omega) (by omega) (fun h_21 => ?_) (fun h_21 => ?_)
          · refine ev_s (is_iconst (nI 0) rfl rfl) ?_
            refine ev_ret (is_ireturn rfl rfl (by first | rfl | exact pu_b_nar | decide)) ?_
            have hko := kd_one_d k hk q hq
            first
              | exact ⟨pu_b_t (hko.mpr (by omega)), rfl, rfl, rfl⟩
              | exact ⟨pu_b_f (fun z => absurd (hko.mp z) (by omega)), rfl, rfl, rfl⟩
          · refine ev_s (is_iload_n rfl rfl) ?_
            refine ev_s (is_iconst (nI 4) rfl rfl) ?_
            refine ev_icmpN_ne rfl (by omega) (by omega) (fun h_26 => ?_) (fun h_26 => ?_)
            · refine ev_s (is_iconst (nI 0) rfl rfl) ?_
              refine ev_ret (is_ireturn rfl rfl (by first | rfl | exact pu_b_nar | decide)) ?_
              have hko := kd_one_d k hk q hq
              first
                | exact ⟨pu_b_t (hko.mpr (by omega)), rfl, rfl, rfl⟩
                | exact ⟨pu_b_f (fun z => absurd (hko.mp z) (by omega)), rfl, rfl, rfl⟩
            · refine ev_s (is_iconst (nI 1) rfl rfl) ?_
              refine ev_s (is_goto rfl) ?_
              refine ev_ret (is_ireturn rfl rfl (by first | rfl | exact pu_b_nar | decide)) ?_
              have hko := kd_one_d k hk q hq
              first
                | exact ⟨pu_b_t (hko.mpr (by omega)), rfl, rfl, rfl⟩
                | exact ⟨pu_b_f (fun z => absurd (hko.mp z) (by omega)), rfl, rfl, rfl⟩

theorem r_taken {d : Nat} {sh : im_Sh} {mi : im_MI} {mr : im_MR} (hC : pu_C sh mr) {H K : ho_T} {G : ho_G} (hz : rz_ H K G mi mi) (i k : Int32) : EvM (d + 1) 206 [.ref 110, .int i, .int k] sh mi mr (fun r sh2 m2 r2 => sh2 = sh ∧ (r = .int (an_taken H i k) ∧ r2 = mr ∧ rz_ (H) (K) G mi m2)) := by
  show Ev (d + 1) 206 0 [.ref 110, .int i, .int k] [] sh mi mr _
  have hn6 := rz_n hz
  refine ev_s (is_iload_n rfl rfl) ?_
  refine ev_s (is_iconst (nI 0) rfl rfl) ?_
  refine ev_s (is_bipush (nI 6) rfl rfl) ?_
  refine ev_c1 (is_call0 3 [_, _, _] [] rfl rfl rfl rfl rfl (Nat.le_of_ble_eq_true rfl) rfl rfl rfl) rfl rfl (r_in' _ _ _) ?_
  refine ev_ifB_ne rfl (fun h_7 => ?_) (fun h_7 => ?_)
  · obtain ⟨k0, rfl, lk0, uk0, ek0⟩ := ho_rng_n h_7 (by decide) (by decide)
    refine ev_s (is_iload_n rfl rfl) ?_
    refine ev_s (is_iconst (nI 0) rfl rfl) ?_
    refine ev_s (is_bipush (nI 17) rfl rfl) ?_
    refine ev_c1 (is_call0 3 [_, _, _] [] rfl rfl rfl rfl rfl (Nat.le_of_ble_eq_true rfl) rfl rfl rfl) rfl rfl (r_in' _ _ _) ?_
    refine ev_ifB_ne rfl (fun h_20 => ?_) (fun h_20 => ?_)
    · obtain ⟨i0, rfl, li0, ui0, ei0⟩ := ho_rng_n h_20 (by decide) (by decide)
      refine ev_s (is_iload_n rfl rfl) ?_
      refine ev_s (is_bipush (nI 6) rfl rfl) ?_
      refine ev_icmpN_lt rfl (by omega) (by omega) (fun h_29 => ?_) (fun h_29 => ?_)
      · refine ev_s (is_iload_n rfl rfl) ?_
        refine ev_s (is_aload_n rfl rfl) ?_
        refine ev_s (is_getI' rfl (pu_s hC 110 rfl rfl) rfl rfl hz.1.1) ?_
        refine ev_icmpN_lt rfl (by omega) (by omega) (fun h_60 => ?_) (fun h_60 => ?_)
        · refine ev_s (is_iload_n rfl rfl) ?_
          refine ev_s (is_bipush (nI 6) rfl rfl) ?_
          refine ev_icmpN_ge rfl (by omega) (by omega) (fun h_71 => ?_) (fun h_71 => ?_)
          · refine ev_s (is_bipush ((-13)) rfl rfl) ?_
            refine ev_ret (is_ireturn rfl rfl (by first | rfl | exact pu_b_nar | decide)) ?_
            refine ⟨rfl, ?_, rfl, hz⟩
            unfold an_taken
            rw [if_pos h_7, if_pos h_20, ei0, ek0]
            first
              | rw [if_pos (show 6 ≤ i0 by omega), if_pos (show nI k0 = nI 6 by rw [show k0 = 6 by omega])]; rfl
              | rw [if_pos (show 6 ≤ i0 by omega), if_neg (show ¬ nI k0 = nI 6 from fun q => absurd ((nI_eq (by omega) (by decide)).mp q) (by omega))]
              | rw [if_neg (show ¬ 6 ≤ i0 by omega), if_pos (show H 0 0 ≤ i0 by omega)]
              | rw [if_neg (show ¬ 6 ≤ i0 by omega), if_neg (show ¬ H 0 0 ≤ i0 by omega), if_pos (show nI k0 = nI 6 by rw [show k0 = 6 by omega])]
              | rw [if_neg (show ¬ 6 ≤ i0 by omega), if_neg (show ¬ H 0 0 ≤ i0 by omega), if_neg (show ¬ nI k0 = nI 6 from fun q => absurd ((nI_eq (by omega) (by decide)).mp q) (by omega)), if_pos h_84]
              | rw [if_neg (show ¬ 6 ≤ i0 by omega), if_neg (show ¬ H 0 0 ≤ i0 by omega), if_neg (show ¬ nI k0 = nI 6 from fun q => absurd ((nI_eq (by omega) (by decide)).mp q) (by omega)), if_neg h_84]
          · refine ev_s (is_aload_n rfl rfl) ?_
            refine ev_s (is_getR rfl (pu_s hC 110 rfl rfl) rfl rfl (pu_r hC 110 1 rfl rfl)) ?_
            refine ev_s (is_iload_n rfl rfl) ?_
            refine ev_s (is_iaload' (i0) rfl (pu_s hC 111 rfl rfl) rfl rfl (by omega) (rz_k hz (by omega))) ?_
            refine ev_s (is_iload_n rfl rfl) ?_
            refine ev_c1 (is_call0 2 [_, _] [] rfl rfl rfl rfl rfl (Nat.le_of_ble_eq_true rfl) rfl rfl rfl) rfl rfl (r_isUnder (k := H 1 i0) (q := k0) ((rz_bd hz).2.2.2.2.2.1 i0) (by omega)) ?_
            refine ev_ifB_eq rfl (fun h_84 => ?_) (fun h_84 => ?_)
            · refine ev_s (is_bipush ((-13)) rfl rfl) ?_
              refine ev_ret (is_ireturn rfl rfl (by first | rfl | exact pu_b_nar | decide)) ?_
              refine ⟨rfl, ?_, rfl, hz⟩
              unfold an_taken
              rw [if_pos h_7, if_pos h_20, ei0, ek0]
              first
                | rw [if_pos (show 6 ≤ i0 by omega), if_pos (show nI k0 = nI 6 by rw [show k0 = 6 by omega])]; rfl
                | rw [if_pos (show 6 ≤ i0 by omega), if_neg (show ¬ nI k0 = nI 6 from fun q => absurd ((nI_eq (by omega) (by decide)).mp q) (by omega))]
                | rw [if_neg (show ¬ 6 ≤ i0 by omega), if_pos (show H 0 0 ≤ i0 by omega)]
                | rw [if_neg (show ¬ 6 ≤ i0 by omega), if_neg (show ¬ H 0 0 ≤ i0 by omega), if_pos (show nI k0 = nI 6 by rw [show k0 = 6 by omega])]
                | rw [if_neg (show ¬ 6 ≤ i0 by omega), if_neg (show ¬ H 0 0 ≤ i0 by omega), if_neg (show ¬ nI k0 = nI 6 from fun q => absurd ((nI_eq (by omega) (by decide)).mp q) (by omega)), if_pos h_84]
                | rw [if_neg (show ¬ 6 ≤ i0 by omega), if_neg (show ¬ H 0 0 ≤ i0 by omega), if_neg (show ¬ nI k0 = nI 6 from fun q => absurd ((nI_eq (by omega) (by decide)).mp q) (by omega)), if_neg h_84]
            · refine ev_s (is_iload_n rfl rfl) ?_
              refine ev_s (is_goto rfl) ?_
              refine ev_ret (is_ireturn rfl rfl (by first | rfl | exact pu_b_nar | decide)) ?_
              refine ⟨rfl, ?_, rfl, hz⟩
              unfold an_taken
              rw [if_pos h_7, if_pos h_20, ei0, ek0]
              first
                | rw [if_pos (show 6 ≤ i0 by omega), if_pos (show nI k0 = nI 6 by rw [show k0 = 6 by omega])]; rfl
                | rw [if_pos (show 6 ≤ i0 by omega), if_neg (show ¬ nI k0 = nI 6 from fun q => absurd ((nI_eq (by omega) (by decide)).mp q) (by omega))]
                | rw [if_neg (show ¬ 6 ≤ i0 by omega), if_pos (show H 0 0 ≤ i0 by omega)]
                | rw [if_neg (show ¬ 6 ≤ i0 by omega), if_neg (show ¬ H 0 0 ≤ i0 by omega), if_pos (show nI k0 = nI 6 by rw [show k0 = 6 by omega])]
                | rw [if_neg (show ¬ 6 ≤ i0 by omega), if_neg (show ¬ H 0 0 ≤ i0 by omega), if_neg (show ¬ nI k0 = nI 6 from fun q => absurd ((nI_eq (by omega) (by decide)).mp q) (by omega)), if_pos h_84]
                | rw [if_neg (show ¬ 6 ≤ i0 by omega), if_neg (show ¬ H 0 0 ≤ i0 by omega), if_neg (show ¬ nI k0 = nI 6 from fun q => absurd ((nI_eq (by omega) (by decide)).mp q) (by omega)), if_neg h_84]
        · refine ev_s (is_bipush ((-11)) rfl rfl) ?_
          refine ev_s (is_goto rfl) ?_
          refine ev_ret (is_ireturn rfl rfl (by first | rfl | exact pu_b_nar | decide)) ?_
          refine ⟨rfl, ?_, rfl, hz⟩
          unfold an_taken
          rw [if_pos h_7, if_pos h_20, ei0, ek0]
          first
            | rw [if_pos (show 6 ≤ i0 by omega), if_pos (show nI k0 = nI 6 by rw [show k0 = 6 by omega])]; rfl
            | rw [if_pos (show 6 ≤ i0 by omega), if_neg (show ¬ nI k0 = nI 6 from fun q => absurd ((nI_eq (by omega) (by decide)).mp q) (by omega))]
            | rw [if_neg (show ¬ 6 ≤ i0 by omega), if_pos (show H 0 0 ≤ i0 by omega)]
            | rw [if_neg (show ¬ 6 ≤ i0 by omega), if_neg (show ¬ H 0 0 ≤ i0 by omega), if_pos (show nI k0 = nI 6 by rw [show k0 = 6 by omega])]
            | rw [if_neg (show ¬ 6 ≤ i0 by omega), if_neg (show ¬ H 0 0 ≤ i0 by omega), if_neg (show ¬ nI k0 = nI 6 from fun q => absurd ((nI_eq (by omega) (by decide)).mp q) (by omega)), if_pos h_84]
            | rw [if_neg (show ¬ 6 ≤ i0 by omega), if_neg (show ¬ H 0 0 ≤ i0 by omega), if_neg (show ¬ nI k0 = nI 6 from fun q => absurd ((nI_eq (by omega) (by decide)).mp q) (by omega)), if_neg h_84]
      · refine ev_s (is_iload_n rfl rfl) ?_
        refine ev_s (is_bipush (nI 6) rfl rfl) ?_
        refine ev_icmpN_ne rfl (by omega) (by omega) (fun h_35 => ?_) (fun h_35 => ?_)
        · refine ev_s (is_bipush ((-13)) rfl rfl) ?_
          refine ev_ret (is_ireturn rfl rfl (by first | rfl | exact pu_b_nar | decide)) ?_
          refine ⟨rfl, ?_, rfl, hz⟩
          unfold an_taken
          rw [if_pos h_7, if_pos h_20, ei0, ek0]
          first
            | rw [if_pos (show 6 ≤ i0 by omega), if_pos (show nI k0 = nI 6 by rw [show k0 = 6 by omega])]; rfl
            | rw [if_pos (show 6 ≤ i0 by omega), if_neg (show ¬ nI k0 = nI 6 from fun q => absurd ((nI_eq (by omega) (by decide)).mp q) (by omega))]
            | rw [if_neg (show ¬ 6 ≤ i0 by omega), if_pos (show H 0 0 ≤ i0 by omega)]
            | rw [if_neg (show ¬ 6 ≤ i0 by omega), if_neg (show ¬ H 0 0 ≤ i0 by omega), if_pos (show nI k0 = nI 6 by rw [show k0 = 6 by omega])]
            | rw [if_neg (show ¬ 6 ≤ i0 by omega), if_neg (show ¬ H 0 0 ≤ i0 by omega), if_neg (show ¬ nI k0 = nI 6 from fun q => absurd ((nI_eq (by omega) (by decide)).mp q) (by omega)), if_pos h_84]
            | rw [if_neg (show ¬ 6 ≤ i0 by omega), if_neg (show ¬ H 0 0 ≤ i0 by omega), if_neg (show ¬ nI k0 = nI 6 from fun q => absurd ((nI_eq (by omega) (by decide)).mp q) (by omega)), if_neg h_84]
        · refine ev_s (is_aload_n rfl rfl) ?_
          refine ev_s (is_getI' rfl (pu_s hC 110 rfl rfl) rfl rfl hz.1.2.1) ?_
          refine ev_s (is_iload_n rfl rfl) ?_
          refine ev_s (is_bipush (nI 6) rfl rfl) ?_
          refine ev_s (is_isub _ rfl (pk_sub (by omega))) ?_
          refine ev_s (is_ishr _ rfl (nI_shr (by have := (rz_bd hz).2.1; omega) (by omega))) ?_
          refine ev_s (is_iconst (nI 1) rfl rfl) ?_
          refine ev_s (is_iand _ rfl (nI_and1 (by have := Nat.div_le_self (H 0 1) (2 ^ (i0 - 6)); have := (rz_bd hz).2.1; omega))) ?_
          refine ev_s (is_goto rfl) ?_
          refine ev_ret (is_ireturn rfl rfl (by first | rfl | exact pu_b_nar | decide)) ?_
          refine ⟨rfl, ?_, rfl, hz⟩
          unfold an_taken
          rw [if_pos h_7, if_pos h_20, ei0, ek0]
          first
            | rw [if_pos (show 6 ≤ i0 by omega), if_pos (show nI k0 = nI 6 by rw [show k0 = 6 by omega])]; rfl
            | rw [if_pos (show 6 ≤ i0 by omega), if_neg (show ¬ nI k0 = nI 6 from fun q => absurd ((nI_eq (by omega) (by decide)).mp q) (by omega))]
            | rw [if_neg (show ¬ 6 ≤ i0 by omega), if_pos (show H 0 0 ≤ i0 by omega)]
            | rw [if_neg (show ¬ 6 ≤ i0 by omega), if_neg (show ¬ H 0 0 ≤ i0 by omega), if_pos (show nI k0 = nI 6 by rw [show k0 = 6 by omega])]
            | rw [if_neg (show ¬ 6 ≤ i0 by omega), if_neg (show ¬ H 0 0 ≤ i0 by omega), if_neg (show ¬ nI k0 = nI 6 from fun q => absurd ((nI_eq (by omega) (by decide)).mp q) (by omega)), if_pos h_84]
            | rw [if_neg (show ¬ 6 ≤ i0 by omega), if_neg (show ¬ H 0 0 ≤ i0 by omega), if_neg (show ¬ nI k0 = nI 6 from fun q => absurd ((nI_eq (by omega) (by decide)).mp q) (by omega)), if_neg h_84]
    · refine ev_s (is_bipush ((-12)) rfl rfl) ?_
      refine ev_ret (is_ireturn rfl rfl (by first | rfl | exact pu_b_nar | decide)) ?_
      rw [show an_taken H i (nI k0) = -12 by unfold an_taken; rw [if_pos h_7, if_neg h_20]]
      exact ⟨rfl, rfl, rfl, hz⟩
  · refine ev_s (is_bipush ((-2)) rfl rfl) ?_
    refine ev_ret (is_ireturn rfl rfl (by first | rfl | exact pu_b_nar | decide)) ?_
    rw [show an_taken H i k = -2 from if_neg h_7]
    exact ⟨rfl, rfl, rfl, hz⟩
