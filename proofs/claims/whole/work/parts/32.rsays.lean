/-! ===== PURE, the reference: signTo, two, says ===== -/

theorem r_signTo {d : Nat} {sh : im_Sh} {mi : im_MI} {mr : im_MR} (hC : pu_C sh mr) {H : ho_T} {G : ho_G} (hR : rr_ok H G mi) {m h : Nat} (hm : m < 6) (hh : h < 12) : EvM (d + 1) 155 [.ref 110, .int (nI m), .int (nI h)] sh mi mr (ev_R sh (.int (nI (ho_sign H m h))) mi mr) := by
  show Ev (d + 1) 155 0 [.ref 110, .int (nI m), .int (nI h), im_bad] [] sh mi mr _
  obtain ⟨h1, h2, h3, h4, h5, h6, h7, h8, h9⟩ := id hR
  obtain ⟨b1, b2, b3, b4, b5, b6, b7, b8, b9, b10⟩ := id h8
  refine ev_s (is_aload_n rfl rfl) ?_
  refine ev_s (is_iload_n rfl rfl) ?_
  refine ev_c1 (is_callR 2 [_] [] rfl rfl rfl rfl rfl (Nat.le_of_ble_eq_true rfl) rfl rfl rfl (pu_s hC 110 rfl rfl)) rfl rfl (r_mateOf hC hR (m := m) hm) ?_
  refine ev_s (st_istore_n_3 rfl rfl) ?_
  refine ev_s (is_iload_n rfl rfl) ?_
  refine ev_s (is_iconst ((-1)) rfl rfl) ?_
  by_cases hmt : ho_mate H m = none
  · refine ev_s (is_icmp_ne_f rfl (fun q => q (by rw [hmt]; rfl))) ?_
    refine ev_s (is_iconst (nI 0) rfl rfl) ?_
    refine ev_s (is_goto rfl) ?_
    refine ev_ret (is_ireturn rfl rfl (by first | rfl | exact pu_b_nar | decide)) ?_
    exact ⟨by rw [ho_sign, hmt], rfl, rfl, rfl⟩
  · refine ev_s (is_icmp_ne_t rfl (fun q => hmt ((pu_o_none _ (fun k hk => by have := ho_mate_lt hk; omega)).mp q))) ?_
    obtain ⟨o, ho⟩ := Option.ne_none_iff_exists'.mp hmt
    have hol := ho_mate_lt ho
    rw [ho]
    simp only [pu_o]
    have hcl : pu_cl (nI o) (nI 0) (nI 5) = nI o := pu_cl_in (by omega) (by omega) (by omega)
    refine ev_s (is_aload_n rfl rfl) ?_
    refine ev_s (is_iload_n rfl rfl) ?_
    refine ev_s (is_aload_n rfl rfl) ?_
    refine ev_s (is_getR rfl (pu_s hC 110 rfl rfl) rfl rfl (pu_r hC 110 3 rfl rfl)) ?_
    refine ev_s (is_bipush (nI 14) rfl rfl) ?_
    refine ev_s (is_iload_n rfl rfl) ?_
    refine ev_s (is_iconst (nI 0) rfl rfl) ?_
    refine ev_s (is_iconst (nI 5) rfl rfl) ?_
    refine ev_c1 (is_call0 3 [_, _, _] [_, _, _, _] rfl rfl rfl rfl rfl (Nat.le_of_ble_eq_true rfl) rfl rfl rfl) rfl rfl (r_within _ _ _) ?_
    rw [hcl]
    first
      | refine ev_s (is_imul _ rfl (pk_mul _ _)) ?_
      | refine ev_s (is_imul _ rfl rfl) ?_
    refine ev_s (is_iload_n rfl rfl) ?_
    first
      | refine ev_s (is_iadd _ rfl (nI_add _ _)) ?_
      | refine ev_s (is_iadd _ rfl rfl) ?_
    refine ev_s (is_iaload' (14 * o + h) rfl (pu_s hC 113 rfl rfl) rfl rfl (by omega) (h6 o h (by omega) (by omega))) ?_
    refine ev_c1 (is_callR 3 [_, _] [] rfl rfl rfl rfl rfl (Nat.le_of_ble_eq_true rfl) rfl rfl rfl (pu_s hC 110 rfl rfl)) rfl rfl (r_signs hC hR (m := o) (dg := H (10 + o) h) (by omega) (b8 o h hh)) ?_
    refine ev_ret (is_ireturn rfl rfl (by first | rfl | exact pu_b_nar | decide)) ?_
    exact ⟨by rw [ho_sign, ho], rfl, rfl, rfl⟩

theorem r_two {d : Nat} {sh : im_Sh} {mi : im_MI} {mr : im_MR} {c : Nat} (hc : c = 11 ∨ c = 12 ∨ c = 14 ∨ c = 15 ∨ c = 16 ∨ c = 17 ∨ c = 18) (a b : Int32) : EvM (d) 150 [.int (nI c), .int a, .int b] sh mi mr (ev_R sh (.int (te_two c a b)) mi mr) := by
  show Ev (d) 150 0 [.int (nI c), .int a, .int b] [] sh mi mr _
  refine ev_s (is_iload_n rfl rfl) ?_
  rcases hc with rfl | rfl | rfl | rfl | rfl | rfl | rfl
  · refine ev_s (is_tsw 44 rfl (by decide)) ?_
    refine ev_s (is_iload_n rfl rfl) ?_
    refine ev_if_ne rfl (fun h_45 => ?_) (fun h_45 => ?_)
    · refine ev_s (is_iconst (nI 1) rfl rfl) ?_
      refine ev_s (is_goto rfl) ?_
      refine ev_ret (is_ireturn rfl rfl (by first | rfl | exact pu_b_nar | decide)) ?_
      refine ⟨?_, rfl, rfl, rfl⟩
      simp only [te_two, Nat.reduceEqDiff, if_true, if_false]
      all_goals first
        | rfl
        | exact pu_b_t (by simp_all)
        | exact pu_b_f (by simp_all)
        | exact pu_b_t (by (try simp only [Int32.le_iff_toInt_le, Int32.lt_iff_toInt_lt, ← Int32.toInt_inj] at *); omega)
        | exact pu_b_f (by (try simp only [Int32.le_iff_toInt_le, Int32.lt_iff_toInt_lt, ← Int32.toInt_inj] at *); omega)
    · refine ev_s (is_iload_n rfl rfl) ?_
      refine ev_if_eq rfl (fun h_49 => ?_) (fun h_49 => ?_)
      · refine ev_s (is_iconst (nI 0) rfl rfl) ?_
        refine ev_ret (is_ireturn rfl rfl (by first | rfl | exact pu_b_nar | decide)) ?_
        refine ⟨?_, rfl, rfl, rfl⟩
        simp only [te_two, Nat.reduceEqDiff, if_true, if_false]
        all_goals first
          | rfl
          | exact pu_b_t (by simp_all)
          | exact pu_b_f (by simp_all)
          | exact pu_b_t (by (try simp only [Int32.le_iff_toInt_le, Int32.lt_iff_toInt_lt, ← Int32.toInt_inj] at *); omega)
          | exact pu_b_f (by (try simp only [Int32.le_iff_toInt_le, Int32.lt_iff_toInt_lt, ← Int32.toInt_inj] at *); omega)
      · refine ev_s (is_iconst (nI 1) rfl rfl) ?_
        refine ev_s (is_goto rfl) ?_
        refine ev_ret (is_ireturn rfl rfl (by first | rfl | exact pu_b_nar | decide)) ?_
        refine ⟨?_, rfl, rfl, rfl⟩
        simp only [te_two, Nat.reduceEqDiff, if_true, if_false]
        all_goals first
          | rfl
          | exact pu_b_t (by simp_all)
          | exact pu_b_f (by simp_all)
          | exact pu_b_t (by (try simp only [Int32.le_iff_toInt_le, Int32.lt_iff_toInt_lt, ← Int32.toInt_inj] at *); omega)
          | exact pu_b_f (by (try simp only [Int32.le_iff_toInt_le, Int32.lt_iff_toInt_lt, ← Int32.toInt_inj] at *); omega)
  · refine ev_s (is_tsw 58 rfl (by decide)) ?_
    refine ev_s (is_iload_n rfl rfl) ?_
    refine ev_if_eq rfl (fun h_59 => ?_) (fun h_59 => ?_)
    · refine ev_s (is_iconst (nI 0) rfl rfl) ?_
      refine ev_ret (is_ireturn rfl rfl (by first | rfl | exact pu_b_nar | decide)) ?_
      refine ⟨?_, rfl, rfl, rfl⟩
      simp only [te_two, Nat.reduceEqDiff, if_true, if_false]
      all_goals first
        | rfl
        | exact pu_b_t (by simp_all)
        | exact pu_b_f (by simp_all)
        | exact pu_b_t (by (try simp only [Int32.le_iff_toInt_le, Int32.lt_iff_toInt_lt, ← Int32.toInt_inj] at *); omega)
        | exact pu_b_f (by (try simp only [Int32.le_iff_toInt_le, Int32.lt_iff_toInt_lt, ← Int32.toInt_inj] at *); omega)
    · refine ev_s (is_iload_n rfl rfl) ?_
      refine ev_if_eq rfl (fun h_63 => ?_) (fun h_63 => ?_)
      · refine ev_s (is_iconst (nI 0) rfl rfl) ?_
        refine ev_ret (is_ireturn rfl rfl (by first | rfl | exact pu_b_nar | decide)) ?_
        refine ⟨?_, rfl, rfl, rfl⟩
        simp only [te_two, Nat.reduceEqDiff, if_true, if_false]
        all_goals first
          | rfl
          | exact pu_b_t (by simp_all)
          | exact pu_b_f (by simp_all)
          | exact pu_b_t (by (try simp only [Int32.le_iff_toInt_le, Int32.lt_iff_toInt_lt, ← Int32.toInt_inj] at *); omega)
          | exact pu_b_f (by (try simp only [Int32.le_iff_toInt_le, Int32.lt_iff_toInt_lt, ← Int32.toInt_inj] at *); omega)
      · refine ev_s (is_iconst (nI 1) rfl rfl) ?_
        refine ev_s (is_goto rfl) ?_
        refine ev_ret (is_ireturn rfl rfl (by first | rfl | exact pu_b_nar | decide)) ?_
        refine ⟨?_, rfl, rfl, rfl⟩
        simp only [te_two, Nat.reduceEqDiff, if_true, if_false]
        all_goals first
          | rfl
          | exact pu_b_t (by simp_all)
          | exact pu_b_f (by simp_all)
          | exact pu_b_t (by (try simp only [Int32.le_iff_toInt_le, Int32.lt_iff_toInt_lt, ← Int32.toInt_inj] at *); omega)
          | exact pu_b_f (by (try simp only [Int32.le_iff_toInt_le, Int32.lt_iff_toInt_lt, ← Int32.toInt_inj] at *); omega)
  · refine ev_s (is_tsw 72 rfl (by decide)) ?_
    refine ev_s (is_iload_n rfl rfl) ?_
    refine ev_s (is_iload_n rfl rfl) ?_
    refine ev_icmp_ge rfl (fun h_74 => ?_) (fun h_74 => ?_)
    · refine ev_s (is_iconst (nI 0) rfl rfl) ?_
      refine ev_ret (is_ireturn rfl rfl (by first | rfl | exact pu_b_nar | decide)) ?_
      refine ⟨?_, rfl, rfl, rfl⟩
      simp only [te_two, Nat.reduceEqDiff, if_true, if_false]
      all_goals first
        | rfl
        | exact pu_b_t (by simp_all)
        | exact pu_b_f (by simp_all)
        | exact pu_b_t (by (try simp only [Int32.le_iff_toInt_le, Int32.lt_iff_toInt_lt, ← Int32.toInt_inj] at *); omega)
        | exact pu_b_f (by (try simp only [Int32.le_iff_toInt_le, Int32.lt_iff_toInt_lt, ← Int32.toInt_inj] at *); omega)
    · refine ev_s (is_iconst (nI 1) rfl rfl) ?_
      refine ev_s (is_goto rfl) ?_
      refine ev_ret (is_ireturn rfl rfl (by first | rfl | exact pu_b_nar | decide)) ?_
      refine ⟨?_, rfl, rfl, rfl⟩
      simp only [te_two, Nat.reduceEqDiff, if_true, if_false]
      all_goals first
        | rfl
        | exact pu_b_t (by simp_all)
        | exact pu_b_f (by simp_all)
        | exact pu_b_t (by (try simp only [Int32.le_iff_toInt_le, Int32.lt_iff_toInt_lt, ← Int32.toInt_inj] at *); omega)
        | exact pu_b_f (by (try simp only [Int32.le_iff_toInt_le, Int32.lt_iff_toInt_lt, ← Int32.toInt_inj] at *); omega)
  · refine ev_s (is_tsw 83 rfl (by decide)) ?_
    refine ev_s (is_iload_n rfl rfl) ?_
    refine ev_s (is_iload_n rfl rfl) ?_
    refine ev_icmp_ne rfl (fun h_85 => ?_) (fun h_85 => ?_)
    · refine ev_s (is_iconst (nI 0) rfl rfl) ?_
      refine ev_ret (is_ireturn rfl rfl (by first | rfl | exact pu_b_nar | decide)) ?_
      refine ⟨?_, rfl, rfl, rfl⟩
      simp only [te_two, Nat.reduceEqDiff, if_true, if_false]
      all_goals first
        | rfl
        | exact pu_b_t (by simp_all)
        | exact pu_b_f (by simp_all)
        | exact pu_b_t (by (try simp only [Int32.le_iff_toInt_le, Int32.lt_iff_toInt_lt, ← Int32.toInt_inj] at *); omega)
        | exact pu_b_f (by (try simp only [Int32.le_iff_toInt_le, Int32.lt_iff_toInt_lt, ← Int32.toInt_inj] at *); omega)
    · refine ev_s (is_iconst (nI 1) rfl rfl) ?_
      refine ev_s (is_goto rfl) ?_
      refine ev_ret (is_ireturn rfl rfl (by first | rfl | exact pu_b_nar | decide)) ?_
      refine ⟨?_, rfl, rfl, rfl⟩
      simp only [te_two, Nat.reduceEqDiff, if_true, if_false]
      all_goals first
        | rfl
        | exact pu_b_t (by simp_all)
        | exact pu_b_f (by simp_all)
        | exact pu_b_t (by (try simp only [Int32.le_iff_toInt_le, Int32.lt_iff_toInt_lt, ← Int32.toInt_inj] at *); omega)
        | exact pu_b_f (by (try simp only [Int32.le_iff_toInt_le, Int32.lt_iff_toInt_lt, ← Int32.toInt_inj] at *); omega)
  · refine ev_s (is_tsw 94 rfl (by decide)) ?_
    refine ev_s (is_iload_n rfl rfl) ?_
    refine ev_s (is_iload_n rfl rfl) ?_
    first
      | refine ev_s (is_iadd _ rfl (nI_add _ _)) ?_
      | refine ev_s (is_iadd _ rfl rfl) ?_
    refine ev_ret (is_ireturn rfl rfl (by first | rfl | exact pu_b_nar | decide)) ?_
    refine ⟨?_, rfl, rfl, rfl⟩
    simp only [te_two, Nat.reduceEqDiff, if_true, if_false]
    all_goals first
      | rfl
      | exact pu_b_t (by simp_all)
      | exact pu_b_f (by simp_all)
      | exact pu_b_t (by (try simp only [Int32.le_iff_toInt_le, Int32.lt_iff_toInt_lt, ← Int32.toInt_inj] at *); omega)
      | exact pu_b_f (by (try simp only [Int32.le_iff_toInt_le, Int32.lt_iff_toInt_lt, ← Int32.toInt_inj] at *); omega)
  · refine ev_s (is_tsw 98 rfl (by decide)) ?_
    refine ev_s (is_iload_n rfl rfl) ?_
    refine ev_s (is_iload_n rfl rfl) ?_
    first
      | refine ev_s (is_isub _ rfl (pk_sub (by omega))) ?_
      | refine ev_s (is_isub _ rfl rfl) ?_
    refine ev_ret (is_ireturn rfl rfl (by first | rfl | exact pu_b_nar | decide)) ?_
    refine ⟨?_, rfl, rfl, rfl⟩
    simp only [te_two, Nat.reduceEqDiff, if_true, if_false]
    all_goals first
      | rfl
      | exact pu_b_t (by simp_all)
      | exact pu_b_f (by simp_all)
      | exact pu_b_t (by (try simp only [Int32.le_iff_toInt_le, Int32.lt_iff_toInt_lt, ← Int32.toInt_inj] at *); omega)
      | exact pu_b_f (by (try simp only [Int32.le_iff_toInt_le, Int32.lt_iff_toInt_lt, ← Int32.toInt_inj] at *); omega)
  · refine ev_s (is_tsw 102 rfl (by decide)) ?_
    refine ev_s (is_iload_n rfl rfl) ?_
    refine ev_s (is_iload_n rfl rfl) ?_
    first
      | refine ev_s (is_imul _ rfl (pk_mul _ _)) ?_
      | refine ev_s (is_imul _ rfl rfl) ?_
    refine ev_ret (is_ireturn rfl rfl (by first | rfl | exact pu_b_nar | decide)) ?_
    refine ⟨?_, rfl, rfl, rfl⟩
    simp only [te_two, Nat.reduceEqDiff, if_true, if_false]
    all_goals first
      | rfl
      | exact pu_b_t (by simp_all)
      | exact pu_b_f (by simp_all)
      | exact pu_b_t (by (try simp only [Int32.le_iff_toInt_le, Int32.lt_iff_toInt_lt, ← Int32.toInt_inj] at *); omega)
      | exact pu_b_f (by (try simp only [Int32.le_iff_toInt_le, Int32.lt_iff_toInt_lt, ← Int32.toInt_inj] at *); omega)
