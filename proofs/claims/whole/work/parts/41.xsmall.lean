/-! ===== PURE, the class: static methods, kinds ===== -/

theorem x_noHour {d : Nat} {sh : im_Sh} {mi : im_MI} {mr : im_MR} (h : Int32) : EvM (d) 106 [.int h] sh mi mr (ev_R sh (.int (pu_b (h < 0 ∨ nI 12 ≤ h))) mi mr) := by
  show Ev (d) 106 0 [.int h] [] sh mi mr _
  refine ev_s (is_iload_n rfl rfl) ?_
  refine ev_if_lt rfl (fun h_1 => ?_) (fun h_1 => ?_)
  · refine ev_s (is_iconst (nI 1) rfl rfl) ?_
    refine ev_s (is_goto rfl) ?_
    refine ev_ret (is_ireturn rfl rfl (by first | rfl | exact pu_b_nar | decide)) ?_
    first
      | exact ⟨pu_b_t (by (try simp only [Int32.le_iff_toInt_le, Int32.lt_iff_toInt_lt, ← Int32.toInt_inj] at *); omega), rfl, rfl, rfl⟩
      | exact ⟨pu_b_f (by (try simp only [Int32.le_iff_toInt_le, Int32.lt_iff_toInt_lt, ← Int32.toInt_inj] at *); omega), rfl, rfl, rfl⟩
  · refine ev_s (is_iload_n rfl rfl) ?_
    refine ev_s (is_bipush (nI 12) rfl rfl) ?_
    refine ev_icmp_lt rfl (fun h_7 => ?_) (fun h_7 => ?_)
    · refine ev_s (is_iconst (nI 0) rfl rfl) ?_
      refine ev_ret (is_ireturn rfl rfl (by first | rfl | exact pu_b_nar | decide)) ?_
      first
        | exact ⟨pu_b_t (by (try simp only [Int32.le_iff_toInt_le, Int32.lt_iff_toInt_lt, ← Int32.toInt_inj] at *); omega), rfl, rfl, rfl⟩
        | exact ⟨pu_b_f (by (try simp only [Int32.le_iff_toInt_le, Int32.lt_iff_toInt_lt, ← Int32.toInt_inj] at *); omega), rfl, rfl, rfl⟩
    · refine ev_s (is_iconst (nI 1) rfl rfl) ?_
      refine ev_s (is_goto rfl) ?_
      refine ev_ret (is_ireturn rfl rfl (by first | rfl | exact pu_b_nar | decide)) ?_
      first
        | exact ⟨pu_b_t (by (try simp only [Int32.le_iff_toInt_le, Int32.lt_iff_toInt_lt, ← Int32.toInt_inj] at *); omega), rfl, rfl, rfl⟩
        | exact ⟨pu_b_f (by (try simp only [Int32.le_iff_toInt_le, Int32.lt_iff_toInt_lt, ← Int32.toInt_inj] at *); omega), rfl, rfl, rfl⟩

theorem pu_noHour {h : Nat} (hh : h < 12) : pu_b (nI h < 0 ∨ nI 12 ≤ nI h) = nI 0 := by
  unfold pu_b
  rw [if_neg]
  rintro (q | q)
  · exact nI_pos (by omega) q
  · exact nI_ge (by omega) (by omega) q

theorem x_has {d : Nat} {sh : im_Sh} {mi : im_MI} {mr : im_MR} {b i : Nat} (hb : b < 2 ^ 31) (hi : i < 32) : EvM (d) 105 [.int (nI b), .int (nI i)] sh mi mr (ev_R sh (.int (pu_b (b / 2 ^ i % 2 = 1))) mi mr) := by
  show Ev (d) 105 0 [.int (nI b), .int (nI i)] [] sh mi mr _
  refine ev_s (is_iload_n rfl rfl) ?_
  refine ev_s (is_iload_n rfl rfl) ?_
  refine ev_s (is_ishr _ rfl (nI_shr hb (by omega))) ?_
  refine ev_s (is_iconst (nI 1) rfl rfl) ?_
  refine ev_s (is_iand (nI (b / 2 ^ i % 2)) rfl (nI_and1 (by have := Nat.div_le_self b (2 ^ i); omega))) ?_
  have hl2 : b / 2 ^ i % 2 < 2 := Nat.mod_lt _ (by decide)
  refine ev_s (is_iconst (nI 1) rfl rfl) ?_
  refine ev_icmpN_ne rfl (by omega) (by omega) (fun h_6 => ?_) (fun h_6 => ?_)
  · refine ev_s (is_iconst (nI 0) rfl rfl) ?_
    refine ev_ret (is_ireturn rfl rfl (by first | rfl | exact pu_b_nar | decide)) ?_
    first
      | exact ⟨pu_b_t h_6, rfl, rfl, rfl⟩
      | exact ⟨pu_b_f h_6, rfl, rfl, rfl⟩
  · refine ev_s (is_iconst (nI 1) rfl rfl) ?_
    refine ev_s (is_goto rfl) ?_
    refine ev_ret (is_ireturn rfl rfl (by first | rfl | exact pu_b_nar | decide)) ?_
    first
      | exact ⟨pu_b_t h_6, rfl, rfl, rfl⟩
      | exact ⟨pu_b_f h_6, rfl, rfl, rfl⟩

theorem x_max {d : Nat} {sh : im_Sh} {mi : im_MI} {mr : im_MR} (a b : Int32) : EvM (d) 208 [.int a, .int b] sh mi mr (ev_R sh (.int (if a < b then b else a)) mi mr) := by
  show Ev (d) 208 0 [.int a, .int b] [] sh mi mr _
  refine ev_s (is_iload_n rfl rfl) ?_
  refine ev_s (is_iload_n rfl rfl) ?_
  refine ev_icmp_lt rfl (fun h_2 => ?_) (fun h_2 => ?_)
  · refine ev_s (is_iload_n rfl rfl) ?_
    refine ev_ret (is_ireturn rfl rfl (by first | rfl | exact pu_b_nar | decide)) ?_
    first
      | exact ⟨by rw [if_pos h_2], rfl, rfl, rfl⟩
      | exact ⟨by rw [if_neg h_2], rfl, rfl, rfl⟩
  · refine ev_s (is_iload_n rfl rfl) ?_
    refine ev_s (is_goto rfl) ?_
    refine ev_ret (is_ireturn rfl rfl (by first | rfl | exact pu_b_nar | decide)) ?_
    first
      | exact ⟨by rw [if_pos h_2], rfl, rfl, rfl⟩
      | exact ⟨by rw [if_neg h_2], rfl, rfl, rfl⟩

theorem x_min {d : Nat} {sh : im_Sh} {mi : im_MI} {mr : im_MR} (a b : Int32) : EvM (d) 209 [.int a, .int b] sh mi mr (ev_R sh (.int (if b < a then b else a)) mi mr) := by
  show Ev (d) 209 0 [.int a, .int b] [] sh mi mr _
  refine ev_s (is_iload_n rfl rfl) ?_
  refine ev_s (is_iload_n rfl rfl) ?_
  refine ev_icmp_gt rfl (fun h_2 => ?_) (fun h_2 => ?_)
  · refine ev_s (is_iload_n rfl rfl) ?_
    refine ev_ret (is_ireturn rfl rfl (by first | rfl | exact pu_b_nar | decide)) ?_
    first
      | exact ⟨by rw [if_pos h_2], rfl, rfl, rfl⟩
      | exact ⟨by rw [if_neg h_2], rfl, rfl, rfl⟩
  · refine ev_s (is_iload_n rfl rfl) ?_
    refine ev_s (is_goto rfl) ?_
    refine ev_ret (is_ireturn rfl rfl (by first | rfl | exact pu_b_nar | decide)) ?_
    first
      | exact ⟨by rw [if_pos h_2], rfl, rfl, rfl⟩
      | exact ⟨by rw [if_neg h_2], rfl, rfl, rfl⟩

theorem x_signs {d : Nat} {sh : im_Sh} {mi : im_MI} {mr : im_MR} {k g : Nat} (hk : k < 6) (hg : g < 6) : EvM (d) 2 [.int (nI k), .int (nI g)] sh mi mr (ev_R sh (.int (nI (kd_signs k g))) mi mr) := by
  show Ev (d) 2 0 [.int (nI k), .int (nI g)] [] sh mi mr _
  refine ev_s (is_iload_n rfl rfl) ?_
  rcases (show k = 0 ∨ k = 1 ∨ k = 2 ∨ k = 3 ∨ k = 4 ∨ k = 5 by omega) with rfl | rfl | rfl | rfl | rfl | rfl
  · refine ev_s (is_tsw 84 rfl (by decide)) ?_
    refine ev_s (is_iload_n rfl rfl) ?_
    refine ev_ret (is_ireturn rfl rfl (by first | rfl | exact pu_b_nar | decide)) ?_
    refine ⟨congrArg Value.int (congrArg nI ?_), rfl, rfl, rfl⟩
    unfold kd_signs
    repeat (first
      | rw [if_pos (by omega)]
      | rw [if_neg (by omega)])
  · refine ev_s (is_tsw 36 rfl (by decide)) ?_
    refine ev_s (is_iload_n rfl rfl) ?_
    refine ev_s (is_iconst (nI 5) rfl rfl) ?_
    first
      | refine ev_icmpN_ge rfl (by omega) (by omega) (fun h_38 => ?_) (fun h_38 => ?_)
      | refine ev_icmp_ge rfl (fun h_38 => ?_) (fun h_38 => ?_)
    · refine ev_s (is_iconst (nI 5) rfl rfl) ?_
      refine ev_ret (is_ireturn rfl rfl (by first | rfl | exact pu_b_nar | decide)) ?_
      refine ⟨congrArg Value.int (congrArg nI ?_), rfl, rfl, rfl⟩
      unfold kd_signs
      repeat (first
        | rw [if_pos (by omega)]
        | rw [if_neg (by omega)])
    · refine ev_s (is_iload_n rfl rfl) ?_
      refine ev_s (is_iconst (nI 1) rfl rfl) ?_
      first
        | refine ev_s (is_iadd _ rfl (nI_add _ _)) ?_
        | refine ev_s (is_iadd _ rfl rfl) ?_
      refine ev_s (is_goto rfl) ?_
      refine ev_ret (is_ireturn rfl rfl (by first | rfl | exact pu_b_nar | decide)) ?_
      refine ⟨congrArg Value.int (congrArg nI ?_), rfl, rfl, rfl⟩
      unfold kd_signs
      repeat (first
        | rw [if_pos (by omega)]
        | rw [if_neg (by omega)])
  · refine ev_s (is_tsw 62 rfl (by decide)) ?_
    refine ev_s (is_iload_n rfl rfl) ?_
    refine ev_s (is_iconst (nI 3) rfl rfl) ?_
    first
      | refine ev_icmpN_ge rfl (by omega) (by omega) (fun h_64 => ?_) (fun h_64 => ?_)
      | refine ev_icmp_ge rfl (fun h_64 => ?_) (fun h_64 => ?_)
    · refine ev_s (is_iload_n rfl rfl) ?_
      refine ev_ret (is_ireturn rfl rfl (by first | rfl | exact pu_b_nar | decide)) ?_
      refine ⟨congrArg Value.int (congrArg nI ?_), rfl, rfl, rfl⟩
      unfold kd_signs
      repeat (first
        | rw [if_pos (by omega)]
        | rw [if_neg (by omega)])
    · refine ev_s (is_iconst (nI 0) rfl rfl) ?_
      refine ev_s (is_goto rfl) ?_
      refine ev_ret (is_ireturn rfl rfl (by first | rfl | exact pu_b_nar | decide)) ?_
      refine ⟨congrArg Value.int (congrArg nI ?_), rfl, rfl, rfl⟩
      unfold kd_signs
      repeat (first
        | rw [if_pos (by omega)]
        | rw [if_neg (by omega)])
  · refine ev_s (is_tsw 49 rfl (by decide)) ?_
    refine ev_s (is_iload_n rfl rfl) ?_
    refine ev_s (is_iconst (nI 2) rfl rfl) ?_
    first
      | refine ev_icmpN_le rfl (by omega) (by omega) (fun h_51 => ?_) (fun h_51 => ?_)
      | refine ev_icmp_le rfl (fun h_51 => ?_) (fun h_51 => ?_)
    · refine ev_s (is_iload_n rfl rfl) ?_
      refine ev_s (is_iconst (nI 1) rfl rfl) ?_
      first
        | refine ev_s (is_iadd _ rfl (nI_add _ _)) ?_
        | refine ev_s (is_iadd _ rfl rfl) ?_
      refine ev_ret (is_ireturn rfl rfl (by first | rfl | exact pu_b_nar | decide)) ?_
      refine ⟨congrArg Value.int (congrArg nI ?_), rfl, rfl, rfl⟩
      unfold kd_signs
      repeat (first
        | rw [if_pos (by omega)]
        | rw [if_neg (by omega)])
    · refine ev_s (is_iconst (nI 0) rfl rfl) ?_
      refine ev_s (is_goto rfl) ?_
      refine ev_ret (is_ireturn rfl rfl (by first | rfl | exact pu_b_nar | decide)) ?_
      refine ⟨congrArg Value.int (congrArg nI ?_), rfl, rfl, rfl⟩
      unfold kd_signs
      repeat (first
        | rw [if_pos (by omega)]
        | rw [if_neg (by omega)])
  · refine ev_s (is_tsw 62 rfl (by decide)) ?_
    refine ev_s (is_iload_n rfl rfl) ?_
    refine ev_s (is_iconst (nI 3) rfl rfl) ?_
    first
      | refine ev_icmpN_ge rfl (by omega) (by omega) (fun h_64 => ?_) (fun h_64 => ?_)
      | refine ev_icmp_ge rfl (fun h_64 => ?_) (fun h_64 => ?_)
    · refine ev_s (is_iload_n rfl rfl) ?_
      refine ev_ret (is_ireturn rfl rfl (by first | rfl | exact pu_b_nar | decide)) ?_
      refine ⟨congrArg Value.int (congrArg nI ?_), rfl, rfl, rfl⟩
      unfold kd_signs
      repeat (first
        | rw [if_pos (by omega)]
        | rw [if_neg (by omega)])
    · refine ev_s (is_iconst (nI 0) rfl rfl) ?_
      refine ev_s (is_goto rfl) ?_
      refine ev_ret (is_ireturn rfl rfl (by first | rfl | exact pu_b_nar | decide)) ?_
      refine ⟨congrArg Value.int (congrArg nI ?_), rfl, rfl, rfl⟩
      unfold kd_signs
      repeat (first
        | rw [if_pos (by omega)]
        | rw [if_neg (by omega)])
  · refine ev_s (is_tsw 73 rfl (by decide)) ?_
    refine ev_s (is_iload_n rfl rfl) ?_
    refine ev_s (is_iconst (nI 5) rfl rfl) ?_
    first
      | refine ev_icmpN_ne rfl (by omega) (by omega) (fun h_75 => ?_) (fun h_75 => ?_)
      | refine ev_icmp_ne rfl (fun h_75 => ?_) (fun h_75 => ?_)
    · refine ev_s (is_iload_n rfl rfl) ?_
      refine ev_ret (is_ireturn rfl rfl (by first | rfl | exact pu_b_nar | decide)) ?_
      refine ⟨congrArg Value.int (congrArg nI ?_), rfl, rfl, rfl⟩
      unfold kd_signs
      repeat (first
        | rw [if_pos (by omega)]
        | rw [if_neg (by omega)])
    · refine ev_s (is_iconst (nI 0) rfl rfl) ?_
      refine ev_s (is_goto rfl) ?_
      refine ev_ret (is_ireturn rfl rfl (by first | rfl | exact pu_b_nar | decide)) ?_
      refine ⟨congrArg Value.int (congrArg nI ?_), rfl, rfl, rfl⟩
      unfold kd_signs
      repeat (first
        | rw [if_pos (by omega)]
        | rw [if_neg (by omega)])

theorem x_minds {d : Nat} {sh : im_Sh} {mi : im_MI} {mr : im_MR} {k m v : Nat} (hk : k < 6) (hm : m < 10) (hv : v ≤ 100) : EvM (d) 3 [.int (nI k), .int (nI m), .int (nI v)] sh mi mr (ev_R sh (.int (nI (kd_minds k m v))) mi mr) := by
  show Ev (d) 3 0 [.int (nI k), .int (nI m), .int (nI v)] [] sh mi mr _
  refine ev_s (is_iload_n rfl rfl) ?_
  rcases (show k = 0 ∨ k = 1 ∨ k = 2 ∨ k = 3 ∨ k = 4 ∨ k = 5 by omega) with rfl | rfl | rfl | rfl | rfl | rfl
  · refine ev_s (is_tsw 49 rfl (by decide)) ?_
    refine ev_s (is_iload_n rfl rfl) ?_
    refine ev_ret (is_ireturn rfl rfl (by first | rfl | exact pu_b_nar | decide)) ?_
    refine ⟨congrArg Value.int (congrArg nI ?_), rfl, rfl, rfl⟩
    unfold kd_minds
    repeat (first
      | rw [if_pos (by omega)]
      | rw [if_neg (by omega)])
  · refine ev_s (is_tsw 49 rfl (by decide)) ?_
    refine ev_s (is_iload_n rfl rfl) ?_
    refine ev_ret (is_ireturn rfl rfl (by first | rfl | exact pu_b_nar | decide)) ?_
    refine ⟨congrArg Value.int (congrArg nI ?_), rfl, rfl, rfl⟩
    unfold kd_minds
    repeat (first
      | rw [if_pos (by omega)]
      | rw [if_neg (by omega)])
  · refine ev_s (is_tsw 28 rfl (by decide)) ?_
    refine ev_s (is_iload_n rfl rfl) ?_
    refine ev_s (is_iconst (nI 2) rfl rfl) ?_
    refine ev_s (is_idiv _ rfl (by decide) (pk_div (by omega) (by decide) (by decide))) ?_
    refine ev_ret (is_ireturn rfl rfl (by first | rfl | exact pu_b_nar | decide)) ?_
    refine ⟨congrArg Value.int (congrArg nI ?_), rfl, rfl, rfl⟩
    unfold kd_minds
    repeat (first
      | rw [if_pos (by omega)]
      | rw [if_neg (by omega)])
  · refine ev_s (is_tsw 32 rfl (by decide)) ?_
    refine ev_s (is_iload_n rfl rfl) ?_
    refine ev_s (is_iload_n rfl rfl) ?_
    first
      | refine ev_s (is_iadd _ rfl (nI_add _ _)) ?_
      | refine ev_s (is_iadd _ rfl rfl) ?_
    refine ev_ret (is_ireturn rfl rfl (by first | rfl | exact pu_b_nar | decide)) ?_
    refine ⟨congrArg Value.int (congrArg nI ?_), rfl, rfl, rfl⟩
    unfold kd_minds
    repeat (first
      | rw [if_pos (by omega)]
      | rw [if_neg (by omega)])
  · refine ev_s (is_tsw 36 rfl (by decide)) ?_
    refine ev_s (is_iload_n rfl rfl) ?_
    refine ev_s (is_iload_n rfl rfl) ?_
    first
      | refine ev_icmpN_gt rfl (by omega) (by omega) (fun h_38 => ?_) (fun h_38 => ?_)
      | refine ev_icmp_gt rfl (fun h_38 => ?_) (fun h_38 => ?_)
    · refine ev_s (is_iload_n rfl rfl) ?_
      refine ev_s (is_iconst (nI 2) rfl rfl) ?_
      refine ev_s (is_idiv _ rfl (by decide) (pk_div (by omega) (by decide) (by decide))) ?_
      refine ev_ret (is_ireturn rfl rfl (by first | rfl | exact pu_b_nar | decide)) ?_
      refine ⟨congrArg Value.int (congrArg nI ?_), rfl, rfl, rfl⟩
      unfold kd_minds
      repeat (first
        | rw [if_pos (by omega)]
        | rw [if_neg (by omega)])
    · refine ev_s (is_iconst (nI 0) rfl rfl) ?_
      refine ev_s (is_goto rfl) ?_
      refine ev_ret (is_ireturn rfl rfl (by first | rfl | exact pu_b_nar | decide)) ?_
      refine ⟨congrArg Value.int (congrArg nI ?_), rfl, rfl, rfl⟩
      unfold kd_minds
      repeat (first
        | rw [if_pos (by omega)]
        | rw [if_neg (by omega)])
  · refine ev_s (is_tsw 49 rfl (by decide)) ?_
    refine ev_s (is_iload_n rfl rfl) ?_
    refine ev_ret (is_ireturn rfl rfl (by first | rfl | exact pu_b_nar | decide)) ?_
    refine ⟨congrArg Value.int (congrArg nI ?_), rfl, rfl, rfl⟩
    unfold kd_minds
    repeat (first
      | rw [if_pos (by omega)]
      | rw [if_neg (by omega)])

theorem pu_maxsub {v m : Nat} (hv : v ≤ 100) (hm : m < 10) : (if nI 0 < nI v - nI m then nI v - nI m else nI 0) = nI (v - m) := by
  rcases Nat.lt_or_ge v m with h | h
  · have := pk_sneg (a := v) (b := m) (by omega) h
    rw [if_neg (show ¬ nI 0 < nI v - nI m from Int32.not_lt.mpr (Int32.le_of_lt this)), show v - m = 0 by omega]
  · rw [pk_sub h]
    split
    · rfl
    · rename_i h2
      have := mt (nI_ltI (a := 0) (b := v - m) (by decide) (by omega)).mpr h2
      rw [show v - m = 0 by omega]

theorem x_serves {d : Nat} {sh : im_Sh} {mi : im_MI} {mr : im_MR} {k m v : Nat} (hk : k < 6) (hm : m < 10) (hv : v ≤ 100) : EvM (d + 1) 4 [.int (nI k), .int (nI m), .int (nI v)] sh mi mr (ev_R sh (.int (nI (kd_serves k m v))) mi mr) := by
  show Ev (d + 1) 4 0 [.int (nI k), .int (nI m), .int (nI v)] [] sh mi mr _
  refine ev_s (is_iload_n rfl rfl) ?_
  rcases (show k = 0 ∨ k = 1 ∨ k = 2 ∨ k = 3 ∨ k = 4 ∨ k = 5 by omega) with rfl | rfl | rfl | rfl | rfl | rfl
  · refine ev_s (is_lsw 40 rfl (by decide)) ?_
    refine ev_s (is_iload_n rfl rfl) ?_
    refine ev_ret (is_ireturn rfl rfl (by first | rfl | exact pu_b_nar | decide)) ?_
    refine ⟨congrArg Value.int ?_, rfl, rfl, rfl⟩
    unfold kd_serves
    repeat (first
      | rw [if_pos (by omega : (_ : Nat) = _)]
      | rw [if_neg (by omega : ¬ (_ : Nat) = _)])
    all_goals first
      | rfl
      | exact pu_maxsub hv hm
  · refine ev_s (is_lsw 40 rfl (by decide)) ?_
    refine ev_s (is_iload_n rfl rfl) ?_
    refine ev_ret (is_ireturn rfl rfl (by first | rfl | exact pu_b_nar | decide)) ?_
    refine ⟨congrArg Value.int ?_, rfl, rfl, rfl⟩
    unfold kd_serves
    repeat (first
      | rw [if_pos (by omega : (_ : Nat) = _)]
      | rw [if_neg (by omega : ¬ (_ : Nat) = _)])
    all_goals first
      | rfl
      | exact pu_maxsub hv hm
  · refine ev_s (is_lsw 40 rfl (by decide)) ?_
    refine ev_s (is_iload_n rfl rfl) ?_
    refine ev_ret (is_ireturn rfl rfl (by first | rfl | exact pu_b_nar | decide)) ?_
    refine ⟨congrArg Value.int ?_, rfl, rfl, rfl⟩
    unfold kd_serves
    repeat (first
      | rw [if_pos (by omega : (_ : Nat) = _)]
      | rw [if_neg (by omega : ¬ (_ : Nat) = _)])
    all_goals first
      | rfl
      | exact pu_maxsub hv hm
  · refine ev_s (is_lsw 40 rfl (by decide)) ?_
    refine ev_s (is_iload_n rfl rfl) ?_
    refine ev_ret (is_ireturn rfl rfl (by first | rfl | exact pu_b_nar | decide)) ?_
    refine ⟨congrArg Value.int ?_, rfl, rfl, rfl⟩
    unfold kd_serves
    repeat (first
      | rw [if_pos (by omega : (_ : Nat) = _)]
      | rw [if_neg (by omega : ¬ (_ : Nat) = _)])
    all_goals first
      | rfl
      | exact pu_maxsub hv hm
  · refine ev_s (is_lsw 28 rfl (by decide)) ?_
    refine ev_s (is_iload_n rfl rfl) ?_
    refine ev_s (is_iconst (nI 3) rfl rfl) ?_
    refine ev_s (is_idiv _ rfl (by decide) (pk_div (by omega) (by decide) (by decide))) ?_
    refine ev_ret (is_ireturn rfl rfl (by first | rfl | exact pu_b_nar | decide)) ?_
    refine ⟨congrArg Value.int ?_, rfl, rfl, rfl⟩
    unfold kd_serves
    repeat (first
      | rw [if_pos (by omega : (_ : Nat) = _)]
      | rw [if_neg (by omega : ¬ (_ : Nat) = _)])
    all_goals first
      | rfl
      | exact pu_maxsub hv hm
  · refine ev_s (is_lsw 32 rfl (by decide)) ?_
    refine ev_s (is_iconst (nI 0) rfl rfl) ?_
    refine ev_s (is_iload_n rfl rfl) ?_
    refine ev_s (is_iload_n rfl rfl) ?_
    refine ev_s (is_isub _ rfl rfl) ?_
    refine ev_c1 (is_call0 2 [_, _] [] rfl rfl rfl rfl rfl (Nat.le_of_ble_eq_true rfl) rfl rfl rfl) rfl rfl (x_max _ _) ?_
    refine ev_ret (is_ireturn rfl rfl (by first | rfl | exact pu_b_nar | decide)) ?_
    refine ⟨congrArg Value.int ?_, rfl, rfl, rfl⟩
    unfold kd_serves
    repeat (first
      | rw [if_pos (by omega : (_ : Nat) = _)]
      | rw [if_neg (by omega : ¬ (_ : Nat) = _)])
    all_goals first
      | rfl
      | exact pu_maxsub hv hm

theorem x_signIn {d : Nat} {sh : im_Sh} {mi : im_MI} {mr : im_MR} (hC : pu_C sh mr) {k h : Nat} {a : Nat → Nat} (hk : xm_M k) (ha : xm_ok mi k a) (hh : h < 12) : EvM (d + 1) 9 [.ref k, .int (nI h)] sh mi mr (ev_R sh (.int (nI (kd_signs (a 14) (a h)))) mi mr) := by
  show Ev (d + 1) 9 0 [.ref k, .int (nI h)] [] sh mi mr _
  refine ev_s (is_iload_n rfl rfl) ?_
  refine ev_c1 (is_call0 1 [_] [] rfl rfl rfl rfl rfl (Nat.le_of_ble_eq_true rfl) rfl rfl rfl) rfl rfl (x_noHour _) ?_
  rw [pu_noHour hh]
  refine ev_s (is_if_eq_t rfl rfl) ?_
  refine ev_s (is_aload_n rfl rfl) ?_
  refine ev_s (is_getI' rfl (pu_M hC hk).1 rfl rfl ha.1) ?_
  refine ev_s (is_aload_n rfl rfl) ?_
  refine ev_s (is_getR rfl (pu_M hC hk).1 rfl rfl (pu_M hC hk).2.2) ?_
  refine ev_s (is_iload_n rfl rfl) ?_
  refine ev_s (is_iaload' (h) rfl ((pu_M hC hk).2.1) rfl rfl hh (ha.2.2.2.2.1 h hh)) ?_
  refine ev_c1 (is_call0 2 [_, _] [] rfl rfl rfl rfl rfl (Nat.le_of_ble_eq_true rfl) rfl rfl rfl) rfl rfl (x_signs ha.2.2.2.2.2.1 (ha.2.2.2.2.2.2.2.2.2 h hh)) ?_
  refine ev_ret (is_ireturn rfl rfl (by first | rfl | exact pu_b_nar | decide)) ?_
  exact ⟨rfl, rfl, rfl, rfl⟩

theorem x_isWatched {d : Nat} {sh : im_Sh} {mi : im_MI} {mr : im_MR} (hC : pu_C sh mr) {R w i : Nat} (hR : xr_R R) (hw : mi R 1 = nI w) (hwb : w < 2 ^ 31) (hi : i < 32) : EvM (d + 1) 16 [.ref R, .int (nI i)] sh mi mr (ev_R sh (.int (pu_b (w / 2 ^ i % 2 = 1))) mi mr) := by
  show Ev (d + 1) 16 0 [.ref R, .int (nI i)] [] sh mi mr _
  refine ev_s (is_aload_n rfl rfl) ?_
  refine ev_s (is_getI' rfl (pu_R hC hR).1 rfl rfl hw) ?_
  refine ev_s (is_iload_n rfl rfl) ?_
  refine ev_c1 (is_call0 2 [_, _] [] rfl rfl rfl rfl rfl (Nat.le_of_ble_eq_true rfl) rfl rfl rfl) rfl rfl (x_has hwb hi) ?_
  refine ev_ret (is_ireturn rfl rfl (by first | rfl | exact pu_b_nar | decide)) ?_
  exact ⟨rfl, rfl, rfl, rfl⟩

theorem x_named {d : Nat} {sh : im_Sh} {mi : im_MI} {mr : im_MR} (hC : pu_C sh mr) {R c : Nat} (hR : xr_R R) (hc : c < 6) {nm : Nat → Int32} (hnm : ∀ c, c < 6 → mi (R + 1) c = nm c) : EvM (d) 42 [.int (nI c), .ref (R + 1)] sh mi mr (ev_R sh (.int (nm c)) mi mr) := by
  show Ev (d) 42 0 [.int (nI c), .ref (R + 1)] [] sh mi mr _
  refine ev_s (is_iload_n rfl rfl) ?_
  refine ev_s (is_if_lt_f rfl (nI_pos (by omega))) ?_
  refine ev_s (is_iload_n rfl rfl) ?_
  refine ev_s (is_aload_n rfl rfl) ?_
  refine ev_s (is_alen rfl ((pu_R hC hR).2.1) (by decide)) ?_
  refine ev_s (is_icmp_ge_f rfl (nI_ge (by omega) (by omega))) ?_
  refine ev_s (is_aload_n rfl rfl) ?_
  refine ev_s (is_iload_n rfl rfl) ?_
  refine ev_s (is_iaload' (c) rfl ((pu_R hC hR).2.1) rfl rfl hc (hnm c hc)) ?_
  refine ev_s (is_goto rfl) ?_
  refine ev_ret (is_ireturn rfl rfl (by first | rfl | exact pu_b_nar | decide)) ?_
  exact ⟨rfl, rfl, rfl, rfl⟩

theorem x_turnedM {d : Nat} {sh : im_Sh} {mi : im_MI} {mr : im_MR} (a : Int32) : EvM (d) 43 [.int (nI 10), .int a] sh mi mr (ev_R sh (.int (-a)) mi mr) := by
  show Ev (d) 43 0 [.int (nI 10), .int a] [] sh mi mr _
  refine ev_s (is_iload_n rfl rfl) ?_
  refine ev_s (is_bipush (nI 10) rfl rfl) ?_
  refine ev_s (is_icmp_ne_f rfl (fun q => q rfl)) ?_
  refine ev_s (is_iload_n rfl rfl) ?_
  refine ev_s (is_ineg _ rfl rfl) ?_
  refine ev_ret (is_ireturn rfl rfl (by first | rfl | exact pu_b_nar | decide)) ?_
  exact ⟨rfl, rfl, rfl, rfl⟩

theorem x_turnedN {d : Nat} {sh : im_Sh} {mi : im_MI} {mr : im_MR} (a : Int32) : EvM (d) 43 [.int (nI 9), .int a] sh mi mr (ev_R sh (.int (pu_b (a = 0))) mi mr) := by
  show Ev (d) 43 0 [.int (nI 9), .int a] [] sh mi mr _
  refine ev_s (is_iload_n rfl rfl) ?_
  refine ev_s (is_bipush (nI 10) rfl rfl) ?_
  refine ev_s (is_icmp_ne_t rfl (by decide)) ?_
  refine ev_s (is_iload_n rfl rfl) ?_
  refine ev_if_ne rfl (fun h_10 => ?_) (fun h_10 => ?_)
  · refine ev_s (is_iconst (nI 0) rfl rfl) ?_
    refine ev_ret (is_ireturn rfl rfl (by first | rfl | exact pu_b_nar | decide)) ?_
    first
      | exact ⟨pu_b_t (Decidable.byContradiction h_10), rfl, rfl, rfl⟩
      | exact ⟨pu_b_f h_10, rfl, rfl, rfl⟩
  · refine ev_s (is_iconst (nI 1) rfl rfl) ?_
    refine ev_s (is_goto rfl) ?_
    refine ev_ret (is_ireturn rfl rfl (by first | rfl | exact pu_b_nar | decide)) ?_
    first
      | exact ⟨pu_b_t (Decidable.byContradiction h_10), rfl, rfl, rfl⟩
      | exact ⟨pu_b_f h_10, rfl, rfl, rfl⟩

theorem x_joined {d : Nat} {sh : im_Sh} {mi : im_MI} {mr : im_MR} {c : Nat} (hc : c = 11 ∨ c = 12 ∨ c = 14 ∨ c = 15 ∨ c = 16 ∨ c = 17 ∨ c = 18) (a b : Int32) : EvM (d) 44 [.int (nI (te_enc c)), .int a, .int b] sh mi mr (ev_R sh (.int (te_two c a b)) mi mr) := by
  show Ev (d) 44 0 [.int (nI (te_enc c)), .int a, .int b] [] sh mi mr _
  refine ev_s (is_iload_n rfl rfl) ?_
  rcases hc with rfl | rfl | rfl | rfl | rfl | rfl | rfl
  · refine ev_s (is_lsw 60 rfl (by decide)) ?_
    refine ev_s (is_iload_n rfl rfl) ?_
    refine ev_if_ne rfl (fun h_61 => ?_) (fun h_61 => ?_)
    · refine ev_s (is_iconst (nI 1) rfl rfl) ?_
      refine ev_s (is_goto rfl) ?_
      refine ev_ret (is_ireturn rfl rfl (by first | rfl | exact pu_b_nar | decide)) ?_
      refine ⟨?_, rfl, rfl, rfl⟩
      simp only [te_two, Nat.reduceEqDiff, if_true, if_false]
      all_goals first
        | rfl
        | exact pu_b_t (by simp_all)
        | exact pu_b_f (by simp_all)
        | exact pu_b_t (by (try simp only [Int32.le_iff_toInt_le, Int32.lt_iff_toInt_lt, ← Int32.toInt_inj] at *); omega)
        | exact pu_b_f (by (try simp only [Int32.le_iff_toInt_le, Int32.lt_iff_toInt_lt, ← Int32.toInt_inj] at *); omega)
    · refine ev_s (is_iload_n rfl rfl) ?_
      refine ev_if_eq rfl (fun h_65 => ?_) (fun h_65 => ?_)
      · refine ev_s (is_iconst (nI 0) rfl rfl) ?_
        refine ev_ret (is_ireturn rfl rfl (by first | rfl | exact pu_b_nar | decide)) ?_
        refine ⟨?_, rfl, rfl, rfl⟩
        simp only [te_two, Nat.reduceEqDiff, if_true, if_false]
        all_goals first
          | rfl
          | exact pu_b_t (by simp_all)
          | exact pu_b_f (by simp_all)
          | exact pu_b_t (by (try simp only [Int32.le_iff_toInt_le, Int32.lt_iff_toInt_lt, ← Int32.toInt_inj] at *); omega)
          | exact pu_b_f (by (try simp only [Int32.le_iff_toInt_le, Int32.lt_iff_toInt_lt, ← Int32.toInt_inj] at *); omega)
      · refine ev_s (is_iconst (nI 1) rfl rfl) ?_
        refine ev_s (is_goto rfl) ?_
        refine ev_ret (is_ireturn rfl rfl (by first | rfl | exact pu_b_nar | decide)) ?_
        refine ⟨?_, rfl, rfl, rfl⟩
        simp only [te_two, Nat.reduceEqDiff, if_true, if_false]
        all_goals first
          | rfl
          | exact pu_b_t (by simp_all)
          | exact pu_b_f (by simp_all)
          | exact pu_b_t (by (try simp only [Int32.le_iff_toInt_le, Int32.lt_iff_toInt_lt, ← Int32.toInt_inj] at *); omega)
          | exact pu_b_f (by (try simp only [Int32.le_iff_toInt_le, Int32.lt_iff_toInt_lt, ← Int32.toInt_inj] at *); omega)
  · refine ev_s (is_lsw 74 rfl (by decide)) ?_
    refine ev_s (is_iload_n rfl rfl) ?_
    refine ev_if_eq rfl (fun h_75 => ?_) (fun h_75 => ?_)
    · refine ev_s (is_iconst (nI 0) rfl rfl) ?_
      refine ev_ret (is_ireturn rfl rfl (by first | rfl | exact pu_b_nar | decide)) ?_
      refine ⟨?_, rfl, rfl, rfl⟩
      simp only [te_two, Nat.reduceEqDiff, if_true, if_false]
      all_goals first
        | rfl
        | exact pu_b_t (by simp_all)
        | exact pu_b_f (by simp_all)
        | exact pu_b_t (by (try simp only [Int32.le_iff_toInt_le, Int32.lt_iff_toInt_lt, ← Int32.toInt_inj] at *); omega)
        | exact pu_b_f (by (try simp only [Int32.le_iff_toInt_le, Int32.lt_iff_toInt_lt, ← Int32.toInt_inj] at *); omega)
    · refine ev_s (is_iload_n rfl rfl) ?_
      refine ev_if_eq rfl (fun h_79 => ?_) (fun h_79 => ?_)
      · refine ev_s (is_iconst (nI 0) rfl rfl) ?_
        refine ev_ret (is_ireturn rfl rfl (by first | rfl | exact pu_b_nar | decide)) ?_
        refine ⟨?_, rfl, rfl, rfl⟩
        simp only [te_two, Nat.reduceEqDiff, if_true, if_false]
        all_goals first
          | rfl
          | exact pu_b_t (by simp_all)
          | exact pu_b_f (by simp_all)
          | exact pu_b_t (by (try simp only [Int32.le_iff_toInt_le, Int32.lt_iff_toInt_lt, ← Int32.toInt_inj] at *); omega)
          | exact pu_b_f (by (try simp only [Int32.le_iff_toInt_le, Int32.lt_iff_toInt_lt, ← Int32.toInt_inj] at *); omega)
      · refine ev_s (is_iconst (nI 1) rfl rfl) ?_
        refine ev_s (is_goto rfl) ?_
        refine ev_ret (is_ireturn rfl rfl (by first | rfl | exact pu_b_nar | decide)) ?_
        refine ⟨?_, rfl, rfl, rfl⟩
        simp only [te_two, Nat.reduceEqDiff, if_true, if_false]
        all_goals first
          | rfl
          | exact pu_b_t (by simp_all)
          | exact pu_b_f (by simp_all)
          | exact pu_b_t (by (try simp only [Int32.le_iff_toInt_le, Int32.lt_iff_toInt_lt, ← Int32.toInt_inj] at *); omega)
          | exact pu_b_f (by (try simp only [Int32.le_iff_toInt_le, Int32.lt_iff_toInt_lt, ← Int32.toInt_inj] at *); omega)
  · refine ev_s (is_lsw 88 rfl (by decide)) ?_
    refine ev_s (is_iload_n rfl rfl) ?_
    refine ev_s (is_iload_n rfl rfl) ?_
    refine ev_icmp_ge rfl (fun h_90 => ?_) (fun h_90 => ?_)
    · refine ev_s (is_iconst (nI 0) rfl rfl) ?_
      refine ev_ret (is_ireturn rfl rfl (by first | rfl | exact pu_b_nar | decide)) ?_
      refine ⟨?_, rfl, rfl, rfl⟩
      simp only [te_two, Nat.reduceEqDiff, if_true, if_false]
      all_goals first
        | rfl
        | exact pu_b_t (by simp_all)
        | exact pu_b_f (by simp_all)
        | exact pu_b_t (by (try simp only [Int32.le_iff_toInt_le, Int32.lt_iff_toInt_lt, ← Int32.toInt_inj] at *); omega)
        | exact pu_b_f (by (try simp only [Int32.le_iff_toInt_le, Int32.lt_iff_toInt_lt, ← Int32.toInt_inj] at *); omega)
    · refine ev_s (is_iconst (nI 1) rfl rfl) ?_
      refine ev_s (is_goto rfl) ?_
      refine ev_ret (is_ireturn rfl rfl (by first | rfl | exact pu_b_nar | decide)) ?_
      refine ⟨?_, rfl, rfl, rfl⟩
      simp only [te_two, Nat.reduceEqDiff, if_true, if_false]
      all_goals first
        | rfl
        | exact pu_b_t (by simp_all)
        | exact pu_b_f (by simp_all)
        | exact pu_b_t (by (try simp only [Int32.le_iff_toInt_le, Int32.lt_iff_toInt_lt, ← Int32.toInt_inj] at *); omega)
        | exact pu_b_f (by (try simp only [Int32.le_iff_toInt_le, Int32.lt_iff_toInt_lt, ← Int32.toInt_inj] at *); omega)
  · refine ev_s (is_lsw 99 rfl (by decide)) ?_
    refine ev_s (is_iload_n rfl rfl) ?_
    refine ev_s (is_iload_n rfl rfl) ?_
    refine ev_icmp_ne rfl (fun h_101 => ?_) (fun h_101 => ?_)
    · refine ev_s (is_iconst (nI 0) rfl rfl) ?_
      refine ev_ret (is_ireturn rfl rfl (by first | rfl | exact pu_b_nar | decide)) ?_
      refine ⟨?_, rfl, rfl, rfl⟩
      simp only [te_two, Nat.reduceEqDiff, if_true, if_false]
      all_goals first
        | rfl
        | exact pu_b_t (by simp_all)
        | exact pu_b_f (by simp_all)
        | exact pu_b_t (by (try simp only [Int32.le_iff_toInt_le, Int32.lt_iff_toInt_lt, ← Int32.toInt_inj] at *); omega)
        | exact pu_b_f (by (try simp only [Int32.le_iff_toInt_le, Int32.lt_iff_toInt_lt, ← Int32.toInt_inj] at *); omega)
    · refine ev_s (is_iconst (nI 1) rfl rfl) ?_
      refine ev_s (is_goto rfl) ?_
      refine ev_ret (is_ireturn rfl rfl (by first | rfl | exact pu_b_nar | decide)) ?_
      refine ⟨?_, rfl, rfl, rfl⟩
      simp only [te_two, Nat.reduceEqDiff, if_true, if_false]
      all_goals first
        | rfl
        | exact pu_b_t (by simp_all)
        | exact pu_b_f (by simp_all)
        | exact pu_b_t (by (try simp only [Int32.le_iff_toInt_le, Int32.lt_iff_toInt_lt, ← Int32.toInt_inj] at *); omega)
        | exact pu_b_f (by (try simp only [Int32.le_iff_toInt_le, Int32.lt_iff_toInt_lt, ← Int32.toInt_inj] at *); omega)
  · refine ev_s (is_lsw 110 rfl (by decide)) ?_
    refine ev_s (is_iload_n rfl rfl) ?_
    refine ev_s (is_iload_n rfl rfl) ?_
    first
      | refine ev_s (is_iadd _ rfl (nI_add _ _)) ?_
      | refine ev_s (is_iadd _ rfl rfl) ?_
    refine ev_ret (is_ireturn rfl rfl (by first | rfl | exact pu_b_nar | decide)) ?_
    refine ⟨?_, rfl, rfl, rfl⟩
    simp only [te_two, Nat.reduceEqDiff, if_true, if_false]
    all_goals first
      | rfl
      | exact pu_b_t (by simp_all)
      | exact pu_b_f (by simp_all)
      | exact pu_b_t (by (try simp only [Int32.le_iff_toInt_le, Int32.lt_iff_toInt_lt, ← Int32.toInt_inj] at *); omega)
      | exact pu_b_f (by (try simp only [Int32.le_iff_toInt_le, Int32.lt_iff_toInt_lt, ← Int32.toInt_inj] at *); omega)
  · refine ev_s (is_lsw 114 rfl (by decide)) ?_
    refine ev_s (is_iload_n rfl rfl) ?_
    refine ev_s (is_iload_n rfl rfl) ?_
    first
      | refine ev_s (is_isub _ rfl (pk_sub (by omega))) ?_
      | refine ev_s (is_isub _ rfl rfl) ?_
    refine ev_ret (is_ireturn rfl rfl (by first | rfl | exact pu_b_nar | decide)) ?_
    refine ⟨?_, rfl, rfl, rfl⟩
    simp only [te_two, Nat.reduceEqDiff, if_true, if_false]
    all_goals first
      | rfl
      | exact pu_b_t (by simp_all)
      | exact pu_b_f (by simp_all)
      | exact pu_b_t (by (try simp only [Int32.le_iff_toInt_le, Int32.lt_iff_toInt_lt, ← Int32.toInt_inj] at *); omega)
      | exact pu_b_f (by (try simp only [Int32.le_iff_toInt_le, Int32.lt_iff_toInt_lt, ← Int32.toInt_inj] at *); omega)
  · refine ev_s (is_lsw 118 rfl (by decide)) ?_
    refine ev_s (is_iload_n rfl rfl) ?_
    refine ev_s (is_iload_n rfl rfl) ?_
    first
      | refine ev_s (is_imul _ rfl (pk_mul _ _)) ?_
      | refine ev_s (is_imul _ rfl rfl) ?_
    refine ev_ret (is_ireturn rfl rfl (by first | rfl | exact pu_b_nar | decide)) ?_
    refine ⟨?_, rfl, rfl, rfl⟩
    simp only [te_two, Nat.reduceEqDiff, if_true, if_false]
    all_goals first
      | rfl
      | exact pu_b_t (by simp_all)
      | exact pu_b_f (by simp_all)
      | exact pu_b_t (by (try simp only [Int32.le_iff_toInt_le, Int32.lt_iff_toInt_lt, ← Int32.toInt_inj] at *); omega)
      | exact pu_b_f (by (try simp only [Int32.le_iff_toInt_le, Int32.lt_iff_toInt_lt, ← Int32.toInt_inj] at *); omega)
