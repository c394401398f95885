/-! ===== PURE, the reference: small methods ===== -/

theorem r_in {d : Nat} {sh : im_Sh} {mi : im_MI} {mr : im_MR} (v lo hi : Int32) : EvM (d) 131 [.int v, .int lo, .int hi] sh mi mr (ev_R sh (.int (pu_b (lo ≤ v ∧ v ≤ hi))) mi mr) := by
  show Ev (d) 131 0 [.int v, .int lo, .int hi] [] sh mi mr _
  refine ev_s (is_iload_n rfl rfl) ?_
  refine ev_s (is_iload_n rfl rfl) ?_
  first
    | refine ev_icmpN_lt rfl (by omega) (by omega) (fun h_2 => ?_) (fun h_2 => ?_)
    | refine ev_icmp_lt rfl (fun h_2 => ?_) (fun h_2 => ?_)
  · refine ev_s (is_iconst (nI 0) rfl rfl) ?_
    refine ev_ret (is_ireturn rfl rfl (by first | rfl | decide)) ?_
    first
      | exact ⟨pu_b_t (by (try simp only [Int32.le_iff_toInt_le, Int32.lt_iff_toInt_lt, ← Int32.toInt_inj] at *); omega), rfl, rfl, rfl⟩
      | exact ⟨pu_b_f (by (try simp only [Int32.le_iff_toInt_le, Int32.lt_iff_toInt_lt, ← Int32.toInt_inj] at *); omega), rfl, rfl, rfl⟩
  · refine ev_s (is_iload_n rfl rfl) ?_
    refine ev_s (is_iload_n rfl rfl) ?_
    first
      | refine ev_icmpN_gt rfl (by omega) (by omega) (fun h_7 => ?_) (fun h_7 => ?_)
      | refine ev_icmp_gt rfl (fun h_7 => ?_) (fun h_7 => ?_)
    · refine ev_s (is_iconst (nI 0) rfl rfl) ?_
      refine ev_ret (is_ireturn rfl rfl (by first | rfl | decide)) ?_
      first
        | exact ⟨pu_b_t (by (try simp only [Int32.le_iff_toInt_le, Int32.lt_iff_toInt_lt, ← Int32.toInt_inj] at *); omega), rfl, rfl, rfl⟩
        | exact ⟨pu_b_f (by (try simp only [Int32.le_iff_toInt_le, Int32.lt_iff_toInt_lt, ← Int32.toInt_inj] at *); omega), rfl, rfl, rfl⟩
    · refine ev_s (is_iconst (nI 1) rfl rfl) ?_
      refine ev_s (is_goto rfl) ?_
      refine ev_ret (is_ireturn rfl rfl (by first | rfl | decide)) ?_
      first
        | exact ⟨pu_b_t (by (try simp only [Int32.le_iff_toInt_le, Int32.lt_iff_toInt_lt, ← Int32.toInt_inj] at *); omega), rfl, rfl, rfl⟩
        | exact ⟨pu_b_f (by (try simp only [Int32.le_iff_toInt_le, Int32.lt_iff_toInt_lt, ← Int32.toInt_inj] at *); omega), rfl, rfl, rfl⟩

theorem x_within {d : Nat} {sh : im_Sh} {mi : im_MI} {mr : im_MR} (v lo hi : Int32) : EvM (d) 103 [.int v, .int lo, .int hi] sh mi mr (ev_R sh (.int (pu_b (lo ≤ v ∧ v ≤ hi))) mi mr) := by
  show Ev (d) 103 0 [.int v, .int lo, .int hi] [] sh mi mr _
  refine ev_s (is_iload_n rfl rfl) ?_
  refine ev_s (is_iload_n rfl rfl) ?_
  first
    | refine ev_icmpN_lt rfl (by omega) (by omega) (fun h_2 => ?_) (fun h_2 => ?_)
    | refine ev_icmp_lt rfl (fun h_2 => ?_) (fun h_2 => ?_)
  · refine ev_s (is_iconst (nI 0) rfl rfl) ?_
    refine ev_ret (is_ireturn rfl rfl (by first | rfl | decide)) ?_
    first
      | exact ⟨pu_b_t (by (try simp only [Int32.le_iff_toInt_le, Int32.lt_iff_toInt_lt, ← Int32.toInt_inj] at *); omega), rfl, rfl, rfl⟩
      | exact ⟨pu_b_f (by (try simp only [Int32.le_iff_toInt_le, Int32.lt_iff_toInt_lt, ← Int32.toInt_inj] at *); omega), rfl, rfl, rfl⟩
  · refine ev_s (is_iload_n rfl rfl) ?_
    refine ev_s (is_iload_n rfl rfl) ?_
    first
      | refine ev_icmpN_gt rfl (by omega) (by omega) (fun h_7 => ?_) (fun h_7 => ?_)
      | refine ev_icmp_gt rfl (fun h_7 => ?_) (fun h_7 => ?_)
    · refine ev_s (is_iconst (nI 0) rfl rfl) ?_
      refine ev_ret (is_ireturn rfl rfl (by first | rfl | decide)) ?_
      first
        | exact ⟨pu_b_t (by (try simp only [Int32.le_iff_toInt_le, Int32.lt_iff_toInt_lt, ← Int32.toInt_inj] at *); omega), rfl, rfl, rfl⟩
        | exact ⟨pu_b_f (by (try simp only [Int32.le_iff_toInt_le, Int32.lt_iff_toInt_lt, ← Int32.toInt_inj] at *); omega), rfl, rfl, rfl⟩
    · refine ev_s (is_iconst (nI 1) rfl rfl) ?_
      refine ev_s (is_goto rfl) ?_
      refine ev_ret (is_ireturn rfl rfl (by first | rfl | decide)) ?_
      first
        | exact ⟨pu_b_t (by (try simp only [Int32.le_iff_toInt_le, Int32.lt_iff_toInt_lt, ← Int32.toInt_inj] at *); omega), rfl, rfl, rfl⟩
        | exact ⟨pu_b_f (by (try simp only [Int32.le_iff_toInt_le, Int32.lt_iff_toInt_lt, ← Int32.toInt_inj] at *); omega), rfl, rfl, rfl⟩
