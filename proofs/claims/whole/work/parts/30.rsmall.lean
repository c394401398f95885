/-! ===== PURE, the reference: small methods ===== -/

theorem r_in {d : Nat} {sh : im_Sh} {mi : im_MI} {mr : im_MR} (v lo hi : Int32) : EvM (d) 131 [.int v, .int lo, .int hi] sh mi mr (ev_R sh (.int (pu_b (lo ≤ v ∧ v ≤ hi))) mi mr) := by
  show Ev (d) 131 0 [.int v, .int lo, .int hi] [] sh mi mr _
  refine ev_s (is_iload_n rfl rfl) ?_
  refine ev_s (is_iload_n rfl rfl) ?_
  first
    | refine ev_icmpN_lt rfl (by omega) (by omega) (fun h_2 => ?_) (fun h_2 => ?_)
    | refine ev_icmp_lt rfl (fun h_2 => ?_) (fun h_2 => ?_)
  · refine ev_s (is_iconst (nI 0) rfl rfl) ?_
    refine ev_ret (is_ireturn rfl rfl (by first | rfl | exact pu_b_nar | decide)) ?_
    first
      | exact ⟨pu_b_t (by (try simp only [Int32.le_iff_toInt_le, Int32.lt_iff_toInt_lt, ← Int32.toInt_inj] at *); omega), rfl, rfl, rfl⟩
      | exact ⟨pu_b_f (by (try simp only [Int32.le_iff_toInt_le, Int32.lt_iff_toInt_lt, ← Int32.toInt_inj] at *); omega), rfl, rfl, rfl⟩
  · refine ev_s (is_iload_n rfl rfl) ?_
    refine ev_s (is_iload_n rfl rfl) ?_
    first
      | refine ev_icmpN_gt rfl (by omega) (by omega) (fun h_7 => ?_) (fun h_7 => ?_)
      | refine ev_icmp_gt rfl (fun h_7 => ?_) (fun h_7 => ?_)
    · refine ev_s (is_iconst (nI 0) rfl rfl) ?_
      refine ev_ret (is_ireturn rfl rfl (by first | rfl | exact pu_b_nar | decide)) ?_
      first
        | exact ⟨pu_b_t (by (try simp only [Int32.le_iff_toInt_le, Int32.lt_iff_toInt_lt, ← Int32.toInt_inj] at *); omega), rfl, rfl, rfl⟩
        | exact ⟨pu_b_f (by (try simp only [Int32.le_iff_toInt_le, Int32.lt_iff_toInt_lt, ← Int32.toInt_inj] at *); omega), rfl, rfl, rfl⟩
    · refine ev_s (is_iconst (nI 1) rfl rfl) ?_
      refine ev_s (is_goto rfl) ?_
      refine ev_ret (is_ireturn rfl rfl (by first | rfl | exact pu_b_nar | decide)) ?_
      first
        | exact ⟨pu_b_t (by (try simp only [Int32.le_iff_toInt_le, Int32.lt_iff_toInt_lt, ← Int32.toInt_inj] at *); omega), rfl, rfl, rfl⟩
        | exact ⟨pu_b_f (by (try simp only [Int32.le_iff_toInt_le, Int32.lt_iff_toInt_lt, ← Int32.toInt_inj] at *); omega), rfl, rfl, rfl⟩

theorem x_within {d : Nat} {sh : im_Sh} {mi : im_MI} {mr : im_MR} (v lo hi : Int32) : EvM (d) 103 [.int v, .int lo, .int hi] sh mi mr (ev_R sh (.int (pu_b (lo ≤ v ∧ v ≤ hi))) mi mr) := by
  show Ev (d) 103 0 [.int v, .int lo, .int hi] [] sh mi mr _
  refine ev_s (is_iload_n rfl rfl) ?_
  refine ev_s (is_iload_n rfl rfl) ?_
  first
    | refine ev_icmpN_lt rfl (by omega) (by omega) (fun h_2 => ?_) (fun h_2 => ?_)
    | refine ev_icmp_lt rfl (fun h_2 => ?_) (fun h_2 => ?_)
  · refine ev_s (is_iconst (nI 0) rfl rfl) ?_
    refine ev_ret (is_ireturn rfl rfl (by first | rfl | exact pu_b_nar | decide)) ?_
    first
      | exact ⟨pu_b_t (by (try simp only [Int32.le_iff_toInt_le, Int32.lt_iff_toInt_lt, ← Int32.toInt_inj] at *); omega), rfl, rfl, rfl⟩
      | exact ⟨pu_b_f (by (try simp only [Int32.le_iff_toInt_le, Int32.lt_iff_toInt_lt, ← Int32.toInt_inj] at *); omega), rfl, rfl, rfl⟩
  · refine ev_s (is_iload_n rfl rfl) ?_
    refine ev_s (is_iload_n rfl rfl) ?_
    first
      | refine ev_icmpN_gt rfl (by omega) (by omega) (fun h_7 => ?_) (fun h_7 => ?_)
      | refine ev_icmp_gt rfl (fun h_7 => ?_) (fun h_7 => ?_)
    · refine ev_s (is_iconst (nI 0) rfl rfl) ?_
      refine ev_ret (is_ireturn rfl rfl (by first | rfl | exact pu_b_nar | decide)) ?_
      first
        | exact ⟨pu_b_t (by (try simp only [Int32.le_iff_toInt_le, Int32.lt_iff_toInt_lt, ← Int32.toInt_inj] at *); omega), rfl, rfl, rfl⟩
        | exact ⟨pu_b_f (by (try simp only [Int32.le_iff_toInt_le, Int32.lt_iff_toInt_lt, ← Int32.toInt_inj] at *); omega), rfl, rfl, rfl⟩
    · refine ev_s (is_iconst (nI 1) rfl rfl) ?_
      refine ev_s (is_goto rfl) ?_
      refine ev_ret (is_ireturn rfl rfl (by first | rfl | exact pu_b_nar | decide)) ?_
      first
        | exact ⟨pu_b_t (by (try simp only [Int32.le_iff_toInt_le, Int32.lt_iff_toInt_lt, ← Int32.toInt_inj] at *); omega), rfl, rfl, rfl⟩
        | exact ⟨pu_b_f (by (try simp only [Int32.le_iff_toInt_le, Int32.lt_iff_toInt_lt, ← Int32.toInt_inj] at *); omega), rfl, rfl, rfl⟩

theorem r_isMan {d : Nat} {sh : im_Sh} {mi : im_MI} {mr : im_MR} (hC : pu_C sh mr) {H : ho_T} {G : ho_G} (hR : rr_ok H G mi) (m : Int32) : EvM (d + 1) 133 [.ref 110, .int m] sh mi mr (ev_R sh (.int (pu_b (nI 0 ≤ m ∧ m ≤ nI (H 0 0) - nI 1))) mi mr) := by
  show Ev (d + 1) 133 0 [.ref 110, .int m] [] sh mi mr _
  refine ev_s (is_iload_n rfl rfl) ?_
  refine ev_s (is_iconst (nI 0) rfl rfl) ?_
  refine ev_s (is_aload_n rfl rfl) ?_
  refine ev_s (is_getI' rfl (pu_s hC 110 rfl rfl) rfl rfl hR.1) ?_
  refine ev_s (is_iconst (nI 1) rfl rfl) ?_
  first
    | refine ev_s (is_isub _ rfl (pk_sub (by omega))) ?_
    | refine ev_s (is_isub _ rfl rfl) ?_
  refine ev_c1 (is_call0 3 [_, _, _] [] rfl rfl rfl rfl rfl (Nat.le_of_ble_eq_true rfl) rfl rfl rfl) rfl rfl (r_in _ _ _) ?_
  refine ev_ret (is_ireturn rfl rfl (by first | rfl | exact pu_b_nar | decide)) ?_
  exact ⟨rfl, rfl, rfl, rfl⟩

theorem r_isHour {d : Nat} {sh : im_Sh} {mi : im_MI} {mr : im_MR} (h : Int32) : EvM (d + 1) 134 [.int h] sh mi mr (ev_R sh (.int (pu_b (nI 0 ≤ h ∧ h ≤ nI 11))) mi mr) := by
  show Ev (d + 1) 134 0 [.int h] [] sh mi mr _
  refine ev_s (is_iload_n rfl rfl) ?_
  refine ev_s (is_iconst (nI 0) rfl rfl) ?_
  refine ev_s (is_bipush (nI 11) rfl rfl) ?_
  refine ev_c1 (is_call0 3 [_, _, _] [] rfl rfl rfl rfl rfl (Nat.le_of_ble_eq_true rfl) rfl rfl rfl) rfl rfl (r_in _ _ _) ?_
  refine ev_ret (is_ireturn rfl rfl (by first | rfl | exact pu_b_nar | decide)) ?_
  exact ⟨rfl, rfl, rfl, rfl⟩

theorem r_isByte {d : Nat} {sh : im_Sh} {mi : im_MI} {mr : im_MR} (h : Int32) : EvM (d + 1) 137 [.int h] sh mi mr (ev_R sh (.int (pu_b (nI 0 ≤ h ∧ h ≤ nI 255))) mi mr) := by
  show Ev (d + 1) 137 0 [.int h] [] sh mi mr _
  refine ev_s (is_iload_n rfl rfl) ?_
  refine ev_s (is_iconst (nI 0) rfl rfl) ?_
  refine ev_s (is_sipush (nI 255) rfl rfl) ?_
  refine ev_c1 (is_call0 3 [_, _, _] [] rfl rfl rfl rfl rfl (Nat.le_of_ble_eq_true rfl) rfl rfl rfl) rfl rfl (r_in _ _ _) ?_
  refine ev_ret (is_ireturn rfl rfl (by first | rfl | exact pu_b_nar | decide)) ?_
  exact ⟨rfl, rfl, rfl, rfl⟩

def pu_cl (v lo hi : Int32) : Int32 := if v < lo then lo else if hi < v then hi else v
theorem r_within {d : Nat} {sh : im_Sh} {mi : im_MI} {mr : im_MR} (v lo hi : Int32) : EvM (d) 132 [.int v, .int lo, .int hi] sh mi mr (ev_R sh (.int (pu_cl v lo hi)) mi mr) := by
  show Ev (d) 132 0 [.int v, .int lo, .int hi] [] sh mi mr _
  refine ev_s (is_iload_n rfl rfl) ?_
  refine ev_s (is_iload_n rfl rfl) ?_
  first
    | refine ev_icmpN_ge rfl (by omega) (by omega) (fun h_2 => ?_) (fun h_2 => ?_)
    | refine ev_icmp_ge rfl (fun h_2 => ?_) (fun h_2 => ?_)
  · refine ev_s (is_iload_n rfl rfl) ?_
    refine ev_s (is_iload_n rfl rfl) ?_
    first
      | refine ev_icmpN_le rfl (by omega) (by omega) (fun h_11 => ?_) (fun h_11 => ?_)
      | refine ev_icmp_le rfl (fun h_11 => ?_) (fun h_11 => ?_)
    · refine ev_s (is_iload_n rfl rfl) ?_
      refine ev_ret (is_ireturn rfl rfl (by first | rfl | exact pu_b_nar | decide)) ?_
      refine ⟨congrArg Value.int ?_, rfl, rfl, rfl⟩
      unfold pu_cl
      split
      all_goals (try split)
      all_goals first
        | rfl
        | (exfalso; (try simp only [Int32.le_iff_toInt_le, Int32.lt_iff_toInt_lt] at *); omega)
    · refine ev_s (is_iload_n rfl rfl) ?_
      refine ev_s (is_goto rfl) ?_
      refine ev_ret (is_ireturn rfl rfl (by first | rfl | exact pu_b_nar | decide)) ?_
      refine ⟨congrArg Value.int ?_, rfl, rfl, rfl⟩
      unfold pu_cl
      split
      all_goals (try split)
      all_goals first
        | rfl
        | (exfalso; (try simp only [Int32.le_iff_toInt_le, Int32.lt_iff_toInt_lt] at *); omega)
  · refine ev_s (is_iload_n rfl rfl) ?_
    refine ev_s (is_goto rfl) ?_
    refine ev_ret (is_ireturn rfl rfl (by first | rfl | exact pu_b_nar | decide)) ?_
    refine ⟨congrArg Value.int ?_, rfl, rfl, rfl⟩
    unfold pu_cl
    split
    all_goals (try split)
    all_goals first
      | rfl
      | (exfalso; (try simp only [Int32.le_iff_toInt_le, Int32.lt_iff_toInt_lt] at *); omega)

theorem r_mateOf {d : Nat} {sh : im_Sh} {mi : im_MI} {mr : im_MR} (hC : pu_C sh mr) {H : ho_T} {G : ho_G} (hR : rr_ok H G mi) {m : Nat} (hm : m < 6) : EvM (d) 153 [.ref 110, .int (nI m)] sh mi mr (ev_R sh (.int (pu_o (ho_mate H m))) mi mr) := by
  show Ev (d) 153 0 [.ref 110, .int (nI m), im_bad, im_bad] [] sh mi mr _
  obtain ⟨h1, h2, h3, h4, h5, h6, h7, h8, h9⟩ := id hR
  obtain ⟨b1, b2, b3, b4, b5, b6, b7, b8, b9, b10⟩ := id h8
  have hpm := b10 m
  obtain ⟨q, hqe⟩ : ∃ q, q = H (10 + m) 13 ^^^ 1 := ⟨_, rfl⟩
  have hq : q < 1024 := by rw [hqe]; exact Nat.xor_lt_two_pow (n := 10) (by omega) (by omega)
  have loop : ∀ j o, o + j = H 0 0 → Ev (d) 153 17 [.ref 110, .int (nI m), .int (nI q), .int (nI o)] [] sh mi mr (ev_R sh (.int (pu_o (lo_find (fun o => decide (H (10 + o) 13 = H (10 + m) 13 ^^^ 1)) j o))) mi mr) := by
    intro j
    induction j with
    | zero =>
      intro o ho
      refine ev_s (is_iload_n rfl rfl) ?_
      refine ev_s (is_aload_n rfl rfl) ?_
      refine ev_s (is_getI' rfl (pu_s hC 110 rfl rfl) rfl rfl h1) ?_
      refine ev_s (is_icmp_ge_t rfl (nI_le (by omega) (by omega))) ?_
      refine ev_s (is_iconst ((-1)) rfl rfl) ?_
      refine ev_ret (is_ireturn rfl rfl (by first | rfl | exact pu_b_nar | decide)) ?_
      exact ⟨rfl, rfl, rfl, rfl⟩
    | succ j ih =>
      intro o ho
      refine ev_s (is_iload_n rfl rfl) ?_
      refine ev_s (is_aload_n rfl rfl) ?_
      refine ev_s (is_getI' rfl (pu_s hC 110 rfl rfl) rfl rfl h1) ?_
      refine ev_icmpN_ge rfl (by omega) (by omega) (fun h_22 => ?_) (fun h_22 => ?_)
      · first
          | (exfalso; omega)
          | (
             refine ev_s (is_iconst ((-1)) rfl rfl) ?_
             refine ev_ret (is_ireturn rfl rfl (by first | rfl | exact pu_b_nar | decide)) ?_
             exact ⟨rfl, rfl, rfl, rfl⟩
            )
      · first
          | (exfalso; omega)
          | (
             have hpo := b10 o
             refine ev_s (is_aload_n rfl rfl) ?_
             refine ev_s (is_getR rfl (pu_s hC 110 rfl rfl) rfl rfl (pu_r hC 110 3 rfl rfl)) ?_
             refine ev_s (is_bipush (nI 14) rfl rfl) ?_
             refine ev_s (is_iload_n rfl rfl) ?_
             first
               | refine ev_s (is_imul _ rfl (pk_mul _ _)) ?_
               | refine ev_s (is_imul _ rfl rfl) ?_
             refine ev_s (is_bipush (nI 13) rfl rfl) ?_
             first
               | refine ev_s (is_iadd _ rfl (nI_add _ _)) ?_
               | refine ev_s (is_iadd _ rfl rfl) ?_
             refine ev_s (is_iaload' (14 * o + 13) rfl (pu_s hC 113 rfl rfl) rfl rfl (by omega) (h6 o 13 (by omega) (by omega))) ?_
             refine ev_s (is_iload_n rfl rfl) ?_
             refine ev_icmpN_ne rfl (by omega) (by omega) (fun h_38 => ?_) (fun h_38 => ?_)
             · refine ev_s (st_iinc_3 _ rfl rfl (nI_inc _)) ?_
               refine ev_s (is_goto rfl) ?_
               rw [lo_find_f (decide_eq_false (by rw [← hqe]; exact h_38))]
               exact ih (o + 1) (by omega)
             · refine ev_s (is_iload_n rfl rfl) ?_
               refine ev_ret (is_ireturn rfl rfl (by first | rfl | exact pu_b_nar | decide)) ?_
               exact ⟨by rw [lo_find_t (decide_eq_true (by rw [← hqe]; exact h_38))]; rfl, rfl, rfl, rfl⟩
            )
  refine ev_s (is_aload_n rfl rfl) ?_
  refine ev_s (is_getR rfl (pu_s hC 110 rfl rfl) rfl rfl (pu_r hC 110 3 rfl rfl)) ?_
  refine ev_s (is_bipush (nI 14) rfl rfl) ?_
  refine ev_s (is_iload_n rfl rfl) ?_
  first
    | refine ev_s (is_imul _ rfl (pk_mul _ _)) ?_
    | refine ev_s (is_imul _ rfl rfl) ?_
  refine ev_s (is_bipush (nI 13) rfl rfl) ?_
  first
    | refine ev_s (is_iadd _ rfl (nI_add _ _)) ?_
    | refine ev_s (is_iadd _ rfl rfl) ?_
  refine ev_s (is_iaload' (14 * m + 13) rfl (pu_s hC 113 rfl rfl) rfl rfl (by omega) (h6 m 13 (by omega) (by omega))) ?_
  refine ev_s (is_iconst (nI 1) rfl rfl) ?_
  refine ev_s (is_ixor (nI q) rfl (by rw [nI_xor, ← hqe])) ?_
  refine ev_s (st_istore_n_2 rfl rfl) ?_
  refine ev_s (is_iconst (nI 0) rfl rfl) ?_
  refine ev_s (st_istore_n_3 rfl rfl) ?_
  exact loop (H 0 0) 0 (by omega)

theorem r_signs {d : Nat} {sh : im_Sh} {mi : im_MI} {mr : im_MR} (hC : pu_C sh mr) {H : ho_T} {G : ho_G} (hR : rr_ok H G mi) {m dg : Nat} (hm : m < 6) (hd : dg < 6) : EvM (d) 154 [.ref 110, .int (nI m), .int (nI dg)] sh mi mr (ev_R sh (.int (nI (kd_signs (H 1 m) dg))) mi mr) := by
  show Ev (d) 154 0 [.ref 110, .int (nI m), .int (nI dg)] [] sh mi mr _
  obtain ⟨h1, h2, h3, h4, h5, h6, h7, h8, h9⟩ := id hR
  obtain ⟨b1, b2, b3, b4, b5, b6, b7, b8, b9, b10⟩ := id h8
  have hk6 := b6 m
  refine ev_s (is_aload_n rfl rfl) ?_
  refine ev_s (is_getR rfl (pu_s hC 110 rfl rfl) rfl rfl (pu_r hC 110 1 rfl rfl)) ?_
  refine ev_s (is_iload_n rfl rfl) ?_
  refine ev_s (is_iaload' (m) rfl (pu_s hC 111 rfl rfl) rfl rfl hm (h5 m hm).1) ?_
  rcases (show H 1 m = 0 ∨ H 1 m = 1 ∨ H 1 m = 2 ∨ H 1 m = 3 ∨ H 1 m = 4 ∨ H 1 m = 5 by omega) with hk | hk | hk | hk | hk | hk
  · rw [hk]
    refine ev_s (is_tsw 88 rfl (by decide)) ?_
    refine ev_s (is_iload_n rfl rfl) ?_
    refine ev_ret (is_ireturn rfl rfl (by first | rfl | exact pu_b_nar | decide)) ?_
    refine ⟨congrArg Value.int (congrArg nI ?_), rfl, rfl, rfl⟩
    unfold kd_signs
    repeat (first
      | rw [if_pos (by omega)]
      | rw [if_neg (by omega)])
  · rw [hk]
    refine ev_s (is_tsw 40 rfl (by decide)) ?_
    refine ev_s (is_iload_n rfl rfl) ?_
    refine ev_s (is_iconst (nI 5) rfl rfl) ?_
    first
      | refine ev_icmpN_ge rfl (by omega) (by omega) (fun h_42 => ?_) (fun h_42 => ?_)
      | refine ev_icmp_ge rfl (fun h_42 => ?_) (fun h_42 => ?_)
    · refine ev_s (is_iconst (nI 5) rfl rfl) ?_
      refine ev_ret (is_ireturn rfl rfl (by first | rfl | exact pu_b_nar | decide)) ?_
      refine ⟨congrArg Value.int (congrArg nI ?_), rfl, rfl, rfl⟩
      unfold kd_signs
      repeat (first
        | rw [if_pos (by omega)]
        | rw [if_neg (by omega)])
    · refine ev_s (is_iload_n rfl rfl) ?_
      refine ev_s (is_iconst (nI 1) rfl rfl) ?_
      first
        | refine ev_s (is_iadd _ rfl (nI_add _ _)) ?_
        | refine ev_s (is_iadd _ rfl rfl) ?_
      refine ev_s (is_goto rfl) ?_
      refine ev_ret (is_ireturn rfl rfl (by first | rfl | exact pu_b_nar | decide)) ?_
      refine ⟨congrArg Value.int (congrArg nI ?_), rfl, rfl, rfl⟩
      unfold kd_signs
      repeat (first
        | rw [if_pos (by omega)]
        | rw [if_neg (by omega)])
  · rw [hk]
    refine ev_s (is_tsw 53 rfl (by decide)) ?_
    refine ev_s (is_iload_n rfl rfl) ?_
    refine ev_s (is_iconst (nI 3) rfl rfl) ?_
    first
      | refine ev_icmpN_ge rfl (by omega) (by omega) (fun h_55 => ?_) (fun h_55 => ?_)
      | refine ev_icmp_ge rfl (fun h_55 => ?_) (fun h_55 => ?_)
    · refine ev_s (is_iload_n rfl rfl) ?_
      refine ev_ret (is_ireturn rfl rfl (by first | rfl | exact pu_b_nar | decide)) ?_
      refine ⟨congrArg Value.int (congrArg nI ?_), rfl, rfl, rfl⟩
      unfold kd_signs
      repeat (first
        | rw [if_pos (by omega)]
        | rw [if_neg (by omega)])
    · refine ev_s (is_iconst (nI 0) rfl rfl) ?_
      refine ev_s (is_goto rfl) ?_
      refine ev_ret (is_ireturn rfl rfl (by first | rfl | exact pu_b_nar | decide)) ?_
      refine ⟨congrArg Value.int (congrArg nI ?_), rfl, rfl, rfl⟩
      unfold kd_signs
      repeat (first
        | rw [if_pos (by omega)]
        | rw [if_neg (by omega)])
  · rw [hk]
    refine ev_s (is_tsw 64 rfl (by decide)) ?_
    refine ev_s (is_iload_n rfl rfl) ?_
    refine ev_s (is_iconst (nI 2) rfl rfl) ?_
    first
      | refine ev_icmpN_le rfl (by omega) (by omega) (fun h_66 => ?_) (fun h_66 => ?_)
      | refine ev_icmp_le rfl (fun h_66 => ?_) (fun h_66 => ?_)
    · refine ev_s (is_iload_n rfl rfl) ?_
      refine ev_s (is_iconst (nI 1) rfl rfl) ?_
      first
        | refine ev_s (is_iadd _ rfl (nI_add _ _)) ?_
        | refine ev_s (is_iadd _ rfl rfl) ?_
      refine ev_ret (is_ireturn rfl rfl (by first | rfl | exact pu_b_nar | decide)) ?_
      refine ⟨congrArg Value.int (congrArg nI ?_), rfl, rfl, rfl⟩
      unfold kd_signs
      repeat (first
        | rw [if_pos (by omega)]
        | rw [if_neg (by omega)])
    · refine ev_s (is_iconst (nI 0) rfl rfl) ?_
      refine ev_s (is_goto rfl) ?_
      refine ev_ret (is_ireturn rfl rfl (by first | rfl | exact pu_b_nar | decide)) ?_
      refine ⟨congrArg Value.int (congrArg nI ?_), rfl, rfl, rfl⟩
      unfold kd_signs
      repeat (first
        | rw [if_pos (by omega)]
        | rw [if_neg (by omega)])
  · rw [hk]
    refine ev_s (is_tsw 53 rfl (by decide)) ?_
    refine ev_s (is_iload_n rfl rfl) ?_
    refine ev_s (is_iconst (nI 3) rfl rfl) ?_
    first
      | refine ev_icmpN_ge rfl (by omega) (by omega) (fun h_55 => ?_) (fun h_55 => ?_)
      | refine ev_icmp_ge rfl (fun h_55 => ?_) (fun h_55 => ?_)
    · refine ev_s (is_iload_n rfl rfl) ?_
      refine ev_ret (is_ireturn rfl rfl (by first | rfl | exact pu_b_nar | decide)) ?_
      refine ⟨congrArg Value.int (congrArg nI ?_), rfl, rfl, rfl⟩
      unfold kd_signs
      repeat (first
        | rw [if_pos (by omega)]
        | rw [if_neg (by omega)])
    · refine ev_s (is_iconst (nI 0) rfl rfl) ?_
      refine ev_s (is_goto rfl) ?_
      refine ev_ret (is_ireturn rfl rfl (by first | rfl | exact pu_b_nar | decide)) ?_
      refine ⟨congrArg Value.int (congrArg nI ?_), rfl, rfl, rfl⟩
      unfold kd_signs
      repeat (first
        | rw [if_pos (by omega)]
        | rw [if_neg (by omega)])
  · rw [hk]
    refine ev_s (is_tsw 77 rfl (by decide)) ?_
    refine ev_s (is_iload_n rfl rfl) ?_
    refine ev_s (is_iconst (nI 5) rfl rfl) ?_
    first
      | refine ev_icmpN_ne rfl (by omega) (by omega) (fun h_79 => ?_) (fun h_79 => ?_)
      | refine ev_icmp_ne rfl (fun h_79 => ?_) (fun h_79 => ?_)
    · refine ev_s (is_iload_n rfl rfl) ?_
      refine ev_ret (is_ireturn rfl rfl (by first | rfl | exact pu_b_nar | decide)) ?_
      refine ⟨congrArg Value.int (congrArg nI ?_), rfl, rfl, rfl⟩
      unfold kd_signs
      repeat (first
        | rw [if_pos (by omega)]
        | rw [if_neg (by omega)])
    · refine ev_s (is_iconst (nI 0) rfl rfl) ?_
      refine ev_s (is_goto rfl) ?_
      refine ev_ret (is_ireturn rfl rfl (by first | rfl | exact pu_b_nar | decide)) ?_
      refine ⟨congrArg Value.int (congrArg nI ?_), rfl, rfl, rfl⟩
      unfold kd_signs
      repeat (first
        | rw [if_pos (by omega)]
        | rw [if_neg (by omega)])

theorem pu_cl_in {lo v hi : Nat} (h1 : lo ≤ v) (h2 : v ≤ hi) (h3 : hi < 2 ^ 31) : pu_cl (nI v) (nI lo) (nI hi) = nI v := by
  unfold pu_cl
  rw [if_neg (nI_nlt h1 (by omega)), if_neg (nI_nlt h2 h3)]
theorem pu_cl_te (v : Int32) (hi : Nat) : pu_cl v (nI 0) (nI hi) = nI (te_clamp hi v) := by
  unfold pu_cl te_clamp
  split
  · rename_i h; rw [if_pos (show v < 0 from h)]
  · rename_i h
    rw [if_neg (show ¬ v < 0 from h)]
    split
    · rfl
    · obtain ⟨j, hj, rfl⟩ := nI_of (show ¬ v < 0 from h)
      rw [nI_clamp hj]
theorem te_clamp_le {hi : Nat} (v : Int32) (h : hi < 2 ^ 31) : te_clamp hi v ≤ hi := by
  unfold te_clamp
  split
  · omega
  · rename_i h0
    split
    · exact Nat.le_refl _
    · rename_i h1
      obtain ⟨j, hj, rfl⟩ := nI_of h0
      rw [nI_clamp hj]
      have := mt (nI_ltI h hj).mpr h1
      omega
