/-! ===== PURE, the reference: signs held, codes put ===== -/
section TK
variable {d y pc nx tg b0 c0 : Nat} {L st : List Value} {sh : im_Sh} {mi : im_MI} {mr : im_MR} {Q : ev_Q} {o : Int} {k c q : Nat}
theorem ev_tk_eq (hi : im_ins y pc = some (nx, .if_icmp .eq o, tg, b0, c0)) (h : rt_ k = nI c ↔ k = q) (kt : k = q → Ev d y tg L st sh mi mr Q) (kf : k ≠ q → Ev d y nx L st sh mi mr Q) : Ev d y pc L (.int (nI c) :: .int (rt_ k) :: st) sh mi mr Q := ev_icmp_eq hi (fun e => kt (h.mp e)) (fun e => kf (fun w => e (h.mpr w)))
theorem ev_tk_ne (hi : im_ins y pc = some (nx, .if_icmp .ne o, tg, b0, c0)) (h : rt_ k = nI c ↔ k = q) (kt : k ≠ q → Ev d y tg L st sh mi mr Q) (kf : k = q → Ev d y nx L st sh mi mr Q) : Ev d y pc L (.int (nI c) :: .int (rt_ k) :: st) sh mi mr Q := ev_icmp_ne hi (fun e => kt (fun w => e (h.mpr w))) (fun e => kf (h.mp (Decidable.not_not.mp e)))
theorem ev_tk0_eq (hi : im_ins y pc = some (nx, .ifCond .eq o, tg, b0, c0)) (h : rt_ k = nI 0 ↔ k = q) (kt : k = q → Ev d y tg L st sh mi mr Q) (kf : k ≠ q → Ev d y nx L st sh mi mr Q) : Ev d y pc L (.int (rt_ k) :: st) sh mi mr Q := ev_if_eq hi (fun e => kt (h.mp e)) (fun e => kf (fun w => e (h.mpr w)))
theorem ev_tk0_ne (hi : im_ins y pc = some (nx, .ifCond .ne o, tg, b0, c0)) (h : rt_ k = nI 0 ↔ k = q) (kt : k ≠ q → Ev d y tg L st sh mi mr Q) (kf : k = q → Ev d y nx L st sh mi mr Q) : Ev d y pc L (.int (rt_ k) :: st) sh mi mr Q := ev_if_ne hi (fun e => kt (fun w => e (h.mpr w))) (fun e => kf (h.mp (Decidable.not_not.mp e)))
end TK
theorem rt_nI {k c : Nat} (hk : k < 256) (hc : c < 256) : rt_ k = nI c ↔ k ≠ 1 ∧ rtn_ k = c := by
  unfold rt_
  by_cases e : k = 1
  · rw [if_pos e]
    constructor
    · intro q
      exfalso
      have h1 : (-1 : Int32).toInt = -1 := by decide
      rw [q, nI_toInt (by omega)] at h1
      omega
    · intro q; exact absurd e q.1
  · rw [if_neg e]
    have hr : rtn_ k < 256 := by unfold rtn_; repeat' split
                                 all_goals omega
    rw [nI_eq32 (by omega) (by omega)]
    exact ⟨fun q => ⟨e, q⟩, fun q => q.2⟩
theorem rtn_c {k : Nat} (h : k ≠ 1) : (rtn_ k = 0 ↔ k = 0) ∧ (rtn_ k = 1 ↔ k = 2) ∧ (rtn_ k = 2 ↔ k = 3) ∧ (rtn_ k = 3 ↔ 4 ≤ k ∧ k < 7) ∧ (rtn_ k = 4 ↔ k = 7) ∧ (rtn_ k = 5 ↔ k = 8) ∧ (rtn_ k = 6 ↔ k = 9) ∧ ∀ q, 10 ≤ q → (rtn_ k = q ↔ k = q) := by
  unfold rtn_
  refine ⟨?_, ?_, ?_, ?_, ?_, ?_, ?_, fun q hq => ?_⟩ <;> repeat' split
  all_goals omega
theorem rt_e0 {k : Nat} (h : k < 256) : rt_ k = nI 0 ↔ k = 0 := by rw [rt_nI h (by decide)]; constructor; exact fun q => (rtn_c q.1).1.mp q.2; exact fun q => ⟨by omega, by rw [q]; rfl⟩
theorem rt_e2 {k : Nat} (h : k < 256) : rt_ k = nI 1 ↔ k = 2 := by rw [rt_nI h (by decide)]; constructor; exact fun q => (rtn_c q.1).2.1.mp q.2; exact fun q => ⟨by omega, by rw [q]; rfl⟩
theorem rt_e3 {k : Nat} (h : k < 256) : rt_ k = nI 2 ↔ k = 3 := by rw [rt_nI h (by decide)]; constructor; exact fun q => (rtn_c q.1).2.2.1.mp q.2; exact fun q => ⟨by omega, by rw [q]; rfl⟩
theorem rt_e7 {k : Nat} (h : k < 256) : rt_ k = nI 4 ↔ k = 7 := by rw [rt_nI h (by decide)]; constructor; exact fun q => (rtn_c q.1).2.2.2.2.1.mp q.2; exact fun q => ⟨by omega, by rw [q]; rfl⟩
theorem rt_e8 {k : Nat} (h : k < 256) : rt_ k = nI 5 ↔ k = 8 := by rw [rt_nI h (by decide)]; constructor; exact fun q => (rtn_c q.1).2.2.2.2.2.1.mp q.2; exact fun q => ⟨by omega, by rw [q]; rfl⟩
theorem rt_e9 {k : Nat} (h : k < 256) : rt_ k = nI 6 ↔ k = 9 := by rw [rt_nI h (by decide)]; constructor; exact fun q => (rtn_c q.1).2.2.2.2.2.2.1.mp q.2; exact fun q => ⟨by omega, by rw [q]; rfl⟩
theorem rt_x {q : Nat} (hq : 10 ≤ q ∧ q < 256) {k : Nat} (h : k < 256) : rt_ k = nI q ↔ k = q := by
  rw [rt_nI h hq.2]
  constructor
  · exact fun w => ((rtn_c w.1).2.2.2.2.2.2.2 q hq.1).mp w.2
  · exact fun w => ⟨by omega, ((rtn_c (by omega)).2.2.2.2.2.2.2 q hq.1).mpr w⟩
theorem rt_e4 {k : Nat} (h : k < 256) : rt_ k = nI 3 ↔ 4 ≤ k ∧ k < 7 := by rw [rt_nI h (by decide)]; constructor; exact fun q => (rtn_c q.1).2.2.2.1.mp q.2; exact fun q => ⟨by omega, ((rtn_c (by omega)).2.2.2.1).mpr q⟩
/-- the codes put so far -/
def ro_ (t : Nat) (mi : im_MI) (C : List Nat) : Prop := mi 110 26 = nI C.length ∧ ∀ k, k < C.length → mi 115 (200 * t + k) = nI (C.getD k 0)
/-- the signs held, the last of them first -/
def rs_ (mi : im_MI) (S : List Nat) : Prop := mi 110 24 = nI S.length ∧ (∀ j, j < S.length → mi 124 (S.length - 1 - j) = nI (S.getD j 0)) ∧ mi 110 25 = nI (ya_cn S) ∧ ∀ x, x ∈ S → x < 32
/-- what reading may write -/
def rq_ (t : Nat) (mi m2 : im_MI) : Prop := (∀ k, k ≠ 110 → k ≠ 115 → k ≠ 124 → m2 k = mi k) ∧ (∀ j, j < 18 → m2 110 j = mi 110 j) ∧ ∀ i, i < 200 * t → m2 115 i = mi 115 i
theorem rq_rf {t : Nat} {mi : im_MI} : rq_ t mi mi := ⟨fun _ _ _ _ => rfl, fun _ _ => rfl, fun _ _ => rfl⟩
theorem rq_tr {t : Nat} {a b c : im_MI} (h1 : rq_ t a b) (h2 : rq_ t b c) : rq_ t a c := ⟨fun k q1 q2 q3 => (h2.1 k q1 q2 q3).trans (h1.1 k q1 q2 q3), fun j hj => (h2.2.1 j hj).trans (h1.2.1 j hj), fun i hi => (h2.2.2 i hi).trans (h1.2.2 i hi)⟩
theorem rq_u {t : Nat} {a b : im_MI} (h : rq_ t a b) {k j : Nat} {v : Int32} (hk : (k = 110 ∧ 18 ≤ j) ∨ k = 124 ∨ (k = 115 ∧ 200 * t ≤ j)) : rq_ t a (im_u b k j v) := by
  refine ⟨fun q q1 q2 q3 => by rw [im_u_row' (by omega)]; exact h.1 q q1 q2 q3, fun i hi => ?_, fun i hi => ?_⟩
  · by_cases c : 110 = k
    · rw [← c, im_u_j _ _ _ _ (by omega)]; exact h.2.1 i hi
    · rw [im_u_k _ _ _ _ c]; exact h.2.1 i hi
  · by_cases c : 115 = k
    · rw [← c, im_u_j _ _ _ _ (by omega)]; exact h.2.2 i hi
    · rw [im_u_k _ _ _ _ c]; exact h.2.2 i hi
theorem rn_q {t : Nat} {mi m2 : im_MI} (h : rn_ mi m2) : rq_ t mi m2 := ⟨fun k q1 _ _ => h.1 k q1, fun j hj => h.2 j (Or.inl hj), fun i _ => by rw [h.1 115 (by decide)]⟩
theorem re_M_q {t : Nat} {mi m2 : im_MI} {tb : Nat → Nat} {z : Nat} (h : re_M mi tb z) (h2 : rq_ t mi m2) : re_M m2 tb z := by
  unfold re_M at h ⊢
  rw [h2.2.1 6 (by decide), h2.1 114 (by decide) (by decide) (by decide), h2.1 123 (by decide) (by decide) (by decide)]
  exact h
theorem ro_n {t : Nat} {mi m2 : im_MI} {C : List Nat} (h : ro_ t mi C) (h2 : rn_ mi m2) : ro_ t m2 C := ⟨by rw [h2.2 26 (by decide)]; exact h.1, fun k hk => by rw [h2.1 115 (by decide)]; exact h.2 k hk⟩
theorem rs_n {mi m2 : im_MI} {S : List Nat} (h : rs_ mi S) (h2 : rn_ mi m2) : rs_ m2 S := ⟨by rw [h2.2 24 (by decide)]; exact h.1, fun k hk => by rw [h2.1 124 (by decide)]; exact h.2.1 k hk, by rw [h2.2 25 (by decide)]; exact h.2.2.1, h.2.2.2⟩
/-- all but the token's cells stay -/
def rp_ (mi m2 : im_MI) : Prop := ∀ j, 18 ≤ j → j ≤ 21 → m2 110 j = mi 110 j
theorem rk_p {tb : Nat → Nat} {z p : Nat} {mi m2 : im_MI} (h : rk_ tb z mi p) (h2 : rp_ mi m2) : rk_ tb z m2 p := by
  unfold rk_ at h ⊢
  rw [h2 18 (by decide) (by decide), h2 19 (by decide) (by decide), h2 20 (by decide) (by decide), h2 21 (by decide) (by decide)]
  exact h
theorem re_rank {d : Nat} {sh : im_Sh} {mi : im_MI} {mr : im_MR} {s : Nat} (hs : s < 32) : EvM (d) 141 [.int (nI s)] sh mi mr (ev_R sh (.int (nI (ya_rk s))) mi mr) := by
  show Ev (d) 141 0 [.int (nI s)] [] sh mi mr _
  refine ev_s (is_iload_n rfl rfl) ?_
  refine ev_ifN_ne rfl (by omega) (fun h_1 => ?_) (fun h_1 => ?_)
  · refine ev_s (is_iload_n rfl rfl) ?_
    refine ev_s (is_bipush (nI 11) rfl rfl) ?_
    refine ev_icmpN_ne rfl (by omega) (by omega) (fun h_11 => ?_) (fun h_11 => ?_)
    · refine ev_s (is_iload_n rfl rfl) ?_
      refine ev_s (is_bipush (nI 12) rfl rfl) ?_
      refine ev_icmpN_ne rfl (by omega) (by omega) (fun h_21 => ?_) (fun h_21 => ?_)
      · refine ev_s (is_iload_n rfl rfl) ?_
        refine ev_s (is_bipush (nI 13) rfl rfl) ?_
        refine ev_icmpN_ne rfl (by omega) (by omega) (fun h_31 => ?_) (fun h_31 => ?_)
        · refine ev_s (is_iload_n rfl rfl) ?_
          refine ev_s (is_bipush (nI 15) rfl rfl) ?_
          refine ev_icmpN_gt rfl (by omega) (by omega) (fun h_41 => ?_) (fun h_41 => ?_)
          · refine ev_s (is_iload_n rfl rfl) ?_
            refine ev_s (is_bipush (nI 17) rfl rfl) ?_
            refine ev_icmpN_gt rfl (by omega) (by omega) (fun h_51 => ?_) (fun h_51 => ?_)
            · refine ev_s (is_iload_n rfl rfl) ?_
              refine ev_s (is_bipush (nI 18) rfl rfl) ?_
              refine ev_icmpN_ne rfl (by omega) (by omega) (fun h_61 => ?_) (fun h_61 => ?_)
              · refine ev_s (is_bipush (nI 7) rfl rfl) ?_
                refine ev_ret (is_ireturn rfl rfl (by first | rfl | exact pu_b_nar | decide)) ?_
                unfold ya_rk
                first
                  | (rw [if_neg (by omega), if_neg (by omega), if_neg (by omega), if_neg (by omega), if_neg (by omega), if_neg (by omega), if_pos (by omega)]; exact ⟨rfl, rfl, rfl, rfl⟩)
                  | (rw [if_neg (by omega), if_neg (by omega), if_neg (by omega), if_neg (by omega), if_neg (by omega), if_neg (by omega), if_neg (by omega)]; exact ⟨rfl, rfl, rfl, rfl⟩)
              · refine ev_s (is_bipush (nI 6) rfl rfl) ?_
                refine ev_s (is_goto rfl) ?_
                refine ev_ret (is_ireturn rfl rfl (by first | rfl | exact pu_b_nar | decide)) ?_
                unfold ya_rk
                first
                  | (rw [if_neg (by omega), if_neg (by omega), if_neg (by omega), if_neg (by omega), if_neg (by omega), if_neg (by omega), if_pos (by omega)]; exact ⟨rfl, rfl, rfl, rfl⟩)
                  | (rw [if_neg (by omega), if_neg (by omega), if_neg (by omega), if_neg (by omega), if_neg (by omega), if_neg (by omega), if_neg (by omega)]; exact ⟨rfl, rfl, rfl, rfl⟩)
            · refine ev_s (is_iconst (nI 5) rfl rfl) ?_
              refine ev_s (is_goto rfl) ?_
              refine ev_ret (is_ireturn rfl rfl (by first | rfl | exact pu_b_nar | decide)) ?_
              unfold ya_rk
              first
                | (rw [if_neg (by omega), if_neg (by omega), if_neg (by omega), if_neg (by omega), if_neg (by omega), if_pos (by omega)]; exact ⟨rfl, rfl, rfl, rfl⟩)
                | (rw [if_neg (by omega), if_neg (by omega), if_neg (by omega), if_neg (by omega), if_neg (by omega), if_neg (by omega), if_pos (by omega)]; exact ⟨rfl, rfl, rfl, rfl⟩)
          · refine ev_s (is_iconst (nI 4) rfl rfl) ?_
            refine ev_s (is_goto rfl) ?_
            refine ev_ret (is_ireturn rfl rfl (by first | rfl | exact pu_b_nar | decide)) ?_
            unfold ya_rk
            first
              | (rw [if_neg (by omega), if_neg (by omega), if_neg (by omega), if_neg (by omega), if_pos (by omega)]; exact ⟨rfl, rfl, rfl, rfl⟩)
              | (rw [if_neg (by omega), if_neg (by omega), if_neg (by omega), if_neg (by omega), if_neg (by omega), if_pos (by omega)]; exact ⟨rfl, rfl, rfl, rfl⟩)
        · refine ev_s (is_iconst (nI 3) rfl rfl) ?_
          refine ev_s (is_goto rfl) ?_
          refine ev_ret (is_ireturn rfl rfl (by first | rfl | exact pu_b_nar | decide)) ?_
          unfold ya_rk
          first
            | (rw [if_neg (by omega), if_neg (by omega), if_neg (by omega), if_pos (by omega)]; exact ⟨rfl, rfl, rfl, rfl⟩)
            | (rw [if_neg (by omega), if_neg (by omega), if_neg (by omega), if_neg (by omega), if_pos (by omega)]; exact ⟨rfl, rfl, rfl, rfl⟩)
      · refine ev_s (is_iconst (nI 2) rfl rfl) ?_
        refine ev_s (is_goto rfl) ?_
        refine ev_ret (is_ireturn rfl rfl (by first | rfl | exact pu_b_nar | decide)) ?_
        unfold ya_rk
        first
          | (rw [if_neg (by omega), if_neg (by omega), if_pos (by omega)]; exact ⟨rfl, rfl, rfl, rfl⟩)
          | (rw [if_neg (by omega), if_neg (by omega), if_neg (by omega), if_pos (by omega)]; exact ⟨rfl, rfl, rfl, rfl⟩)
    · refine ev_s (is_iconst (nI 1) rfl rfl) ?_
      refine ev_s (is_goto rfl) ?_
      refine ev_ret (is_ireturn rfl rfl (by first | rfl | exact pu_b_nar | decide)) ?_
      unfold ya_rk
      first
        | (rw [if_neg (by omega), if_pos (by omega)]; exact ⟨rfl, rfl, rfl, rfl⟩)
        | (rw [if_neg (by omega), if_neg (by omega), if_pos (by omega)]; exact ⟨rfl, rfl, rfl, rfl⟩)
  · refine ev_s (is_iconst (nI 0) rfl rfl) ?_
    refine ev_s (is_goto rfl) ?_
    refine ev_ret (is_ireturn rfl rfl (by first | rfl | exact pu_b_nar | decide)) ?_
    unfold ya_rk
    first
      | (rw [if_pos (by omega)]; exact ⟨rfl, rfl, rfl, rfl⟩)
      | (rw [if_neg (by omega), if_pos (by omega)]; exact ⟨rfl, rfl, rfl, rfl⟩)
theorem re_puts {d : Nat} {sh : im_Sh} {mi : im_MI} {mr : im_MR} (hC : pu_C sh mr) {t : Nat} (ht : t < 6) (h9 : mi 110 9 = nI t) {C : List Nat} (ho : ro_ t mi C) (hl : C.length < 200) (c : Nat) : EvM (d) 142 [.ref 110, .int (nI c)] sh mi mr (fun r sh2 m2 r2 => sh2 = sh ∧ (r2 = mr ∧ rq_ t mi m2 ∧ ro_ t m2 (C ++ [c]) ∧ rp_ mi m2 ∧ m2 124 = mi 124 ∧ ∀ j, j ≠ 26 → m2 110 j = mi 110 j)) := by
  show Ev (d) 142 0 [.ref 110, .int (nI c)] [] sh mi mr _
  refine ev_s (is_aload_n rfl rfl) ?_
  refine ev_s (is_getR rfl (pu_s hC 110 rfl rfl) rfl rfl (pu_r hC 110 7 rfl rfl)) ?_
  refine ev_s (is_sipush (nI 200) rfl rfl) ?_
  refine ev_s (is_aload_n rfl rfl) ?_
  refine ev_s (is_getI' rfl (pu_s hC 110 rfl rfl) rfl rfl h9) ?_
  refine ev_s (is_imul (nI (200 * t)) rfl (pk_mul _ _)) ?_
  refine ev_s (is_aload_n rfl rfl) ?_
  refine ev_s (is_getI' rfl (pu_s hC 110 rfl rfl) rfl rfl ho.1) ?_
  refine ev_s (is_iadd (nI (200 * t + C.length)) rfl (nI_add _ _)) ?_
  refine ev_s (is_iload_n rfl rfl) ?_
  refine ev_s (is_iastore (200 * t + C.length) rfl (pu_s hC 115 rfl rfl) rfl rfl (by omega)) ?_
  refine ev_s (is_aload_n rfl rfl) ?_
  refine ev_s (is_dup rfl rfl) ?_
  refine ev_s (is_getI' rfl (pu_s hC 110 rfl rfl) rfl rfl ((im_u_k _ _ _ _ (by decide)).trans ho.1)) ?_
  refine ev_s (is_iconst (nI 1) rfl rfl) ?_
  refine ev_s (is_iadd (nI (C.length + 1)) rfl (nI_add _ _)) ?_
  refine ev_s (is_putI rfl (pu_s hC 110 rfl rfl) rfl rfl rfl) ?_
  refine ev_ret (is_return rfl) ?_
  refine ⟨rfl, rfl, rq_u (rq_u rq_rf (Or.inr (Or.inr ⟨rfl, by omega⟩))) (Or.inl ⟨rfl, by decide⟩), ⟨by rw [im_u_s, List.length_append]; rfl, fun k hk => ?_⟩, fun j h1 h2 => by rw [im_u_j _ _ _ _ (by omega), im_u_k _ _ _ _ (by decide)], by rw [im_u_row' (by decide), im_u_row' (by decide)], fun j hj => by rw [im_u_j _ _ _ _ hj, im_u_k _ _ _ _ (by decide)]⟩
  rw [List.length_append] at hk
  have hk2 : k < C.length + 1 := hk
  rw [im_u_k _ _ _ _ (by decide)]
  by_cases e : k = C.length
  · rw [e, im_u_s, getD_last]
  · rw [im_u_j _ _ _ _ (by omega), getD_app (by omega)]
    exact ho.2 k (by omega)
theorem re_holds0 {d : Nat} {sh : im_Sh} {mi : im_MI} {mr : im_MR} (hC : pu_C sh mr) {S : List Nat} (hs : mi 110 24 = nI S.length ∧ True) (hl : S.length < 200) (x : Nat) : EvM (d) 144 [.ref 110, .int (nI x)] sh mi mr (fun r sh2 m2 r2 => sh2 = sh ∧ (m2 = im_u (im_u mi 124 S.length (nI x)) 110 24 (nI (S.length + 1)) ∧ r2 = mr)) := by
  show Ev (d) 144 0 [.ref 110, .int (nI x)] [] sh mi mr _
  refine ev_s (is_aload_n rfl rfl) ?_
  refine ev_s (is_getR rfl (pu_s hC 110 rfl rfl) rfl rfl (pu_r hC 110 23 rfl rfl)) ?_
  refine ev_s (is_aload_n rfl rfl) ?_
  refine ev_s (is_getI' rfl (pu_s hC 110 rfl rfl) rfl rfl hs.1) ?_
  refine ev_s (is_iload_n rfl rfl) ?_
  refine ev_s (is_iastore (S.length) rfl (pu_s hC 124 rfl rfl) rfl rfl (by omega)) ?_
  refine ev_s (is_aload_n rfl rfl) ?_
  refine ev_s (is_dup rfl rfl) ?_
  refine ev_s (is_getI' rfl (pu_s hC 110 rfl rfl) rfl rfl ((im_u_k _ _ _ _ (by decide)).trans hs.1)) ?_
  refine ev_s (is_iconst (nI 1) rfl rfl) ?_
  refine ev_s (is_iadd (nI (S.length + 1)) rfl (nI_add _ _)) ?_
  refine ev_s (is_putI rfl (pu_s hC 110 rfl rfl) rfl rfl rfl) ?_
  refine ev_ret (is_return rfl) ?_
  refine ⟨rfl, rfl, rfl⟩
theorem rs_push {mi : im_MI} {S : List Nat} {x : Nat} (h1 : mi 110 24 = nI S.length) (h2 : ∀ j, j < S.length → mi 124 (S.length - 1 - j) = nI (S.getD j 0)) (h3 : mi 110 25 = nI (ya_cn (x :: S))) (h4 : ∀ q, q ∈ S → q < 32) (hx : x < 32) : rs_ (im_u (im_u mi 124 S.length (nI x)) 110 24 (nI (S.length + 1))) (x :: S) := by
  refine ⟨im_u_s _ _ _ _, fun j hj => ?_, by rw [im_u_j _ _ _ _ (by decide), im_u_k _ _ _ _ (by decide)]; exact h3, fun q hq => ?_⟩
  · rw [im_u_k _ _ _ _ (by decide)]
    match j, hj with
    | 0, _ => rw [show (x :: S).length - 1 - 0 = S.length from rfl, im_u_s]; rfl
    | j + 1, hj =>
      simp only [List.length_cons] at hj ⊢
      rw [im_u_j _ _ _ _ (by omega), show S.length + 1 - 1 - (j + 1) = S.length - 1 - j by omega]
      exact h2 j (by omega)
  · rcases List.mem_cons.mp hq with rfl | q2
    · exact hx
    · exact h4 q q2
theorem rs_top {mi : im_MI} {S : List Nat} {x : Nat} (h : rs_ mi (x :: S)) : mi 124 S.length = nI x := by
  have := h.2.1 0 (Nat.succ_pos _)
  exact this
theorem rs_tail {mi : im_MI} {S : List Nat} {x : Nat} (h : rs_ mi (x :: S)) : ∀ j, j < S.length → mi 124 (S.length - 1 - j) = nI (S.getD j 0) := fun j hj => by
  have := h.2.1 (j + 1) (Nat.succ_lt_succ hj)
  simp only [List.length_cons] at this
  rw [show S.length + 1 - 1 - (j + 1) = S.length - 1 - j by omega] at this
  exact this
theorem re_openN {d : Nat} {sh : im_Sh} {mi : im_MI} {mr : im_MR} (hC : pu_C sh mr) {S : List Nat} (hs : rs_ mi S) (hc : ya_cn S = 5) (x : Nat) : EvM (d + 1) 145 [.ref 110, .int (nI x)] sh mi mr (ev_R sh (.int (nI 0)) mi mr) := by
  show Ev (d + 1) 145 0 [.ref 110, .int (nI x)] [] sh mi mr _
  refine ev_s (is_aload_n rfl rfl) ?_
  refine ev_s (is_getI' rfl (pu_s hC 110 rfl rfl) rfl rfl hs.2.2.1) ?_
  refine ev_s (is_iconst (nI 5) rfl rfl) ?_
  refine ev_s (is_icmp_ne_f rfl (by rw [hc]; decide)) ?_
  refine ev_s (is_iconst (nI 0) rfl rfl) ?_
  refine ev_ret (is_ireturn rfl rfl (by first | rfl | exact pu_b_nar | decide)) ?_
  exact ⟨rfl, rfl, rfl, rfl⟩
theorem re_open {d : Nat} {sh : im_Sh} {mi : im_MI} {mr : im_MR} (hC : pu_C sh mr) {t : Nat} {S : List Nat} (hs : rs_ mi S) (hcl : ya_cn S < 2 ^ 31) (hc : ¬ ya_cn S = 5) (hl : S.length < 200) {x : Nat} (hx : x = 0 ∨ x = 13 ∨ x = 19) : EvM (d + 1) 145 [.ref 110, .int (nI x)] sh mi mr (fun r sh2 m2 r2 => sh2 = sh ∧ (r = .int (nI 1) ∧ r2 = mr ∧ rq_ t mi m2 ∧ rs_ m2 (x :: S) ∧ rp_ mi m2 ∧ m2 115 = mi 115 ∧ m2 110 26 = mi 110 26)) := by
  show Ev (d + 1) 145 0 [.ref 110, .int (nI x)] [] sh mi mr _
  refine ev_s (is_aload_n rfl rfl) ?_
  refine ev_s (is_getI' rfl (pu_s hC 110 rfl rfl) rfl rfl hs.2.2.1) ?_
  refine ev_s (is_iconst (nI 5) rfl rfl) ?_
  refine ev_s (is_icmp_ne_t rfl (fun q => hc ((nI_eq32 (by omega) (by decide)).mp q))) ?_
  refine ev_s (is_aload_n rfl rfl) ?_
  refine ev_s (is_dup rfl rfl) ?_
  refine ev_s (is_getI' rfl (pu_s hC 110 rfl rfl) rfl rfl hs.2.2.1) ?_
  refine ev_s (is_iconst (nI 1) rfl rfl) ?_
  refine ev_s (is_iadd (nI (ya_cn S + 1)) rfl (nI_add _ _)) ?_
  refine ev_s (is_putI rfl (pu_s hC 110 rfl rfl) rfl rfl rfl) ?_
  refine ev_s (is_aload_n rfl rfl) ?_
  refine ev_s (is_iload_n rfl rfl) ?_
  refine ev_q0 (is_callR 2 [_] [] rfl rfl rfl rfl rfl (Nat.le_of_ble_eq_true rfl) rfl rfl rfl (pu_s hC 110 rfl rfl)) rfl rfl (re_holds0 hC (S := S) ⟨(im_u_j _ _ _ _ (by decide)).trans hs.1, trivial⟩ hl x) (fun r_22 mi mr hq_22 => ?_)
  obtain ⟨hm_22, hr_22⟩ := hq_22
  subst hm_22
  subst hr_22
  refine ev_s (is_iconst (nI 1) rfl rfl) ?_
  refine ev_ret (is_ireturn rfl rfl (by first | rfl | exact pu_b_nar | decide)) ?_
  refine ⟨rfl, rfl, rfl, rq_u (rq_u (rq_u rq_rf (Or.inl ⟨rfl, by decide⟩)) (Or.inr (Or.inl rfl))) (Or.inl ⟨rfl, by decide⟩), rs_push ((im_u_j _ _ _ _ (by decide)).trans hs.1) (fun j hj => by rw [im_u_k _ _ _ _ (by decide)]; exact hs.2.1 j hj) (by rw [im_u_s, ya_cn, if_pos hx, Nat.add_comm]) hs.2.2.2 (by omega), fun j h1 h2 => by rw [im_u_j _ _ _ _ (by omega), im_u_k _ _ _ _ (by decide), im_u_j _ _ _ _ (by omega)], by rw [im_u_row' (by decide), im_u_row' (by decide), im_u_row' (by decide)], by rw [im_u_j _ _ _ _ (by decide), im_u_k _ _ _ _ (by decide), im_u_j _ _ _ _ (by decide)]⟩
theorem im_u_row_at {mi : im_MI} {c j k i : Nat} {v : Int32} (h : k ≠ c) : im_u mi c j v k i = mi k i := im_u_k _ _ _ _ h
theorem ya_rk_le (x : Nat) : ya_rk x ≤ 7 := by
  unfold ya_rk
  repeat' split
  all_goals omega
theorem re_unwL {d : Nat} {sh : im_Sh} {mr : im_MR} (hC : pu_C sh mr) {t L : Nat} (ht : t < 6) (hL1 : 1 ≤ L) (hL7 : L ≤ 7) : ∀ (S C : List Nat) (mi : im_MI) (v2 : Value), C.length + S.length < 200 → mi 110 9 = nI t → ro_ t mi C → rs_ mi S → Ev (d + 1) 143 0 [.ref 110, .int (nI L), v2] [] sh mi mr (fun r sh2 m2 r2 => sh2 = sh ∧ (r2 = mr ∧ rq_ t mi m2 ∧ ro_ t m2 (ya_unw L C S).1 ∧ rs_ m2 (ya_unw L C S).2 ∧ rp_ mi m2)) := by
  intro S
  induction S with
  | nil =>
    intro C mi v2 hlen h9 ho hs
    refine ev_s (is_aload_n rfl rfl) ?_
    refine ev_s (is_getI' rfl (pu_s hC 110 rfl rfl) rfl rfl hs.1) ?_
    refine ev_s (is_if_le_t rfl (by decide)) ?_
    refine ev_ret (is_return rfl) ?_
    exact ⟨rfl, rfl, rq_rf, ho, hs, fun _ _ _ => rfl⟩
  | cons x S ih =>
    intro C mi0 v2 hlen h9 ho hs
    have hx : x < 32 := hs.2.2.2 x (List.mem_cons_self ..)
    have hlen2 : C.length + (S.length + 1) < 200 := hlen
    have hrk : ya_rk x ≤ 7 := ya_rk_le x
    refine ev_s (is_aload_n rfl rfl) ?_
    refine ev_s (is_getI' rfl (pu_s hC 110 rfl rfl) rfl rfl hs.1) ?_
    refine ev_s (is_if_le_f rfl (nI_ge (a := 0) (Nat.succ_pos _) (by show S.length + 1 < _; omega))) ?_
    refine ev_s (is_aload_n rfl rfl) ?_
    refine ev_s (is_getR rfl (pu_s hC 110 rfl rfl) rfl rfl (pu_r hC 110 23 rfl rfl)) ?_
    refine ev_s (is_aload_n rfl rfl) ?_
    refine ev_s (is_getI' rfl (pu_s hC 110 rfl rfl) rfl rfl hs.1) ?_
    refine ev_s (is_iconst (nI 1) rfl rfl) ?_
    refine ev_s (is_isub (nI S.length) rfl (by show nI (S.length + 1) - nI 1 = _; rw [pk_sub (by omega)]; rfl)) ?_
    refine ev_s (is_iaload' (S.length) rfl (pu_s hC 124 rfl rfl) rfl rfl (by omega) (rs_top hs)) ?_
    refine ev_c1 (is_call0 1 [_] [] rfl rfl rfl rfl rfl (Nat.le_of_ble_eq_true rfl) rfl rfl rfl) rfl rfl (re_rank hx) ?_
    refine ev_s (is_iload_n rfl rfl) ?_
    refine ev_icmpN_lt rfl (by omega) (by omega) (fun h_22 => ?_) (fun h_22 => ?_)
    · have hL : ya_rk x < L := h_22
      refine ev_ret (is_return rfl) ?_
      rw [unw_lt _ (show ya_lt (x :: S) L from hL)]
      exact ⟨rfl, rfl, rq_rf, ho, hs, fun _ _ _ => rfl⟩
    · have hL : L ≤ ya_rk x := h_22
      have hx0 : x ≠ 0 := fun q => by rw [q] at hL; have : ya_rk 0 = 0 := rfl; omega
      refine ev_s (is_aload_n rfl rfl) ?_
      refine ev_s (is_dup rfl rfl) ?_
      refine ev_s (is_getI' rfl (pu_s hC 110 rfl rfl) rfl rfl hs.1) ?_
      refine ev_s (is_iconst (nI 1) rfl rfl) ?_
      refine ev_s (is_isub (nI S.length) rfl (by show nI (S.length + 1) - nI 1 = _; rw [pk_sub (by omega)]; rfl)) ?_
      refine ev_s (is_putI rfl (pu_s hC 110 rfl rfl) rfl rfl rfl) ?_
      refine ev_s (is_aload_n rfl rfl) ?_
      refine ev_s (is_getR rfl (pu_s hC 110 rfl rfl) rfl rfl (pu_r hC 110 23 rfl rfl)) ?_
      refine ev_s (is_aload_n rfl rfl) ?_
      refine ev_s (is_getI' rfl (pu_s hC 110 rfl rfl) rfl rfl (im_u_s _ _ _ _)) ?_
      refine ev_s (is_iaload' (S.length) rfl (pu_s hC 124 rfl rfl) rfl rfl (by omega) ((im_u_row_at (by decide)).trans (rs_top hs))) ?_
      refine ev_s (st_istore_n_2 rfl rfl) ?_
      refine ev_s (is_aload_n rfl rfl) ?_
      refine ev_s (is_dup rfl rfl) ?_
      refine ev_s (is_getI' rfl (pu_s hC 110 rfl rfl) rfl rfl ((im_u_j _ _ _ _ (by decide)).trans hs.2.2.1)) ?_
      refine ev_s (is_iload_n rfl rfl) ?_
      refine ev_s (is_bipush (nI 13) rfl rfl) ?_
      refine ev_icmpN_eq rfl (by omega) (by omega) (fun h_53 => ?_) (fun h_53 => ?_)
      · refine ev_s (is_iconst (nI 1) rfl rfl) ?_
        refine ev_s (is_goto rfl) ?_
        first
          | refine ev_s (is_isub (nI (ya_cn S)) rfl (by rw [ya_cn, if_pos (by omega), pk_sub (by omega), Nat.add_sub_cancel_left])) ?_
          | refine ev_s (is_isub (nI (ya_cn S)) rfl (by rw [ya_cn, if_neg (by omega), pk_sub (by omega), Nat.zero_add]; rfl)) ?_
        refine ev_s (is_putI rfl (pu_s hC 110 rfl rfl) rfl rfl rfl) ?_
        have hC2 : ro_ t (im_u (im_u mi0 110 24 (nI S.length)) 110 25 (nI (ya_cn S))) C := ⟨by rw [im_u_j _ _ _ _ (by decide), im_u_j _ _ _ _ (by decide)]; exact ho.1, fun k hk => by rw [im_u_k _ _ _ _ (by decide), im_u_k _ _ _ _ (by decide)]; exact ho.2 k hk⟩
        refine ev_s (is_aload_n rfl rfl) ?_
        refine ev_s (is_iload_n rfl rfl) ?_
        refine ev_q0 (is_callR 2 [_] [] rfl rfl rfl rfl rfl (Nat.le_of_ble_eq_true rfl) rfl rfl rfl (pu_s hC 110 rfl rfl)) rfl rfl (re_puts hC ht (mi := (im_u (im_u mi0 110 24 (nI S.length)) 110 25 (nI (ya_cn S)))) ((im_u_j _ _ _ _ (by decide)).trans ((im_u_j _ _ _ _ (by decide)).trans h9)) hC2 (by omega) x) (fun r_73 mi mr hq_73 => ?_)
        obtain ⟨rfl, hq1, ho2, hp2, h124, h110⟩ := hq_73
        have hs2 : rs_ mi S := ⟨by rw [h110 24 (by decide), im_u_j _ _ _ _ (by decide), im_u_s], fun j hj => by rw [h124, im_u_row' (by decide), im_u_row' (by decide)]; exact rs_tail hs j hj, by rw [h110 25 (by decide), im_u_s], fun q hq => hs.2.2.2 q (List.mem_cons_of_mem _ hq)⟩
        have hq0 : rq_ t mi0 mi := rq_tr (rq_u (rq_u rq_rf (Or.inl ⟨rfl, by decide⟩)) (Or.inl ⟨rfl, by decide⟩)) hq1
        have hp0 : rp_ mi0 mi := fun j h1 h2 => by rw [hp2 j h1 h2, im_u_j _ _ _ _ (by omega), im_u_j _ _ _ _ (by omega)]
        refine ev_s (is_goto rfl) ?_
        rw [unw_psh C S hL]
        refine ev_imp (ih (C ++ [x]) mi _ (by rw [List.length_append]; show C.length + 1 + S.length < 200; omega) (by rw [hq0.2.1 9 (by decide)]; exact h9) ho2 hs2) (fun r sh2 m2 r2 hh => ?_)
        exact ⟨hh.1, hh.2.1, rq_tr hq0 hh.2.2.1, hh.2.2.2.1, hh.2.2.2.2.1, fun j h1 h2 => (hh.2.2.2.2.2 j h1 h2).trans (hp0 j h1 h2)⟩
      · refine ev_s (is_iload_n rfl rfl) ?_
        refine ev_s (is_bipush (nI 19) rfl rfl) ?_
        refine ev_icmpN_ne rfl (by omega) (by omega) (fun h_59 => ?_) (fun h_59 => ?_)
        · refine ev_s (is_iconst (nI 0) rfl rfl) ?_
          first
            | refine ev_s (is_isub (nI (ya_cn S)) rfl (by rw [ya_cn, if_pos (by omega), pk_sub (by omega), Nat.add_sub_cancel_left])) ?_
            | refine ev_s (is_isub (nI (ya_cn S)) rfl (by rw [ya_cn, if_neg (by omega), pk_sub (by omega), Nat.zero_add]; rfl)) ?_
          refine ev_s (is_putI rfl (pu_s hC 110 rfl rfl) rfl rfl rfl) ?_
          have hC2 : ro_ t (im_u (im_u mi0 110 24 (nI S.length)) 110 25 (nI (ya_cn S))) C := ⟨by rw [im_u_j _ _ _ _ (by decide), im_u_j _ _ _ _ (by decide)]; exact ho.1, fun k hk => by rw [im_u_k _ _ _ _ (by decide), im_u_k _ _ _ _ (by decide)]; exact ho.2 k hk⟩
          refine ev_s (is_aload_n rfl rfl) ?_
          refine ev_s (is_iload_n rfl rfl) ?_
          refine ev_q0 (is_callR 2 [_] [] rfl rfl rfl rfl rfl (Nat.le_of_ble_eq_true rfl) rfl rfl rfl (pu_s hC 110 rfl rfl)) rfl rfl (re_puts hC ht (mi := (im_u (im_u mi0 110 24 (nI S.length)) 110 25 (nI (ya_cn S)))) ((im_u_j _ _ _ _ (by decide)).trans ((im_u_j _ _ _ _ (by decide)).trans h9)) hC2 (by omega) x) (fun r_73 mi mr hq_73 => ?_)
          obtain ⟨rfl, hq1, ho2, hp2, h124, h110⟩ := hq_73
          have hs2 : rs_ mi S := ⟨by rw [h110 24 (by decide), im_u_j _ _ _ _ (by decide), im_u_s], fun j hj => by rw [h124, im_u_row' (by decide), im_u_row' (by decide)]; exact rs_tail hs j hj, by rw [h110 25 (by decide), im_u_s], fun q hq => hs.2.2.2 q (List.mem_cons_of_mem _ hq)⟩
          have hq0 : rq_ t mi0 mi := rq_tr (rq_u (rq_u rq_rf (Or.inl ⟨rfl, by decide⟩)) (Or.inl ⟨rfl, by decide⟩)) hq1
          have hp0 : rp_ mi0 mi := fun j h1 h2 => by rw [hp2 j h1 h2, im_u_j _ _ _ _ (by omega), im_u_j _ _ _ _ (by omega)]
          refine ev_s (is_goto rfl) ?_
          rw [unw_psh C S hL]
          refine ev_imp (ih (C ++ [x]) mi _ (by rw [List.length_append]; show C.length + 1 + S.length < 200; omega) (by rw [hq0.2.1 9 (by decide)]; exact h9) ho2 hs2) (fun r sh2 m2 r2 hh => ?_)
          exact ⟨hh.1, hh.2.1, rq_tr hq0 hh.2.2.1, hh.2.2.2.1, hh.2.2.2.2.1, fun j h1 h2 => (hh.2.2.2.2.2 j h1 h2).trans (hp0 j h1 h2)⟩
        · refine ev_s (is_iconst (nI 1) rfl rfl) ?_
          refine ev_s (is_goto rfl) ?_
          first
            | refine ev_s (is_isub (nI (ya_cn S)) rfl (by rw [ya_cn, if_pos (by omega), pk_sub (by omega), Nat.add_sub_cancel_left])) ?_
            | refine ev_s (is_isub (nI (ya_cn S)) rfl (by rw [ya_cn, if_neg (by omega), pk_sub (by omega), Nat.zero_add]; rfl)) ?_
          refine ev_s (is_putI rfl (pu_s hC 110 rfl rfl) rfl rfl rfl) ?_
          have hC2 : ro_ t (im_u (im_u mi0 110 24 (nI S.length)) 110 25 (nI (ya_cn S))) C := ⟨by rw [im_u_j _ _ _ _ (by decide), im_u_j _ _ _ _ (by decide)]; exact ho.1, fun k hk => by rw [im_u_k _ _ _ _ (by decide), im_u_k _ _ _ _ (by decide)]; exact ho.2 k hk⟩
          refine ev_s (is_aload_n rfl rfl) ?_
          refine ev_s (is_iload_n rfl rfl) ?_
          refine ev_q0 (is_callR 2 [_] [] rfl rfl rfl rfl rfl (Nat.le_of_ble_eq_true rfl) rfl rfl rfl (pu_s hC 110 rfl rfl)) rfl rfl (re_puts hC ht (mi := (im_u (im_u mi0 110 24 (nI S.length)) 110 25 (nI (ya_cn S)))) ((im_u_j _ _ _ _ (by decide)).trans ((im_u_j _ _ _ _ (by decide)).trans h9)) hC2 (by omega) x) (fun r_73 mi mr hq_73 => ?_)
          obtain ⟨rfl, hq1, ho2, hp2, h124, h110⟩ := hq_73
          have hs2 : rs_ mi S := ⟨by rw [h110 24 (by decide), im_u_j _ _ _ _ (by decide), im_u_s], fun j hj => by rw [h124, im_u_row' (by decide), im_u_row' (by decide)]; exact rs_tail hs j hj, by rw [h110 25 (by decide), im_u_s], fun q hq => hs.2.2.2 q (List.mem_cons_of_mem _ hq)⟩
          have hq0 : rq_ t mi0 mi := rq_tr (rq_u (rq_u rq_rf (Or.inl ⟨rfl, by decide⟩)) (Or.inl ⟨rfl, by decide⟩)) hq1
          have hp0 : rp_ mi0 mi := fun j h1 h2 => by rw [hp2 j h1 h2, im_u_j _ _ _ _ (by omega), im_u_j _ _ _ _ (by omega)]
          refine ev_s (is_goto rfl) ?_
          rw [unw_psh C S hL]
          refine ev_imp (ih (C ++ [x]) mi _ (by rw [List.length_append]; show C.length + 1 + S.length < 200; omega) (by rw [hq0.2.1 9 (by decide)]; exact h9) ho2 hs2) (fun r sh2 m2 r2 hh => ?_)
          exact ⟨hh.1, hh.2.1, rq_tr hq0 hh.2.2.1, hh.2.2.2.1, hh.2.2.2.2.1, fun j h1 h2 => (hh.2.2.2.2.2 j h1 h2).trans (hp0 j h1 h2)⟩
