/-! ===== PURE, the class: valueOf ===== -/

theorem te_enc_n {c : Nat} (h1 : 100000 ≤ c) (h2 : c < 110000) : te_enc c % 64 = 2 ∧ te_enc c / 64 = c - 100000 ∧ te_enc c < 2 ^ 31 := by
  unfold te_enc; rw [if_pos h1]; omega
theorem te_enc_v {c : Nat} (h : c < 6) : te_enc c % 64 = 3 ∧ te_enc c / 64 = c ∧ te_enc c < 2 ^ 31 := by
  unfold te_enc; rw [if_neg (by omega), if_pos (by omega)]; omega
theorem te_enc_2 {c : Nat} (hc : c = 11 ∨ c = 12 ∨ c = 14 ∨ c = 15 ∨ c = 16 ∨ c = 17 ∨ c = 18) : te_enc c % 64 = te_enc c ∧ te_enc c < 64 ∧ te_enc c ≠ 2 ∧ te_enc c ≠ 3 ∧ te_enc c ≠ 9 ∧ te_enc c ≠ 10 := by
  rcases hc with rfl | rfl | rfl | rfl | rfl | rfl | rfl <;> decide

theorem nI_nle2 {n : Nat} (h : 1 < n) (hn : n < 2 ^ 31) : ¬ nI n ≤ nI 1 := nI_ge h hn

theorem x_valueOf {d : Nat} {sh : im_Sh} {mi : im_MI} {mr : im_MR} (hC : pu_C sh mr) {t : Nat} (ht : t < 6) {G : ho_G} (hT : xt_ok mi G t) {p : Nat} (hp : p < 3) {R : Nat} (hR : xr_R R) {nm : Nat → Int32} (hnm : ∀ c, c < 6 → mi (R + 1) c = nm c) : EvM (d + 1) 41 [.ref (78 + 3 * t), .int (nI p), .ref (R + 1), .ref (R + 2)] sh mi mr (fun r sh2 m2 r2 => sh2 = sh ∧ (r = .int (te_val nm (G t p)) ∧ r2 = mr ∧ sc_ (fun k => Nat.beq k (R + 2)) mi m2)) := by
  show Ev (d + 1) 41 0 [.ref (78 + 3 * t), .int (nI p), .ref (R + 1), .ref (R + 2), im_bad, im_bad, im_bad, im_bad] [] sh mi mr _
  obtain ⟨t1, t2, t3, t4⟩ := id hT
  have hRb : 104 ≤ R ∧ R ≤ 107 := by rcases hR with rfl | rfl <;> omega
  have hlen : te_at G t p + (G t p).length ≤ 160 := by
    rcases (show p = 0 ∨ p = 1 ∨ p = 2 by omega) with rfl | rfl | rfl <;> simp only [te_at, lo_sum] at t4 ⊢ <;> omega
  have hp1 : te_at G t (p + 1) = te_at G t p + (G t p).length := rfl
  have hrow : ∀ (mi2 : im_MI), sc_ (fun k => Nat.beq k (R + 2)) mi mi2 → ∀ k, k ≠ R + 2 → mi2 k = mi k := fun mi2 hsc k hk => hsc k (by
    cases e : Nat.beq k (R + 2) with
    | false => exact e
    | true => exact absurd (Nat.eq_of_beq_eq_true e) hk)
  have hbe : Nat.beq (R + 2) (R + 2) = true := Nat.beq_refl _
  have loop : ∀ (l : List Nat) (i : Nat) (st : List Int32) (mi2 : im_MI) (v6 v7 : Value), im_isL v6 = false → i ≤ 200 → st.length ≤ 32 → (G t p).drop i = l → te_ok st.length l = true → sc_ (fun k => Nat.beq k (R + 2)) mi mi2 → te_st mi2 (R + 2) st → Ev (d + 1) 41 21 [.ref (78 + 3 * t), .int (nI p), .ref (R + 1), .ref (R + 2), .int (nI st.length), .int (nI (te_at G t p + i)), v6, v7] [] sh mi2 mr (fun r sh2 m2 r2 => sh2 = sh ∧ (r = .int ((te_run nm l st).headD 0) ∧ r2 = mr ∧ sc_ (fun k => Nat.beq k (R + 2)) mi m2)) := by
    intro l
    induction l with
    | nil =>
      intro i st mi2 v6 v7 hv6 hi2 hdep hd hok hsc hst
      have hi : (G t p).length ≤ i := List.drop_eq_nil_iff.mp hd
      have h1s : st.length = 1 := Nat.eq_of_beq_eq_true hok
      match st, h1s with
      | [a], _ =>
      have hta : mi2 (R + 2) 0 = a := hst.top
      have hib : te_at G t p + i < 2 ^ 31 := by omega
      refine ev_s (is_iload rfl rfl) ?_
      refine ev_s (is_aload_n rfl rfl) ?_
      refine ev_s (is_getR rfl (pu_T hC ht).1 rfl rfl (pu_T hC ht).2.2.2.2) ?_
      refine ev_s (is_iload_n rfl rfl) ?_
      refine ev_s (is_iaload' (p) rfl ((pu_T hC ht).2.2.1) rfl rfl (by omega) ((congrFun (hrow _ hsc _ (by omega)) _).trans (t1 p hp))) ?_
      refine ev_s (is_icmp_ge_t rfl (nI_le (show te_at G t p + (G t p).length ≤ te_at G t p + i by omega) hib)) ?_
      refine ev_s (is_iload rfl rfl) ?_
      refine ev_s (is_if_le_f rfl (fun q => absurd q (nI_nle (n := 1) (by decide) (by decide)))) ?_
      refine ev_s (is_aload_n rfl rfl) ?_
      refine ev_s (is_iload rfl rfl) ?_
      refine ev_s (is_iconst (nI 1) rfl rfl) ?_
      refine ev_s (is_isub (nI 0) rfl (pk_sub (a := 1) (b := 1) (by decide))) ?_
      refine ev_s (is_iaload' (0) rfl ((pu_R hC hR).2.2.1) rfl rfl (by decide) hta) ?_
      refine ev_s (is_goto rfl) ?_
      refine ev_ret (is_ireturn rfl rfl (by first | rfl | exact pu_b_nar | decide)) ?_
      exact ⟨rfl, rfl, rfl, hsc⟩
    | cons c l ih =>
      intro i st mi2 v6 v7 hv6 hi2 hdep hd hok hsc hst
      obtain ⟨hi, hce, hdr⟩ := lo_drop 0 hd
      have hok2 : te_okc st.length c = true ∧ te_ok (te_dep st.length c) l = true := by
        rw [te_ok, Bool.and_eq_true] at hok
        exact hok
      obtain ⟨hoc, hol⟩ := hok2
      unfold te_okc at hoc
      unfold te_dep at hol
      have hnm2 : ∀ c, c < 6 → mi2 (R + 1) c = nm c := fun c hc => (congrFun (hrow _ hsc _ (by omega)) _).trans (hnm c hc)
      by_cases hA : 100000 ≤ c
      · have hs : te_run nm (c :: l) st = te_run nm l (nI (c - 100000) :: st) := by show te_run nm l (te_step nm st c) = _; unfold te_step; rw [if_pos hA]
        rw [hs]
        rw [if_pos hA] at hoc
        simp only [Bool.and_eq_true, decide_eq_true_eq] at hoc
        rw [if_pos (Or.inl hA)] at hol
        obtain ⟨q1, q2, q3⟩ := te_enc_n hA hoc.1
        refine ev_s (is_iload rfl rfl) ?_
        refine ev_s (is_aload_n rfl rfl) ?_
        refine ev_s (is_getR rfl (pu_T hC ht).1 rfl rfl (pu_T hC ht).2.2.2.2) ?_
        refine ev_s (is_iload_n rfl rfl) ?_
        refine ev_s (is_iaload' (p) rfl ((pu_T hC ht).2.2.1) rfl rfl (by omega) ((congrFun (hrow _ hsc _ (by omega)) _).trans (t1 p hp))) ?_
        refine ev_s (is_icmp_ge_f rfl (nI_ge (by omega) (by omega))) ?_
        refine ev_s (is_aload_n rfl rfl) ?_
        refine ev_s (is_getR rfl (pu_T hC ht).1 rfl rfl (pu_T hC ht).2.2.2.1) ?_
        refine ev_s (is_iload rfl rfl) ?_
        refine ev_s (is_iaload' (te_at G t p + i) rfl ((pu_T hC ht).2.1) rfl rfl (by omega) ((congrFun (hrow _ hsc _ (by omega)) _).trans ((t2 p i hp hi).trans (by rw [hce])))) ?_
        refine ev_s (is_bipush (nI 63) rfl rfl) ?_
        refine ev_s (is_iand (nI (te_enc c % 64)) rfl (nI_and63 (by omega))) ?_
        refine ev_s (st_istore_6 rfl rfl) ?_
        refine ev_s (is_aload_n rfl rfl) ?_
        refine ev_s (is_getR rfl (pu_T hC ht).1 rfl rfl (pu_T hC ht).2.2.2.1) ?_
        refine ev_s (is_iload rfl rfl) ?_
        refine ev_s (is_iaload' (te_at G t p + i) rfl ((pu_T hC ht).2.1) rfl rfl (by omega) ((congrFun (hrow _ hsc _ (by omega)) _).trans ((t2 p i hp hi).trans (by rw [hce])))) ?_
        refine ev_s (is_bipush (nI 6) rfl rfl) ?_
        refine ev_s (is_ishr (nI (te_enc c / 64)) rfl (nI_shr6 (by omega))) ?_
        refine ev_s (st_istore_7 rfl rfl) ?_
        refine ev_s (is_iload rfl rfl) ?_
        refine ev_s (is_iconst (nI 2) rfl rfl) ?_
        refine ev_s (is_icmp_eq_t rfl (by rw [q1])) ?_
        refine ev_s (is_iload rfl rfl) ?_
        refine ev_s (is_aload_n rfl rfl) ?_
        refine ev_s (is_alen rfl ((pu_R hC hR).2.2.1) (by decide)) ?_
        refine ev_s (is_icmp_ge_f rfl (nI_ge (by omega) (by omega))) ?_
        refine ev_s (is_aload_n rfl rfl) ?_
        refine ev_s (is_iload rfl rfl) ?_
        refine ev_s (st_iinc_4 _ rfl rfl (nI_inc _)) ?_
        refine ev_s (is_iload rfl rfl) ?_
        refine ev_s (is_iconst (nI 3) rfl rfl) ?_
        refine ev_s (is_icmp_ne_t rfl (fun q => absurd ((nI_eq (by omega) (by omega)).mp q) (by omega))) ?_
        refine ev_s (is_iload rfl rfl) ?_
        refine ev_s (is_iastore (st.length) rfl ((pu_R hC hR).2.2.1) rfl rfl (by omega)) ?_
        refine ev_s (is_goto rfl) ?_
        refine ev_s (st_iinc_5 _ rfl rfl (nI_inc _)) ?_
        refine ev_s (is_goto rfl) ?_
        rw [q2]
        exact ih (i + 1) (nI (c - 100000) :: st) _ _ _ rfl (by omega) (by simp at hdep ⊢; omega) hdr hol (hsc.u hbe) (hst.push _)
      by_cases hB : c < 11
      · have hs : te_run nm (c :: l) st = te_run nm l (nm c :: st) := by show te_run nm l (te_step nm st c) = _; unfold te_step; rw [if_neg hA, if_pos hB]
        rw [hs]
        rw [if_neg hA, if_pos hB] at hoc
        simp only [Bool.and_eq_true, decide_eq_true_eq] at hoc
        rw [if_pos (Or.inr hB)] at hol
        obtain ⟨q1, q2, q3⟩ := te_enc_v hoc.1
        have hB6 := hoc.1
        refine ev_s (is_iload rfl rfl) ?_
        refine ev_s (is_aload_n rfl rfl) ?_
        refine ev_s (is_getR rfl (pu_T hC ht).1 rfl rfl (pu_T hC ht).2.2.2.2) ?_
        refine ev_s (is_iload_n rfl rfl) ?_
        refine ev_s (is_iaload' (p) rfl ((pu_T hC ht).2.2.1) rfl rfl (by omega) ((congrFun (hrow _ hsc _ (by omega)) _).trans (t1 p hp))) ?_
        refine ev_s (is_icmp_ge_f rfl (nI_ge (by omega) (by omega))) ?_
        refine ev_s (is_aload_n rfl rfl) ?_
        refine ev_s (is_getR rfl (pu_T hC ht).1 rfl rfl (pu_T hC ht).2.2.2.1) ?_
        refine ev_s (is_iload rfl rfl) ?_
        refine ev_s (is_iaload' (te_at G t p + i) rfl ((pu_T hC ht).2.1) rfl rfl (by omega) ((congrFun (hrow _ hsc _ (by omega)) _).trans ((t2 p i hp hi).trans (by rw [hce])))) ?_
        refine ev_s (is_bipush (nI 63) rfl rfl) ?_
        refine ev_s (is_iand (nI (te_enc c % 64)) rfl (nI_and63 (by omega))) ?_
        refine ev_s (st_istore_6 rfl rfl) ?_
        refine ev_s (is_aload_n rfl rfl) ?_
        refine ev_s (is_getR rfl (pu_T hC ht).1 rfl rfl (pu_T hC ht).2.2.2.1) ?_
        refine ev_s (is_iload rfl rfl) ?_
        refine ev_s (is_iaload' (te_at G t p + i) rfl ((pu_T hC ht).2.1) rfl rfl (by omega) ((congrFun (hrow _ hsc _ (by omega)) _).trans ((t2 p i hp hi).trans (by rw [hce])))) ?_
        refine ev_s (is_bipush (nI 6) rfl rfl) ?_
        refine ev_s (is_ishr (nI (te_enc c / 64)) rfl (nI_shr6 (by omega))) ?_
        refine ev_s (st_istore_7 rfl rfl) ?_
        refine ev_s (is_iload rfl rfl) ?_
        refine ev_s (is_iconst (nI 2) rfl rfl) ?_
        refine ev_s (is_icmp_eq_f rfl (fun q => absurd ((nI_eq (by omega) (by omega)).mp q) (by omega))) ?_
        refine ev_s (is_iload rfl rfl) ?_
        refine ev_s (is_iconst (nI 3) rfl rfl) ?_
        refine ev_s (is_icmp_ne_f rfl (fun q => q (by rw [q1]))) ?_
        refine ev_s (is_iload rfl rfl) ?_
        refine ev_s (is_aload_n rfl rfl) ?_
        refine ev_s (is_alen rfl ((pu_R hC hR).2.2.1) (by decide)) ?_
        refine ev_s (is_icmp_ge_f rfl (nI_ge (by omega) (by omega))) ?_
        refine ev_s (is_aload_n rfl rfl) ?_
        refine ev_s (is_iload rfl rfl) ?_
        refine ev_s (st_iinc_4 _ rfl rfl (nI_inc _)) ?_
        refine ev_s (is_iload rfl rfl) ?_
        refine ev_s (is_iconst (nI 3) rfl rfl) ?_
        refine ev_s (is_icmp_ne_f rfl (fun q => q (by rw [q1]))) ?_
        refine ev_s (is_iload rfl rfl) ?_
        refine ev_s (is_aload_n rfl rfl) ?_
        rw [q2]
        refine ev_c1 (is_call0 2 [_, _] [_, _] rfl rfl rfl rfl rfl (Nat.le_of_ble_eq_true rfl) rfl rfl rfl) rfl rfl (x_named hC hR hB6 hnm2) ?_
        refine ev_s (is_goto rfl) ?_
        refine ev_s (is_iastore (st.length) rfl ((pu_R hC hR).2.2.1) rfl rfl (by omega)) ?_
        refine ev_s (is_goto rfl) ?_
        refine ev_s (st_iinc_5 _ rfl rfl (nI_inc _)) ?_
        refine ev_s (is_goto rfl) ?_
        exact ih (i + 1) (nm c :: st) _ _ _ rfl (by omega) (by simp at hdep ⊢; omega) hdr hol (hsc.u hbe) (hst.push _)
      by_cases hCc : c = 13
      · subst hCc
        rw [if_neg hA, if_neg hB, if_pos (Or.inl rfl)] at hoc
        have hoc := of_decide_eq_true hoc
        rw [if_neg (by omega), if_pos (Or.inl rfl)] at hol
        match st, hoc, hst, hol with
        | a :: st, hoc, hst, hol =>
        have hta := hst.top
        have hlb : st.length < 32 := by
          have := hdep
          simp at this
          omega
        have hs : te_run nm (13 :: l) (a :: st) = te_run nm l (pu_b (a = 0) :: st) := rfl
        rw [hs]
        have hq3 : te_enc 13 < 2 ^ 31 := by decide
        refine ev_s (is_iload rfl rfl) ?_
        refine ev_s (is_aload_n rfl rfl) ?_
        refine ev_s (is_getR rfl (pu_T hC ht).1 rfl rfl (pu_T hC ht).2.2.2.2) ?_
        refine ev_s (is_iload_n rfl rfl) ?_
        refine ev_s (is_iaload' (p) rfl ((pu_T hC ht).2.2.1) rfl rfl (by omega) ((congrFun (hrow _ hsc _ (by omega)) _).trans (t1 p hp))) ?_
        refine ev_s (is_icmp_ge_f rfl (nI_ge (by omega) (by omega))) ?_
        refine ev_s (is_aload_n rfl rfl) ?_
        refine ev_s (is_getR rfl (pu_T hC ht).1 rfl rfl (pu_T hC ht).2.2.2.1) ?_
        refine ev_s (is_iload rfl rfl) ?_
        refine ev_s (is_iaload' (te_at G t p + i) rfl ((pu_T hC ht).2.1) rfl rfl (by omega) ((congrFun (hrow _ hsc _ (by omega)) _).trans ((t2 p i hp hi).trans (by rw [hce])))) ?_
        refine ev_s (is_bipush (nI 63) rfl rfl) ?_
        refine ev_s (is_iand (nI 9) rfl (nI_and63 (by decide))) ?_
        refine ev_s (st_istore_6 rfl rfl) ?_
        refine ev_s (is_aload_n rfl rfl) ?_
        refine ev_s (is_getR rfl (pu_T hC ht).1 rfl rfl (pu_T hC ht).2.2.2.1) ?_
        refine ev_s (is_iload rfl rfl) ?_
        refine ev_s (is_iaload' (te_at G t p + i) rfl ((pu_T hC ht).2.1) rfl rfl (by omega) ((congrFun (hrow _ hsc _ (by omega)) _).trans ((t2 p i hp hi).trans (by rw [hce])))) ?_
        refine ev_s (is_bipush (nI 6) rfl rfl) ?_
        refine ev_s (is_ishr _ rfl (nI_shr6 (by decide))) ?_
        refine ev_s (st_istore_7 rfl rfl) ?_
        refine ev_s (is_iload rfl rfl) ?_
        refine ev_s (is_iconst (nI 2) rfl rfl) ?_
        refine ev_s (is_icmp_eq_f rfl (by decide)) ?_
        refine ev_s (is_iload rfl rfl) ?_
        refine ev_s (is_iconst (nI 3) rfl rfl) ?_
        refine ev_s (is_icmp_ne_t rfl (by decide)) ?_
        refine ev_s (is_iload rfl rfl) ?_
        refine ev_s (is_bipush (nI 9) rfl rfl) ?_
        refine ev_s (is_icmp_eq_t rfl rfl) ?_
        refine ev_s (is_iload rfl rfl) ?_
        refine ev_s (is_if_le_f rfl (nI_nle (n := st.length + 1) (by omega) (by omega))) ?_
        refine ev_s (is_aload_n rfl rfl) ?_
        refine ev_s (is_iload rfl rfl) ?_
        refine ev_s (is_iconst (nI 1) rfl rfl) ?_
        refine ev_s (is_isub (nI st.length) rfl (pk_sub (a := st.length + 1) (b := 1) (by omega))) ?_
        refine ev_s (is_iload rfl rfl) ?_
        refine ev_s (is_aload_n rfl rfl) ?_
        refine ev_s (is_iload rfl rfl) ?_
        refine ev_s (is_iconst (nI 1) rfl rfl) ?_
        refine ev_s (is_isub (nI st.length) rfl (pk_sub (a := st.length + 1) (b := 1) (by omega))) ?_
        refine ev_s (is_iaload' (st.length) rfl ((pu_R hC hR).2.2.1) rfl rfl hlb hta) ?_
        refine ev_c1 (is_call0 2 [_, _] [_, _] rfl rfl rfl rfl rfl (Nat.le_of_ble_eq_true rfl) rfl rfl rfl) rfl rfl (x_turnedN _) ?_
        refine ev_s (is_iastore (st.length) rfl ((pu_R hC hR).2.2.1) rfl rfl hlb) ?_
        refine ev_s (is_goto rfl) ?_
        refine ev_s (st_iinc_5 _ rfl rfl (nI_inc _)) ?_
        refine ev_s (is_goto rfl) ?_
        exact ih (i + 1) (pu_b (a = 0) :: st) _ _ _ rfl (by omega) (by simp at hdep ⊢; omega) hdr hol (hsc.u hbe) (hst.tail.push _)
      by_cases hDd : c = 19
      · subst hDd
        rw [if_neg hA, if_neg hB, if_pos (Or.inr rfl)] at hoc
        have hoc := of_decide_eq_true hoc
        rw [if_neg (by omega), if_pos (Or.inr rfl)] at hol
        match st, hoc, hst, hol with
        | a :: st, hoc, hst, hol =>
        have hta := hst.top
        have hlb : st.length < 32 := by
          have := hdep
          simp at this
          omega
        have hs : te_run nm (19 :: l) (a :: st) = te_run nm l ((-a) :: st) := rfl
        rw [hs]
        have hq3 : te_enc 19 < 2 ^ 31 := by decide
        refine ev_s (is_iload rfl rfl) ?_
        refine ev_s (is_aload_n rfl rfl) ?_
        refine ev_s (is_getR rfl (pu_T hC ht).1 rfl rfl (pu_T hC ht).2.2.2.2) ?_
        refine ev_s (is_iload_n rfl rfl) ?_
        refine ev_s (is_iaload' (p) rfl ((pu_T hC ht).2.2.1) rfl rfl (by omega) ((congrFun (hrow _ hsc _ (by omega)) _).trans (t1 p hp))) ?_
        refine ev_s (is_icmp_ge_f rfl (nI_ge (by omega) (by omega))) ?_
        refine ev_s (is_aload_n rfl rfl) ?_
        refine ev_s (is_getR rfl (pu_T hC ht).1 rfl rfl (pu_T hC ht).2.2.2.1) ?_
        refine ev_s (is_iload rfl rfl) ?_
        refine ev_s (is_iaload' (te_at G t p + i) rfl ((pu_T hC ht).2.1) rfl rfl (by omega) ((congrFun (hrow _ hsc _ (by omega)) _).trans ((t2 p i hp hi).trans (by rw [hce])))) ?_
        refine ev_s (is_bipush (nI 63) rfl rfl) ?_
        refine ev_s (is_iand (nI 10) rfl (nI_and63 (by decide))) ?_
        refine ev_s (st_istore_6 rfl rfl) ?_
        refine ev_s (is_aload_n rfl rfl) ?_
        refine ev_s (is_getR rfl (pu_T hC ht).1 rfl rfl (pu_T hC ht).2.2.2.1) ?_
        refine ev_s (is_iload rfl rfl) ?_
        refine ev_s (is_iaload' (te_at G t p + i) rfl ((pu_T hC ht).2.1) rfl rfl (by omega) ((congrFun (hrow _ hsc _ (by omega)) _).trans ((t2 p i hp hi).trans (by rw [hce])))) ?_
        refine ev_s (is_bipush (nI 6) rfl rfl) ?_
        refine ev_s (is_ishr _ rfl (nI_shr6 (by decide))) ?_
        refine ev_s (st_istore_7 rfl rfl) ?_
        refine ev_s (is_iload rfl rfl) ?_
        refine ev_s (is_iconst (nI 2) rfl rfl) ?_
        refine ev_s (is_icmp_eq_f rfl (by decide)) ?_
        refine ev_s (is_iload rfl rfl) ?_
        refine ev_s (is_iconst (nI 3) rfl rfl) ?_
        refine ev_s (is_icmp_ne_t rfl (by decide)) ?_
        refine ev_s (is_iload rfl rfl) ?_
        refine ev_s (is_bipush (nI 9) rfl rfl) ?_
        refine ev_s (is_icmp_eq_f rfl (by decide)) ?_
        refine ev_s (is_iload rfl rfl) ?_
        refine ev_s (is_bipush (nI 10) rfl rfl) ?_
        refine ev_s (is_icmp_ne_f rfl (fun q => q rfl)) ?_
        refine ev_s (is_iload rfl rfl) ?_
        refine ev_s (is_if_le_f rfl (nI_nle (n := st.length + 1) (by omega) (by omega))) ?_
        refine ev_s (is_aload_n rfl rfl) ?_
        refine ev_s (is_iload rfl rfl) ?_
        refine ev_s (is_iconst (nI 1) rfl rfl) ?_
        refine ev_s (is_isub (nI st.length) rfl (pk_sub (a := st.length + 1) (b := 1) (by omega))) ?_
        refine ev_s (is_iload rfl rfl) ?_
        refine ev_s (is_aload_n rfl rfl) ?_
        refine ev_s (is_iload rfl rfl) ?_
        refine ev_s (is_iconst (nI 1) rfl rfl) ?_
        refine ev_s (is_isub (nI st.length) rfl (pk_sub (a := st.length + 1) (b := 1) (by omega))) ?_
        refine ev_s (is_iaload' (st.length) rfl ((pu_R hC hR).2.2.1) rfl rfl hlb hta) ?_
        refine ev_c1 (is_call0 2 [_, _] [_, _] rfl rfl rfl rfl rfl (Nat.le_of_ble_eq_true rfl) rfl rfl rfl) rfl rfl (x_turnedM _) ?_
        refine ev_s (is_iastore (st.length) rfl ((pu_R hC hR).2.2.1) rfl rfl hlb) ?_
        refine ev_s (is_goto rfl) ?_
        refine ev_s (st_iinc_5 _ rfl rfl (nI_inc _)) ?_
        refine ev_s (is_goto rfl) ?_
        exact ih (i + 1) ((-a) :: st) _ _ _ rfl (by omega) (by simp at hdep ⊢; omega) hdr hol (hsc.u hbe) (hst.tail.push _)
      · rw [if_neg hA, if_neg hB, if_neg (by omega)] at hoc
        simp only [Bool.and_eq_true, decide_eq_true_eq] at hoc
        obtain ⟨hoc, hcc⟩ := hoc
        rw [if_neg (by omega), if_neg (by omega)] at hol
        match st, hoc, hst, hol with
        | b :: a :: st, hoc, hst, hol =>
        obtain ⟨hta, htb⟩ := hst.top2
        have hlb : st.length + 1 < 32 := by
          have := hdep
          simp at this
          omega
        have hs : te_run nm (c :: l) (b :: a :: st) = te_run nm l (te_two c a b :: st) := by show te_run nm l (te_step nm (b :: a :: st) c) = _; unfold te_step; rw [if_neg hA, if_neg hB, if_neg hCc, if_neg hDd]
        rw [hs]
        obtain ⟨q1, q2, q3, q4, q5, q6⟩ := te_enc_2 hcc
        refine ev_s (is_iload rfl rfl) ?_
        refine ev_s (is_aload_n rfl rfl) ?_
        refine ev_s (is_getR rfl (pu_T hC ht).1 rfl rfl (pu_T hC ht).2.2.2.2) ?_
        refine ev_s (is_iload_n rfl rfl) ?_
        refine ev_s (is_iaload' (p) rfl ((pu_T hC ht).2.2.1) rfl rfl (by omega) ((congrFun (hrow _ hsc _ (by omega)) _).trans (t1 p hp))) ?_
        refine ev_s (is_icmp_ge_f rfl (nI_ge (by omega) (by omega))) ?_
        refine ev_s (is_aload_n rfl rfl) ?_
        refine ev_s (is_getR rfl (pu_T hC ht).1 rfl rfl (pu_T hC ht).2.2.2.1) ?_
        refine ev_s (is_iload rfl rfl) ?_
        refine ev_s (is_iaload' (te_at G t p + i) rfl ((pu_T hC ht).2.1) rfl rfl (by omega) ((congrFun (hrow _ hsc _ (by omega)) _).trans ((t2 p i hp hi).trans (by rw [hce])))) ?_
        refine ev_s (is_bipush (nI 63) rfl rfl) ?_
        refine ev_s (is_iand (nI (te_enc c)) rfl ((nI_and63 (by omega)).trans (by rw [q1]))) ?_
        refine ev_s (st_istore_6 rfl rfl) ?_
        refine ev_s (is_aload_n rfl rfl) ?_
        refine ev_s (is_getR rfl (pu_T hC ht).1 rfl rfl (pu_T hC ht).2.2.2.1) ?_
        refine ev_s (is_iload rfl rfl) ?_
        refine ev_s (is_iaload' (te_at G t p + i) rfl ((pu_T hC ht).2.1) rfl rfl (by omega) ((congrFun (hrow _ hsc _ (by omega)) _).trans ((t2 p i hp hi).trans (by rw [hce])))) ?_
        refine ev_s (is_bipush (nI 6) rfl rfl) ?_
        refine ev_s (is_ishr (nI (te_enc c / 64)) rfl (nI_shr6 (by omega))) ?_
        refine ev_s (st_istore_7 rfl rfl) ?_
        refine ev_s (is_iload rfl rfl) ?_
        refine ev_s (is_iconst (nI 2) rfl rfl) ?_
        refine ev_s (is_icmp_eq_f rfl (fun q => absurd ((nI_eq (by omega) (by omega)).mp q) (by omega))) ?_
        refine ev_s (is_iload rfl rfl) ?_
        refine ev_s (is_iconst (nI 3) rfl rfl) ?_
        refine ev_s (is_icmp_ne_t rfl (fun q => absurd ((nI_eq (by omega) (by omega)).mp q) (by omega))) ?_
        refine ev_s (is_iload rfl rfl) ?_
        refine ev_s (is_bipush (nI 9) rfl rfl) ?_
        refine ev_s (is_icmp_eq_f rfl (fun q => absurd ((nI_eq (by omega) (by omega)).mp q) (by omega))) ?_
        refine ev_s (is_iload rfl rfl) ?_
        refine ev_s (is_bipush (nI 10) rfl rfl) ?_
        refine ev_s (is_icmp_ne_t rfl (fun q => absurd ((nI_eq (by omega) (by omega)).mp q) (by omega))) ?_
        refine ev_s (is_iload rfl rfl) ?_
        refine ev_s (is_iconst (nI 1) rfl rfl) ?_
        refine ev_s (is_icmp_le_f rfl (nI_nle2 (n := st.length + 2) (by omega) (by omega))) ?_
        refine ev_s (st_iinc_4 (nI (st.length + 1)) rfl rfl (pk_m1 (st.length + 1))) ?_
        refine ev_s (is_aload_n rfl rfl) ?_
        refine ev_s (is_iload rfl rfl) ?_
        refine ev_s (is_iconst (nI 1) rfl rfl) ?_
        refine ev_s (is_isub (nI st.length) rfl (pk_sub (a := st.length + 1) (b := 1) (by omega))) ?_
        refine ev_s (is_iload rfl rfl) ?_
        refine ev_s (is_aload_n rfl rfl) ?_
        refine ev_s (is_iload rfl rfl) ?_
        refine ev_s (is_iconst (nI 1) rfl rfl) ?_
        refine ev_s (is_isub (nI st.length) rfl (pk_sub (a := st.length + 1) (b := 1) (by omega))) ?_
        refine ev_s (is_iaload' (st.length) rfl ((pu_R hC hR).2.2.1) rfl rfl (by omega) hta) ?_
        refine ev_s (is_aload_n rfl rfl) ?_
        refine ev_s (is_iload rfl rfl) ?_
        refine ev_s (is_iaload' (st.length + 1) rfl ((pu_R hC hR).2.2.1) rfl rfl hlb htb) ?_
        refine ev_c1 (is_call0 3 [_, _, _] [_, _] rfl rfl rfl rfl rfl (Nat.le_of_ble_eq_true rfl) rfl rfl rfl) rfl rfl (x_joined hcc _ _) ?_
        refine ev_s (is_iastore (st.length) rfl ((pu_R hC hR).2.2.1) rfl rfl (by omega)) ?_
        refine ev_s (st_iinc_5 _ rfl rfl (nI_inc _)) ?_
        refine ev_s (is_goto rfl) ?_
        exact ih (i + 1) (te_two c a b :: st) _ _ _ rfl (by omega) (by simp at hdep ⊢; omega) hdr hol (hsc.u hbe) (hst.tail.tail.push _)
  by_cases h0 : p = 0
  · subst h0
    refine ev_s (is_iconst (nI 0) rfl rfl) ?_
    refine ev_s (st_istore_4 rfl rfl) ?_
    refine ev_s (is_iload_n rfl rfl) ?_
    refine ev_s (is_if_ne_f rfl (fun q => q rfl)) ?_
    refine ev_s (is_iconst (nI 0) rfl rfl) ?_
    refine ev_s (is_goto rfl) ?_
    refine ev_s (st_istore_5 rfl rfl) ?_
    exact loop (G t 0) 0 [] mi im_bad im_bad rfl (by omega) (by simp) rfl (t3 0 hp) sc_rf (fun j hj => absurd hj (Nat.not_lt_zero _))
  · refine ev_s (is_iconst (nI 0) rfl rfl) ?_
    refine ev_s (st_istore_4 rfl rfl) ?_
    refine ev_s (is_iload_n rfl rfl) ?_
    refine ev_s (is_if_ne_t rfl (fun q => absurd ((nI_eq (b := 0) (by omega) (by decide)).mp q) h0)) ?_
    refine ev_s (is_aload_n rfl rfl) ?_
    refine ev_s (is_getR rfl (pu_T hC ht).1 rfl rfl (pu_T hC ht).2.2.2.2) ?_
    refine ev_s (is_iload_n rfl rfl) ?_
    refine ev_s (is_iconst (nI 1) rfl rfl) ?_
    first
      | refine ev_s (is_isub _ rfl (pk_sub (by omega))) ?_
      | refine ev_s (is_isub _ rfl rfl) ?_
    refine ev_s (is_iaload' (p - 1) rfl ((pu_T hC ht).2.2.1) rfl rfl (by omega) (((t1 (p - 1) (by omega)).trans (by rw [show p - 1 + 1 = p by omega])))) ?_
    refine ev_s (st_istore_5 rfl rfl) ?_
    exact loop (G t p) 0 [] mi im_bad im_bad rfl (by omega) (by simp) rfl (t3 p hp) sc_rf (fun j hj => absurd hj (Nat.not_lt_zero _))
