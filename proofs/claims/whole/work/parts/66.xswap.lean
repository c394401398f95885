/-! ===== PURE, the class: pairs, swap ===== -/

theorem x_all2 {d : Nat} {sh : im_Sh} {mi : im_MI} {mr : im_MR} (hC : pu_C sh mr) {H : ho_T} {G : ho_G} (hx : xa_ok H G mi mr) : EvM (d + 6) 77 [.ref 29] sh mi mr (fun r sh2 m2 r2 => sh2 = sh ∧ (r = .int (nI (ho_all H G)) ∧ r2 = mr ∧ sc_ (xS 104) mi m2)) := by
  show Ev (d + 6) 77 0 [.ref 29, im_bad, im_bad] [] sh mi mr _
  have hn6 := xa_n hx
  have loop : ∀ (j i : Nat) (ma : im_MI), i + j = H 0 0 → sc_ (xS 104) mi ma → Ev (d + 6) 77 4 [.ref 29, .int (nI (lo_sum (fun m => ho_day H G m) i)), .int (nI i)] [] sh ma mr (fun r sh2 m2 r2 => sh2 = sh ∧ (r = .int (nI (ho_all H G)) ∧ r2 = mr ∧ sc_ (xS 104) mi m2)) := by
    intro j
    induction j with
    | zero =>
      intro i ma hi hs
      have hx := xa_sc hx (hs.mono (xS_xQ (Or.inl rfl)))
      refine ev_s (is_iload_n rfl rfl) ?_
      refine ev_s (is_aload_n rfl rfl) ?_
      refine ev_s (is_getI' rfl (pu_s hC 29 rfl rfl) rfl rfl hx.1) ?_
      refine ev_s (is_icmp_ge_t rfl (nI_le (by omega) (by omega))) ?_
      refine ev_s (is_iload_n rfl rfl) ?_
      refine ev_ret (is_ireturn rfl rfl (by first | rfl | exact pu_b_nar | decide)) ?_
      exact ⟨rfl, by rw [show i = H 0 0 by omega]; rfl, rfl, hs⟩
    | succ j ih =>
      intro i ma hi hs
      have hx := xa_sc hx (hs.mono (xS_xQ (Or.inl rfl)))
      refine ev_s (is_iload_n rfl rfl) ?_
      refine ev_s (is_aload_n rfl rfl) ?_
      refine ev_s (is_getI' rfl (pu_s hC 29 rfl rfl) rfl rfl hx.1) ?_
      refine ev_s (is_icmp_ge_f rfl (nI_ge (by omega) (by omega))) ?_
      refine ev_s (is_iload_n rfl rfl) ?_
      refine ev_s (is_aload_n rfl rfl) ?_
      refine ev_s (is_getR rfl (pu_s hC 29 rfl rfl) rfl rfl (pu_r hC 29 3 rfl rfl)) ?_
      refine ev_s (is_aload_n rfl rfl) ?_
      refine ev_s (is_getR rfl (pu_s hC 29 rfl rfl) rfl rfl (pu_r hC 29 0 rfl rfl)) ?_
      refine ev_s (is_iload_n rfl rfl) ?_
      refine ev_s (is_aaload (k := 1) (i) rfl (pu_s hC 30 rfl rfl) rfl rfl rfl (by omega) (pu_rows hC (by omega)).1) ?_
      refine ev_s (is_aload_n rfl rfl) ?_
      refine ev_s (is_iload_n rfl rfl) ?_
      refine ev_c1 (is_callR 2 [_] [_, _, _] rfl rfl rfl rfl rfl (Nat.le_of_ble_eq_true rfl) rfl rfl rfl (pu_s hC 29 rfl rfl)) rfl rfl (x_mate hC hx (by omega)) ?_
      refine ev_q1 (is_callR 3 [_, _] [_] rfl rfl rfl rfl rfl (Nat.le_of_ble_eq_true rfl) rfl rfl rfl (pu_s hC 104 rfl rfl)) rfl (by cases ho_mcell H i <;> rfl) (x_dayO hC (xa_r hx) (xm_Mi (m := i) (by omega)) (xa_m hx (by omega)) (xa_mate hx i)) (fun r_28 mi mr hq_28 => ?_)
      obtain ⟨rfl, hmr, hsc⟩ := hq_28
      have hmr := hmr.symm
      subst hmr
      have hs := hs.trans hsc
      rw [← ho_day_md]
      first
        | refine ev_s (is_iadd _ rfl (nI_add _ _)) ?_
        | refine ev_s (is_iadd _ rfl rfl) ?_
      refine ev_s (st_istore_n_1 rfl rfl) ?_
      refine ev_s (st_iinc_2 _ rfl rfl (nI_inc _)) ?_
      refine ev_s (is_goto rfl) ?_
      exact ih (i + 1) _ (by omega) hs
  refine ev_s (is_iconst (nI 0) rfl rfl) ?_
  refine ev_s (st_istore_n_1 rfl rfl) ?_
  refine ev_s (is_iconst (nI 0) rfl rfl) ?_
  refine ev_s (st_istore_n_2 rfl rfl) ?_
  exact loop (H 0 0) 0 mi (by omega) sc_rf

/-- the pairs ahead of (a, b) are weighed -/
def pk_ok (H : ho_T) (G : ho_G) (mi : im_MI) (a b : Nat) : Prop := ∀ x y, x < y → y < H 0 0 → (x < a ∨ (x = a ∧ y < b)) → mi 37 (x * 6 + y) = nI (pw_ H G x y) ∧ mi 37 (y * 6 + x) = nI (pw_ H G x y)
theorem pk_row {H : ho_T} {G : ho_G} {mi m2 : im_MI} {a b : Nat} (h : pk_ok H G mi a b) (e : m2 37 = mi 37) : pk_ok H G m2 a b := fun x y h1 h2 h3 => by rw [e]; exact h x y h1 h2 h3
theorem pk_put {H : ho_T} {G : ho_G} {mi : im_MI} {a b : Nat} (h : pk_ok H G mi a b) (hn : H 0 0 ≤ 6) (ha : a < b) (hb : b < H 0 0) : pk_ok H G (im_u (im_u mi 37 (a * 6 + b) (nI (pw_ H G a b))) 37 (b * 6 + a) (nI (pw_ H G a b))) a (b + 1) := by
  intro x y h1 h2 h3
  by_cases hq : x = a ∧ y = b
  · obtain ⟨rfl, rfl⟩ := hq
    exact ⟨by rw [im_u_j _ _ _ _ (by omega), im_u_s], im_u_s _ _ _ _⟩
  · have h4 := h x y h1 h2 (by omega)
    rw [im_u_j _ _ _ _ (by omega), im_u_j _ _ _ _ (by omega), im_u_j _ _ _ _ (by omega), im_u_j _ _ _ _ (by omega)]
    exact h4
theorem pk_at {H : ho_T} {G : ho_G} {mi : im_MI} (h : pk_ok H G mi (H 0 0) 0) {x y : Nat} (hx : x < H 0 0) (hy : y < H 0 0) (hne : x ≠ y) : mi 37 (x * 6 + y) = nI (pw_ H G x y) := by
  rcases Nat.lt_or_gt_of_ne hne with q | q
  · exact (h x y q hy (Or.inl hx)).1
  · rw [pw_sym]; exact (h y x q hx (Or.inl hy)).2

theorem x_weigh {d : Nat} {sh : im_Sh} {mi : im_MI} {mr : im_MR} (hC : pu_C sh mr) {H : ho_T} {G : ho_G} (hx : xa_ok H G mi mr) : EvM (d + 6) 11 [.ref 36, .ref 30, .int (nI (H 0 0)), .ref 104] sh mi mr (fun r sh2 m2 r2 => sh2 = sh ∧ (r2 = mr ∧ sc_ xQ mi m2 ∧ m2 36 1 = nI (H 0 0) ∧ pk_ok H G m2 (H 0 0) 0)) := by
  show Ev (d + 6) 11 0 [.ref 36, .ref 30, .int (nI (H 0 0)), .ref 104, im_bad, im_bad, im_bad] [] sh mi mr _
  have hn6 := xa_n hx
  have inner : ∀ (a : Nat), a < H 0 0 → ∀ (w6 : Value) (ma : im_MI), xa_ok H G ma mr → sc_ xQ mi ma → ma 36 1 = nI (H 0 0) → pk_ok H G ma a (a + 1) → (∀ (w6 : Value) (ma : im_MI), xa_ok H G ma mr → sc_ xQ mi ma → ma 36 1 = nI (H 0 0) → pk_ok H G ma a (H 0 0) → Ev (d + 6) 11 100 [.ref 36, .ref 30, .int (nI (H 0 0)), .ref 104, .int (nI a), .int (nI (H 0 0)), w6] [] sh ma mr (fun r sh2 m2 r2 => sh2 = sh ∧ (r2 = mr ∧ sc_ xQ mi m2 ∧ m2 36 1 = nI (H 0 0) ∧ pk_ok H G m2 (H 0 0) 0))) → Ev (d + 6) 11 28 [.ref 36, .ref 30, .int (nI (H 0 0)), .ref 104, .int (nI a), .int (nI (a + 1)), w6] [] sh ma mr (fun r sh2 m2 r2 => sh2 = sh ∧ (r2 = mr ∧ sc_ xQ mi m2 ∧ m2 36 1 = nI (H 0 0) ∧ pk_ok H G m2 (H 0 0) 0)) := by
    intro a ha w6 ma hx hs h36 hpk hk
    have loop : ∀ (j i : Nat) (w6 : Value) (ma : im_MI), i + j = H 0 0 → a < i → xa_ok H G ma mr → sc_ xQ mi ma → ma 36 1 = nI (H 0 0) → pk_ok H G ma a i → (∀ (w6 : Value) (ma : im_MI), xa_ok H G ma mr → sc_ xQ mi ma → ma 36 1 = nI (H 0 0) → pk_ok H G ma a (H 0 0) → Ev (d + 6) 11 100 [.ref 36, .ref 30, .int (nI (H 0 0)), .ref 104, .int (nI a), .int (nI (H 0 0)), w6] [] sh ma mr (fun r sh2 m2 r2 => sh2 = sh ∧ (r2 = mr ∧ sc_ xQ mi m2 ∧ m2 36 1 = nI (H 0 0) ∧ pk_ok H G m2 (H 0 0) 0))) → Ev (d + 6) 11 28 [.ref 36, .ref 30, .int (nI (H 0 0)), .ref 104, .int (nI a), .int (nI i), w6] [] sh ma mr (fun r sh2 m2 r2 => sh2 = sh ∧ (r2 = mr ∧ sc_ xQ mi m2 ∧ m2 36 1 = nI (H 0 0) ∧ pk_ok H G m2 (H 0 0) 0)) := by
      intro j
      induction j with
      | zero =>
        intro i w6 ma hi hai hx hs h36 hpk hk
        refine ev_s (is_iload rfl rfl) ?_
        refine ev_s (is_aload_n rfl rfl) ?_
        refine ev_s (is_getI' rfl (pu_s hC 36 rfl rfl) rfl rfl h36) ?_
        refine ev_s (is_icmp_ge_t rfl (nI_le (by omega) (by omega))) ?_
        have h6 : i = H 0 0 := by omega
        subst h6
        exact hk _ _ hx hs h36 hpk
      | succ j ih =>
        intro i w6 ma hi hai hx hs h36 hpk hk
        refine ev_s (is_iload rfl rfl) ?_
        refine ev_s (is_aload_n rfl rfl) ?_
        refine ev_s (is_getI' rfl (pu_s hC 36 rfl rfl) rfl rfl h36) ?_
        refine ev_s (is_icmp_ge_f rfl (nI_ge (by omega) (by omega))) ?_
        refine ev_s (is_aload_n rfl rfl) ?_
        refine ev_s (is_aload_n rfl rfl) ?_
        refine ev_s (is_iload rfl rfl) ?_
        refine ev_s (is_aaload (k := 1) (a) rfl (pu_s hC 30 rfl rfl) rfl rfl rfl (by omega) (pu_rows hC (by omega)).1) ?_
        refine ev_s (is_aload_n rfl rfl) ?_
        refine ev_s (is_iload rfl rfl) ?_
        refine ev_s (is_aaload (k := 1) (i) rfl (pu_s hC 30 rfl rfl) rfl rfl rfl (by omega) (pu_rows hC (by omega)).1) ?_
        refine ev_q1 (is_callR 3 [_, _] [] rfl rfl rfl rfl rfl (Nat.le_of_ble_eq_true rfl) rfl rfl rfl (pu_s hC 104 rfl rfl)) rfl rfl (x_day hC (xa_r hx) (xm_Mi (m := a) (by omega)) (xa_m hx (by omega)) (xm_Mi (m := i) (by omega)) (xa_m hx (by omega))) (fun r_46 mi mr hq_46 => ?_)
        obtain ⟨rfl, hmr, hsc⟩ := hq_46
        have hmr := hmr.symm
        subst hmr
        have h36 := (congrFun (hsc 36 (xS_f (by decide) (by decide))) 1).trans h36
        have hpk := pk_row hpk (hsc 37 (xS_f (by decide) (by decide)))
        have hsc := hsc.mono (xS_xQ (Or.inl rfl))
        have hs := hs.trans hsc
        have hx := xa_sc hx hsc
        refine ev_s (is_aload_n rfl rfl) ?_
        refine ev_s (is_aload_n rfl rfl) ?_
        refine ev_s (is_iload rfl rfl) ?_
        refine ev_s (is_aaload (k := 1) (i) rfl (pu_s hC 30 rfl rfl) rfl rfl rfl (by omega) (pu_rows hC (by omega)).1) ?_
        refine ev_s (is_aload_n rfl rfl) ?_
        refine ev_s (is_iload rfl rfl) ?_
        refine ev_s (is_aaload (k := 1) (a) rfl (pu_s hC 30 rfl rfl) rfl rfl rfl (by omega) (pu_rows hC (by omega)).1) ?_
        refine ev_q1 (is_callR 3 [_, _] [_] rfl rfl rfl rfl rfl (Nat.le_of_ble_eq_true rfl) rfl rfl rfl (pu_s hC 104 rfl rfl)) rfl rfl (x_day hC (xa_r hx) (xm_Mi (m := i) (by omega)) (xa_m hx (by omega)) (xm_Mi (m := a) (by omega)) (xa_m hx (by omega))) (fun r_58 mi mr hq_58 => ?_)
        obtain ⟨rfl, hmr, hsc⟩ := hq_58
        have hmr := hmr.symm
        subst hmr
        have h36 := (congrFun (hsc 36 (xS_f (by decide) (by decide))) 1).trans h36
        have hpk := pk_row hpk (hsc 37 (xS_f (by decide) (by decide)))
        have hsc := hsc.mono (xS_xQ (Or.inl rfl))
        have hs := hs.trans hsc
        have hx := xa_sc hx hsc
        first
          | refine ev_s (is_iadd _ rfl (nI_add _ _)) ?_
          | refine ev_s (is_iadd _ rfl rfl) ?_
        refine ev_s (st_istore_6 rfl rfl) ?_
        refine ev_s (is_aload_n rfl rfl) ?_
        refine ev_s (is_getR rfl (pu_s hC 36 rfl rfl) rfl rfl (pu_r hC 36 0 rfl rfl)) ?_
        refine ev_s (is_iload rfl rfl) ?_
        refine ev_s (is_bipush (nI 6) rfl rfl) ?_
        first
          | refine ev_s (is_imul _ rfl (pk_mul _ _)) ?_
          | refine ev_s (is_imul _ rfl rfl) ?_
        refine ev_s (is_iload rfl rfl) ?_
        first
          | refine ev_s (is_iadd _ rfl (nI_add _ _)) ?_
          | refine ev_s (is_iadd _ rfl rfl) ?_
        refine ev_s (is_iload rfl rfl) ?_
        refine ev_s (is_iastore (a * 6 + i) rfl (pu_s hC 37 rfl rfl) rfl rfl (by omega)) ?_
        refine ev_s (is_aload_n rfl rfl) ?_
        refine ev_s (is_getR rfl (pu_s hC 36 rfl rfl) rfl rfl (pu_r hC 36 0 rfl rfl)) ?_
        refine ev_s (is_iload rfl rfl) ?_
        refine ev_s (is_bipush (nI 6) rfl rfl) ?_
        first
          | refine ev_s (is_imul _ rfl (pk_mul _ _)) ?_
          | refine ev_s (is_imul _ rfl rfl) ?_
        refine ev_s (is_iload rfl rfl) ?_
        first
          | refine ev_s (is_iadd _ rfl (nI_add _ _)) ?_
          | refine ev_s (is_iadd _ rfl rfl) ?_
        refine ev_s (is_iload rfl rfl) ?_
        refine ev_s (is_iastore (i * 6 + a) rfl (pu_s hC 37 rfl rfl) rfl rfl (by omega)) ?_
        refine ev_s (st_iinc_5 _ rfl rfl (nI_inc _)) ?_
        refine ev_s (is_goto rfl) ?_
        have hs3 : sc_ xQ mi (im_u (im_u mi 37 (a * 6 + i) (nI (pw_ H G a i))) 37 (i * 6 + a) (nI (pw_ H G a i))) := (sc_rf.u (xQ_t (by decide))).u (xQ_t (by decide))
        exact ih (i + 1) _ _ (by omega) (by omega) (xa_sc hx hs3) (hs.trans hs3) (by rw [im_u_k _ _ _ _ (by decide), im_u_k _ _ _ _ (by decide)]; exact h36) (pk_put hpk hn6 (by omega) (by omega)) hk
    exact loop (H 0 0 - (a + 1)) (a + 1) w6 ma (by omega) (by omega) hx hs h36 hpk hk
  have outer : ∀ (j a : Nat) (w5 w6 : Value) (ma : im_MI), a + j = H 0 0 → xa_ok H G ma mr → sc_ xQ mi ma → ma 36 1 = nI (H 0 0) → pk_ok H G ma a 0 → Ev (d + 6) 11 13 [.ref 36, .ref 30, .int (nI (H 0 0)), .ref 104, .int (nI a), w5, w6] [] sh ma mr (fun r sh2 m2 r2 => sh2 = sh ∧ (r2 = mr ∧ sc_ xQ mi m2 ∧ m2 36 1 = nI (H 0 0) ∧ pk_ok H G m2 (H 0 0) 0)) := by
    intro j
    induction j with
    | zero =>
      intro a w5 w6 ma hi hx hs h36 hpk
      refine ev_s (is_iload rfl rfl) ?_
      refine ev_s (is_aload_n rfl rfl) ?_
      refine ev_s (is_getI' rfl (pu_s hC 36 rfl rfl) rfl rfl h36) ?_
      refine ev_s (is_icmp_ge_t rfl (nI_le (by omega) (by omega))) ?_
      refine ev_ret (is_return rfl) ?_
      exact ⟨rfl, rfl, hs, h36, fun x y h1 h2 h3 => hpk x y h1 h2 (by omega)⟩
    | succ j ih =>
      intro a w5 w6 ma hi hx hs h36 hpk
      refine ev_s (is_iload rfl rfl) ?_
      refine ev_s (is_aload_n rfl rfl) ?_
      refine ev_s (is_getI' rfl (pu_s hC 36 rfl rfl) rfl rfl h36) ?_
      refine ev_s (is_icmp_ge_f rfl (nI_ge (by omega) (by omega))) ?_
      refine ev_s (is_iload rfl rfl) ?_
      refine ev_s (is_iconst (nI 1) rfl rfl) ?_
      first
        | refine ev_s (is_iadd _ rfl (nI_add _ _)) ?_
        | refine ev_s (is_iadd _ rfl rfl) ?_
      refine ev_s (st_istore_5 rfl rfl) ?_
      refine inner a (by omega) _ _ hx hs h36 (fun x y h1 h2 h3 => hpk x y h1 h2 (by omega)) (fun w6 ma hx hs h36 hpk => ?_)
      refine ev_s (st_iinc_4 _ rfl rfl (nI_inc _)) ?_
      refine ev_s (is_goto rfl) ?_
      exact ih (a + 1) _ _ _ (by omega) hx hs h36 (fun x y h1 h2 h3 => hpk x y h1 h2 (by omega))
  refine ev_s (is_aload_n rfl rfl) ?_
  refine ev_s (is_iload_n rfl rfl) ?_
  refine ev_s (is_bipush (nI 6) rfl rfl) ?_
  refine ev_c1 (is_call0 2 [_, _] [_] rfl rfl rfl rfl rfl (Nat.le_of_ble_eq_true rfl) rfl rfl rfl) rfl rfl (x_min _ _) ?_
  rw [if_neg (nI_nlt (a := 6) (b := H 0 0) hn6 (by decide))]
  refine ev_s (is_putI rfl (pu_s hC 36 rfl rfl) rfl rfl rfl) ?_
  refine ev_s (is_iconst (nI 0) rfl rfl) ?_
  refine ev_s (st_istore_4 rfl rfl) ?_
  have hs3 : sc_ xQ mi (im_u mi 36 1 (nI (H 0 0))) := sc_rf.u (xQ_t (by decide))
  exact outer (H 0 0) 0 _ _ _ (by omega) (xa_sc hx hs3) hs3 (im_u_s _ _ _ _) (fun x y h1 h2 h3 => by omega)

theorem x_daysOf {d : Nat} {sh : im_Sh} {mi : im_MI} {mr : im_MR} (hC : pu_C sh mr) {n x y v : Nat} (hn : n ≤ 6) (hx : x < n) (hy : y < n) (h36 : mi 36 1 = nI n) (hv : mi 37 (x * 6 + y) = nI v) : EvM (d + 1) 12 [.ref 36, .int (nI x), .int (nI y)] sh mi mr (ev_R sh (.int (nI v)) mi mr) := by
  show Ev (d + 1) 12 0 [.ref 36, .int (nI x), .int (nI y)] [] sh mi mr _
  refine ev_s (is_iload_n rfl rfl) ?_
  refine ev_s (is_iconst (nI 0) rfl rfl) ?_
  refine ev_s (is_aload_n rfl rfl) ?_
  refine ev_s (is_getI' rfl (pu_s hC 36 rfl rfl) rfl rfl h36) ?_
  refine ev_s (is_iconst (nI 1) rfl rfl) ?_
  first
    | refine ev_s (is_isub _ rfl (pk_sub (by omega))) ?_
    | refine ev_s (is_isub _ rfl rfl) ?_
  refine ev_c1 (is_call0 3 [_, _, _] [] rfl rfl rfl rfl rfl (Nat.le_of_ble_eq_true rfl) rfl rfl rfl) rfl rfl (x_within' _ _ _) ?_
  refine ev_s (is_if_eq_f rfl (pu_b_1 (ho_rng_t (Nat.zero_le _) (by omega) (by omega)))) ?_
  refine ev_s (is_iload_n rfl rfl) ?_
  refine ev_s (is_iconst (nI 0) rfl rfl) ?_
  refine ev_s (is_aload_n rfl rfl) ?_
  refine ev_s (is_getI' rfl (pu_s hC 36 rfl rfl) rfl rfl h36) ?_
  refine ev_s (is_iconst (nI 1) rfl rfl) ?_
  first
    | refine ev_s (is_isub _ rfl (pk_sub (by omega))) ?_
    | refine ev_s (is_isub _ rfl rfl) ?_
  refine ev_c1 (is_call0 3 [_, _, _] [] rfl rfl rfl rfl rfl (Nat.le_of_ble_eq_true rfl) rfl rfl rfl) rfl rfl (x_within' _ _ _) ?_
  refine ev_s (is_if_ne_t rfl (pu_b_1 (ho_rng_t (Nat.zero_le _) (by omega) (by omega)))) ?_
  refine ev_s (is_aload_n rfl rfl) ?_
  refine ev_s (is_getR rfl (pu_s hC 36 rfl rfl) rfl rfl (pu_r hC 36 0 rfl rfl)) ?_
  refine ev_s (is_iload_n rfl rfl) ?_
  refine ev_s (is_bipush (nI 6) rfl rfl) ?_
  first
    | refine ev_s (is_imul _ rfl (pk_mul _ _)) ?_
    | refine ev_s (is_imul _ rfl rfl) ?_
  refine ev_s (is_iload_n rfl rfl) ?_
  first
    | refine ev_s (is_iadd _ rfl (nI_add _ _)) ?_
    | refine ev_s (is_iadd _ rfl rfl) ?_
  refine ev_s (is_iaload' (x * 6 + y) rfl (pu_s hC 37 rfl rfl) rfl rfl (by omega) hv) ?_
  refine ev_ret (is_ireturn rfl rfl (by first | rfl | exact pu_b_nar | decide)) ?_
  exact ⟨rfl, rfl, rfl, rfl⟩

theorem x_plSw {d : Nat} {sh : im_Sh} {mi : im_MI} {mr : im_MR} (hC : pu_C sh mr) {H : ho_T} {G : ho_G} (hx : xa_ok H G mi mr) {m a b : Nat} (hm : m < H 0 0) (ha : a < H 0 0) (hb : b < H 0 0) (hab : a < b) : EvM (d) 118 [.ref 29, .int (nI m), .int (nI a), .int (nI b)] sh mi mr (ev_R sh (.int (nI (st_swap H a b (10 + m) 13))) mi mr) := by
  show Ev (d) 118 0 [.ref 29, .int (nI m), .int (nI a), .int (nI b)] [] sh mi mr _
  have hn6 := xa_n hx
  have hs : sc_ xQ mi mi := sc_rf
  refine ev_s (is_iload_n rfl rfl) ?_
  refine ev_s (is_iload_n rfl rfl) ?_
  refine ev_icmpN_ne rfl (by omega) (by omega) (fun h_2 => ?_) (fun h_2 => ?_)
  · refine ev_s (is_iload_n rfl rfl) ?_
    refine ev_s (is_iload_n rfl rfl) ?_
    refine ev_icmpN_ne rfl (by omega) (by omega) (fun h_17 => ?_) (fun h_17 => ?_)
    · refine ev_s (is_aload_n rfl rfl) ?_
      refine ev_s (is_getR rfl (pu_s hC 29 rfl rfl) rfl rfl (pu_r hC 29 0 rfl rfl)) ?_
      refine ev_s (is_iload_n rfl rfl) ?_
      refine ev_s (is_aaload (k := 1) (m) rfl (pu_s hC 30 rfl rfl) rfl rfl rfl (by omega) (pu_rows hC (by omega)).1) ?_
      refine ev_s (is_getI' rfl (pu_M hC (xm_Mi (m := m) (by omega))).1 rfl rfl (xa_pl hx hm)) ?_
      refine ev_ret (is_ireturn rfl rfl (by first | rfl | exact pu_b_nar | decide)) ?_
      refine ⟨?_, rfl, rfl, rfl⟩
      rw [st_swap_at]
      first
        | rw [if_neg h_17, if_neg h_2]
        | rw [if_pos h_17]
        | rw [if_neg (show ¬ m = b by omega), if_pos h_2]
    · refine ev_s (is_aload_n rfl rfl) ?_
      refine ev_s (is_getR rfl (pu_s hC 29 rfl rfl) rfl rfl (pu_r hC 29 0 rfl rfl)) ?_
      refine ev_s (is_iload_n rfl rfl) ?_
      refine ev_s (is_aaload (k := 1) (a) rfl (pu_s hC 30 rfl rfl) rfl rfl rfl (by omega) (pu_rows hC (by omega)).1) ?_
      refine ev_s (is_getI' rfl (pu_M hC (xm_Mi (m := a) (by omega))).1 rfl rfl (xa_pl hx ha)) ?_
      refine ev_s (is_goto rfl) ?_
      refine ev_ret (is_ireturn rfl rfl (by first | rfl | exact pu_b_nar | decide)) ?_
      refine ⟨?_, rfl, rfl, rfl⟩
      rw [st_swap_at]
      first
        | rw [if_neg h_17, if_neg h_2]
        | rw [if_pos h_17]
        | rw [if_neg (show ¬ m = b by omega), if_pos h_2]
  · refine ev_s (is_aload_n rfl rfl) ?_
    refine ev_s (is_getR rfl (pu_s hC 29 rfl rfl) rfl rfl (pu_r hC 29 0 rfl rfl)) ?_
    refine ev_s (is_iload_n rfl rfl) ?_
    refine ev_s (is_aaload (k := 1) (b) rfl (pu_s hC 30 rfl rfl) rfl rfl rfl (by omega) (pu_rows hC (by omega)).1) ?_
    refine ev_s (is_getI' rfl (pu_M hC (xm_Mi (m := b) (by omega))).1 rfl rfl (xa_pl hx hb)) ?_
    refine ev_ret (is_ireturn rfl rfl (by first | rfl | exact pu_b_nar | decide)) ?_
    refine ⟨?_, rfl, rfl, rfl⟩
    rw [st_swap_at]
    first
      | rw [if_neg h_17, if_neg h_2]
      | rw [if_pos h_17]
      | rw [if_neg (show ¬ m = b by omega), if_pos h_2]

theorem x_allSw {d : Nat} {sh : im_Sh} {mi : im_MI} {mr : im_MR} (hC : pu_C sh mr) {H : ho_T} {G : ho_G} (hx : xa_ok H G mi mr) {a b : Nat} (ha : a < H 0 0) (hb : b < H 0 0) (hab : a < b) (h36 : mi 36 1 = nI (H 0 0)) (hpk : pk_ok H G mi (H 0 0) 0) : EvM (d + 2) 117 [.ref 29, .int (nI a), .int (nI b)] sh mi mr (ev_R sh (.int (nI (pa_all H (st_swap H a b) G))) mi mr) := by
  show Ev (d + 2) 117 0 [.ref 29, .int (nI a), .int (nI b), im_bad, im_bad, im_bad] [] sh mi mr _
  have hn6 := xa_n hx
  have hpb : ∀ q, (st_swap H a b) (10 + q) 13 < 1000 := fun q => (ho_bd_swap (xa_bd hx) a b).2.2.2.2.2.2.2.2.2 q
  have inner : ∀ (q : Nat), q < H 0 0 → Ev (d + 2) 117 70 [.ref 29, .int (nI a), .int (nI b), .int (nI ((lo_sum (fun i => lo_sum (fun j => pa_t H (st_swap H a b) G i j) (H 0 0)) q) + (lo_sum (fun j => pa_t H (st_swap H a b) G q j) (H 0 0)))), .int (nI q), .int (nI (H 0 0))] [] sh mi mr (ev_R sh (.int (nI (pa_all H (st_swap H a b) G))) mi mr) → Ev (d + 2) 117 20 [.ref 29, .int (nI a), .int (nI b), .int (nI ((lo_sum (fun i => lo_sum (fun j => pa_t H (st_swap H a b) G i j) (H 0 0)) q) + (lo_sum (fun j => pa_t H (st_swap H a b) G q j) (q + 1)))), .int (nI q), .int (nI (q + 1))] [] sh mi mr (ev_R sh (.int (nI (pa_all H (st_swap H a b) G))) mi mr) := by
    intro q hq hk
    have loop : ∀ (j i : Nat), i + j = H 0 0 → q < i → Ev (d + 2) 117 70 [.ref 29, .int (nI a), .int (nI b), .int (nI ((lo_sum (fun i => lo_sum (fun j => pa_t H (st_swap H a b) G i j) (H 0 0)) q) + (lo_sum (fun j => pa_t H (st_swap H a b) G q j) (H 0 0)))), .int (nI q), .int (nI (H 0 0))] [] sh mi mr (ev_R sh (.int (nI (pa_all H (st_swap H a b) G))) mi mr) → Ev (d + 2) 117 20 [.ref 29, .int (nI a), .int (nI b), .int (nI ((lo_sum (fun i => lo_sum (fun j => pa_t H (st_swap H a b) G i j) (H 0 0)) q) + (lo_sum (fun j => pa_t H (st_swap H a b) G q j) i))), .int (nI q), .int (nI i)] [] sh mi mr (ev_R sh (.int (nI (pa_all H (st_swap H a b) G))) mi mr) := by
      intro j
      induction j with
      | zero =>
        intro i  hi hqi hk
        refine ev_s (is_iload rfl rfl) ?_
        refine ev_s (is_aload_n rfl rfl) ?_
        refine ev_s (is_getI' rfl (pu_s hC 29 rfl rfl) rfl rfl hx.1) ?_
        refine ev_s (is_icmp_ge_t rfl (nI_le (by omega) (by omega))) ?_
        have h6 : i = H 0 0 := by omega
        subst h6
        exact hk
      | succ j ih =>
        intro i  hi hqi hk
        refine ev_s (is_iload rfl rfl) ?_
        refine ev_s (is_aload_n rfl rfl) ?_
        refine ev_s (is_getI' rfl (pu_s hC 29 rfl rfl) rfl rfl hx.1) ?_
        refine ev_s (is_icmp_ge_f rfl (nI_ge (by omega) (by omega))) ?_
        refine ev_s (is_aload_n rfl rfl) ?_
        refine ev_s (is_iload rfl rfl) ?_
        refine ev_s (is_iload_n rfl rfl) ?_
        refine ev_s (is_iload_n rfl rfl) ?_
        refine ev_c1 (is_callR 4 [_, _, _] [] rfl rfl rfl rfl rfl (Nat.le_of_ble_eq_true rfl) rfl rfl rfl (pu_s hC 29 rfl rfl)) rfl rfl (x_plSw hC hx (m := q) (by omega) ha hb hab) ?_
        refine ev_s (is_aload_n rfl rfl) ?_
        refine ev_s (is_iload rfl rfl) ?_
        refine ev_s (is_iload_n rfl rfl) ?_
        refine ev_s (is_iload_n rfl rfl) ?_
        refine ev_c1 (is_callR 4 [_, _, _] [_] rfl rfl rfl rfl rfl (Nat.le_of_ble_eq_true rfl) rfl rfl rfl (pu_s hC 29 rfl rfl)) rfl rfl (x_plSw hC hx (m := i) (by omega) ha hb hab) ?_
        refine ev_s (is_iconst (nI 1) rfl rfl) ?_
        refine ev_s (is_ixor _ rfl (nI_xor _ _)) ?_
        have hb1 := hpb q
        have hb2 := hpb i
        have hxl : (st_swap H a b) (10 + i) 13 ^^^ 1 < 2 ^ 10 := Nat.xor_lt_two_pow (by omega) (by decide)
        refine ev_icmpN_ne rfl (by omega) (by omega) (fun h_47 => ?_) (fun h_47 => ?_)
        · have hpt : lo_sum (fun j => pa_t H (st_swap H a b) G q j) (i + 1) = lo_sum (fun j => pa_t H (st_swap H a b) G q j) i + 0 := by rw [lo_sum_s]; congr 1; unfold pa_t; rw [if_neg (fun z => h_47 z.2)]
          refine ev_s (st_iinc_5 _ rfl rfl (nI_inc _)) ?_
          refine ev_s (is_goto rfl) ?_
          have := ih (i + 1) (by omega) (by omega) hk
          rw [hpt] at this
          first
            | exact this
            | (rw [Nat.add_zero] at this; exact this)
            | (rw [← Nat.add_assoc] at this; exact this)
        · have hpt : lo_sum (fun j => pa_t H (st_swap H a b) G q j) (i + 1) = lo_sum (fun j => pa_t H (st_swap H a b) G q j) i + pw_ H G q i := by rw [lo_sum_s]; congr 1; unfold pa_t; rw [if_pos ⟨by omega, h_47⟩]
          refine ev_s (is_iload_n rfl rfl) ?_
          refine ev_s (is_aload_n rfl rfl) ?_
          refine ev_s (is_getR rfl (pu_s hC 29 rfl rfl) rfl rfl (pu_r hC 29 10 rfl rfl)) ?_
          refine ev_s (is_iload rfl rfl) ?_
          refine ev_s (is_iload rfl rfl) ?_
          refine ev_c1 (is_callR 3 [_, _] [_] rfl rfl rfl rfl rfl (Nat.le_of_ble_eq_true rfl) rfl rfl rfl (pu_s hC 36 rfl rfl)) rfl rfl (x_daysOf hC (n := H 0 0) (x := q) (y := i) (v := pw_ H G q i) hn6 (by omega) (by omega) h36 (pk_at hpk (by omega) (by omega) (by omega))) ?_
          first
            | refine ev_s (is_iadd _ rfl (nI_add _ _)) ?_
            | refine ev_s (is_iadd _ rfl rfl) ?_
          refine ev_s (st_istore_n_3 rfl rfl) ?_
          refine ev_s (st_iinc_5 _ rfl rfl (nI_inc _)) ?_
          refine ev_s (is_goto rfl) ?_
          have := ih (i + 1) (by omega) (by omega) hk
          rw [hpt] at this
          first
            | exact this
            | (rw [Nat.add_zero] at this; exact this)
            | (rw [← Nat.add_assoc] at this; exact this)
    exact loop (H 0 0 - (q + 1)) (q + 1) (by omega) (by omega) hk
  have outer : ∀ (j q : Nat) (w5 : Value), q + j = H 0 0 → Ev (d + 2) 117 5 [.ref 29, .int (nI a), .int (nI b), .int (nI (lo_sum (fun i => lo_sum (fun j => pa_t H (st_swap H a b) G i j) (H 0 0)) q)), .int (nI q), w5] [] sh mi mr (ev_R sh (.int (nI (pa_all H (st_swap H a b) G))) mi mr) := by
    intro j
    induction j with
    | zero =>
      intro q w5 hi
      refine ev_s (is_iload rfl rfl) ?_
      refine ev_s (is_aload_n rfl rfl) ?_
      refine ev_s (is_getI' rfl (pu_s hC 29 rfl rfl) rfl rfl hx.1) ?_
      refine ev_s (is_icmp_ge_t rfl (nI_le (by omega) (by omega))) ?_
      refine ev_s (is_iload_n rfl rfl) ?_
      refine ev_ret (is_ireturn rfl rfl (by first | rfl | exact pu_b_nar | decide)) ?_
      exact ⟨by rw [show q = H 0 0 by omega]; rfl, rfl, rfl, rfl⟩
    | succ j ih =>
      intro q w5 hi
      refine ev_s (is_iload rfl rfl) ?_
      refine ev_s (is_aload_n rfl rfl) ?_
      refine ev_s (is_getI' rfl (pu_s hC 29 rfl rfl) rfl rfl hx.1) ?_
      refine ev_s (is_icmp_ge_f rfl (nI_ge (by omega) (by omega))) ?_
      refine ev_s (is_iload rfl rfl) ?_
      refine ev_s (is_iconst (nI 1) rfl rfl) ?_
      first
        | refine ev_s (is_iadd _ rfl (nI_add _ _)) ?_
        | refine ev_s (is_iadd _ rfl rfl) ?_
      refine ev_s (st_istore_5 rfl rfl) ?_
      have h0 : (lo_sum (fun j => pa_t H (st_swap H a b) G q j) (q + 1)) = 0 := lo_sum_z _ (fun j hj => if_neg (by omega))
      have := inner q (by omega) ?_
      · rw [h0, Nat.add_zero] at this
        exact this
      · refine ev_s (st_iinc_4 _ rfl rfl (nI_inc _)) ?_
        refine ev_s (is_goto rfl) ?_
        exact ih (q + 1) _ (by omega)
  refine ev_s (is_iconst (nI 0) rfl rfl) ?_
  refine ev_s (st_istore_n_3 rfl rfl) ?_
  refine ev_s (is_iconst (nI 0) rfl rfl) ?_
  refine ev_s (st_istore_4 rfl rfl) ?_
  exact outer (H 0 0) 0 _ (by omega)

theorem x_swap {d : Nat} {sh : im_Sh} {mi : im_MI} {mr : im_MR} (hC : pu_C sh mr) {H : ho_T} {G : ho_G} (hx : xa_ok H G mi mr) (w : Int32) : EvM (d + 7) 80 [.ref 29, .int w] sh mi mr (fun r sh2 m2 r2 => sh2 = sh ∧ (r = .int (an_swap H G w) ∧ r2 = mr ∧ sc_ xQ mi m2)) := by
  show Ev (d + 7) 80 0 [.ref 29, .int w, im_bad, im_bad, im_bad, im_bad, im_bad] [] sh mi mr _
  have hn6 := xa_n hx
  have hs : sc_ xQ mi mi := sc_rf
  refine ev_s (is_iload_n rfl rfl) ?_
  refine ev_s (is_iconst (nI 0) rfl rfl) ?_
  refine ev_s (is_iconst (nI 1) rfl rfl) ?_
  refine ev_c1 (is_call0 3 [_, _, _] [] rfl rfl rfl rfl rfl (Nat.le_of_ble_eq_true rfl) rfl rfl rfl) rfl rfl (x_within' _ _ _) ?_
  refine ev_ifB_ne rfl (fun h_6 => ?_) (fun h_6 => ?_)
  · have hal0 := ho_all_le (H := H) G hn6
    rw [show an_swap H G w = (if w = nI 0 then (sw_a H G (H 0 0) (H 0 0)).1 else nI (sw_a H G (H 0 0) (H 0 0)).2) by rw [an_swap, if_pos h_6]]
    have body : ∀ (w : Int32) (w4 w5 w6 : Value) (ma : im_MI), xa_ok H G ma mr → sc_ xQ mi ma → ma 36 1 = nI (H 0 0) → pk_ok H G ma (H 0 0) 0 → Ev (d + 7) 80 41 [.ref 29, .int w, .int (nI (sw_a H G (H 0 0) 0).2), .int (sw_a H G (H 0 0) 0).1, .int (nI 0), w5, w6] [] sh ma mr (fun r sh2 m2 r2 => sh2 = sh ∧ (r = .int (if w = nI 0 then (sw_a H G (H 0 0) (H 0 0)).1 else nI (sw_a H G (H 0 0) (H 0 0)).2) ∧ r2 = mr ∧ sc_ xQ mi m2)) := by
      intro w w4 w5 w6 ma hx hs h36 hpk
      have inner : ∀ (a : Nat) (p0 : Int32 × Nat), a < H 0 0 → p0.2 ≤ ho_all H G → (∀ (w6 : Value), Ev (d + 7) 80 99 [.ref 29, .int w, .int (nI (sw_b H G a (H 0 0) p0).2), .int (sw_b H G a (H 0 0) p0).1, .int (nI a), .int (nI (H 0 0)), w6] [] sh ma mr (fun r sh2 m2 r2 => sh2 = sh ∧ (r = .int (if w = nI 0 then (sw_a H G (H 0 0) (H 0 0)).1 else nI (sw_a H G (H 0 0) (H 0 0)).2) ∧ r2 = mr ∧ sc_ xQ mi m2))) → ∀ (w6 : Value), Ev (d + 7) 80 56 [.ref 29, .int w, .int (nI p0.2), .int p0.1, .int (nI a), .int (nI (a + 1)), w6] [] sh ma mr (fun r sh2 m2 r2 => sh2 = sh ∧ (r = .int (if w = nI 0 then (sw_a H G (H 0 0) (H 0 0)).1 else nI (sw_a H G (H 0 0) (H 0 0)).2) ∧ r2 = mr ∧ sc_ xQ mi m2)) := by
        intro a p0 ha hp0 hk w6
        have loop : ∀ (j i : Nat) (w6 : Value), i + j = H 0 0 → a < i → (∀ (w6 : Value), Ev (d + 7) 80 99 [.ref 29, .int w, .int (nI (sw_b H G a (H 0 0) p0).2), .int (sw_b H G a (H 0 0) p0).1, .int (nI a), .int (nI (H 0 0)), w6] [] sh ma mr (fun r sh2 m2 r2 => sh2 = sh ∧ (r = .int (if w = nI 0 then (sw_a H G (H 0 0) (H 0 0)).1 else nI (sw_a H G (H 0 0) (H 0 0)).2) ∧ r2 = mr ∧ sc_ xQ mi m2))) → Ev (d + 7) 80 56 [.ref 29, .int w, .int (nI (sw_b H G a i p0).2), .int (sw_b H G a i p0).1, .int (nI a), .int (nI i), w6] [] sh ma mr (fun r sh2 m2 r2 => sh2 = sh ∧ (r = .int (if w = nI 0 then (sw_a H G (H 0 0) (H 0 0)).1 else nI (sw_a H G (H 0 0) (H 0 0)).2) ∧ r2 = mr ∧ sc_ xQ mi m2)) := by
          intro j
          induction j with
          | zero =>
            intro i w6 hi hai hk
            refine ev_s (is_iload rfl rfl) ?_
            refine ev_s (is_aload_n rfl rfl) ?_
            refine ev_s (is_getI' rfl (pu_s hC 29 rfl rfl) rfl rfl hx.1) ?_
            refine ev_s (is_icmp_ge_t rfl (nI_le (by omega) (by omega))) ?_
            have h6 : i = H 0 0 := by omega
            subst h6
            exact hk _
          | succ j ih =>
            intro i w6 hi hai hk
            refine ev_s (is_iload rfl rfl) ?_
            refine ev_s (is_aload_n rfl rfl) ?_
            refine ev_s (is_getI' rfl (pu_s hC 29 rfl rfl) rfl rfl hx.1) ?_
            refine ev_s (is_icmp_ge_f rfl (nI_ge (by omega) (by omega))) ?_
            refine ev_s (is_aload_n rfl rfl) ?_
            refine ev_s (is_iload rfl rfl) ?_
            refine ev_s (is_iload rfl rfl) ?_
            refine ev_c1 (is_callR 3 [_, _] [] rfl rfl rfl rfl rfl (Nat.le_of_ble_eq_true rfl) rfl rfl rfl (pu_s hC 29 rfl rfl)) rfl rfl (x_allSw hC hx (a := a) (b := i) (by omega) (by omega) (by omega) h36 hpk) ?_
            rw [pa_swap G (xa_iv hx) (a := a) (b := i) (by omega) (by omega)]
            have hal := ho_all_le (H := st_swap H a i) G (by rw [st_swap_lo H a i (by decide)]; exact hn6)
            have hbd := sw_b_le H G a p0 i
            refine ev_s (st_istore_6 rfl rfl) ?_
            refine ev_s (is_iload rfl rfl) ?_
            refine ev_s (is_iload_n rfl rfl) ?_
            refine ev_icmpN_ge rfl (by omega) (by omega) (fun h_78 => ?_) (fun h_78 => ?_)
            · have hbe : sw_b H G a (i + 1) p0 = (sw_b H G a i p0) := by show (if a < i then be_s _ _ _ else p0) = _; rw [if_pos hai]; unfold be_s; rw [if_neg (Nat.not_lt.mpr h_78)]
              refine ev_s (st_iinc_5 _ rfl rfl (nI_inc _)) ?_
              refine ev_s (is_goto rfl) ?_
              have := ih (i + 1) (.int (nI (ho_all (st_swap H a i) G))) (by omega) (by omega) hk
              rw [hbe] at this
              exact this
            · have hbe : sw_b H G a (i + 1) p0 = (nI (10 * a + i), ho_all (st_swap H a i) G) := by show (if a < i then be_s _ _ _ else p0) = _; rw [if_pos hai]; unfold be_s; rw [if_pos h_78]
              refine ev_s (is_iload rfl rfl) ?_
              refine ev_s (st_istore_n_2 rfl rfl) ?_
              refine ev_s (is_bipush (nI 10) rfl rfl) ?_
              refine ev_s (is_iload rfl rfl) ?_
              first
                | refine ev_s (is_imul _ rfl (pk_mul _ _)) ?_
                | refine ev_s (is_imul _ rfl rfl) ?_
              refine ev_s (is_iload rfl rfl) ?_
              first
                | refine ev_s (is_iadd _ rfl (nI_add _ _)) ?_
                | refine ev_s (is_iadd _ rfl rfl) ?_
              refine ev_s (st_istore_n_3 rfl rfl) ?_
              refine ev_s (st_iinc_5 _ rfl rfl (nI_inc _)) ?_
              refine ev_s (is_goto rfl) ?_
              have := ih (i + 1) (.int (nI (ho_all (st_swap H a i) G))) (by omega) (by omega) hk
              rw [hbe] at this
              exact this
        have := loop (H 0 0 - (a + 1)) (a + 1) w6 (by omega) (by omega) hk
        rw [sw_b_0 H G p0 (Nat.le_refl _)] at this
        exact this
      have outer : ∀ (j a : Nat) (w5 w6 : Value), a + j = H 0 0 → Ev (d + 7) 80 41 [.ref 29, .int w, .int (nI (sw_a H G (H 0 0) a).2), .int (sw_a H G (H 0 0) a).1, .int (nI a), w5, w6] [] sh ma mr (fun r sh2 m2 r2 => sh2 = sh ∧ (r = .int (if w = nI 0 then (sw_a H G (H 0 0) (H 0 0)).1 else nI (sw_a H G (H 0 0) (H 0 0)).2) ∧ r2 = mr ∧ sc_ xQ mi m2)) := by
        intro j
        induction j with
        | zero =>
          intro a w5 w6 hi
          refine ev_s (is_iload rfl rfl) ?_
          refine ev_s (is_aload_n rfl rfl) ?_
          refine ev_s (is_getI' rfl (pu_s hC 29 rfl rfl) rfl rfl hx.1) ?_
          refine ev_s (is_icmp_ge_t rfl (nI_le (by omega) (by omega))) ?_
          refine ev_s (is_iload_n rfl rfl) ?_
          refine ev_if_ne rfl (fun h_106 => ?_) (fun h_106 => ?_)
          · refine ev_s (is_iload_n rfl rfl) ?_
            refine ev_ret (is_ireturn rfl rfl (by first | rfl | exact pu_b_nar | decide)) ?_
            have h12 : a = H 0 0 := by omega
            subst h12
            first
              | (have e : w = nI 0 := Decidable.of_not_not h_106
                 exact ⟨rfl, by rw [if_pos e], rfl, hs⟩)
              | (have e : ¬ w = nI 0 := h_106
                 exact ⟨rfl, by rw [if_neg e], rfl, hs⟩)
          · refine ev_s (is_iload_n rfl rfl) ?_
            refine ev_s (is_goto rfl) ?_
            refine ev_ret (is_ireturn rfl rfl (by first | rfl | exact pu_b_nar | decide)) ?_
            have h12 : a = H 0 0 := by omega
            subst h12
            first
              | (have e : w = nI 0 := Decidable.of_not_not h_106
                 exact ⟨rfl, by rw [if_pos e], rfl, hs⟩)
              | (have e : ¬ w = nI 0 := h_106
                 exact ⟨rfl, by rw [if_neg e], rfl, hs⟩)
        | succ j ih =>
          intro a w5 w6 hi
          refine ev_s (is_iload rfl rfl) ?_
          refine ev_s (is_aload_n rfl rfl) ?_
          refine ev_s (is_getI' rfl (pu_s hC 29 rfl rfl) rfl rfl hx.1) ?_
          refine ev_s (is_icmp_ge_f rfl (nI_ge (by omega) (by omega))) ?_
          refine ev_s (is_iload rfl rfl) ?_
          refine ev_s (is_iconst (nI 1) rfl rfl) ?_
          first
            | refine ev_s (is_iadd _ rfl (nI_add _ _)) ?_
            | refine ev_s (is_iadd _ rfl rfl) ?_
          refine ev_s (st_istore_5 rfl rfl) ?_
          refine inner a (sw_a H G (H 0 0) a) (by omega) (sw_a_le H G (H 0 0) a) (fun w6 => ?_) _
          refine ev_s (st_iinc_4 _ rfl rfl (nI_inc _)) ?_
          refine ev_s (is_goto rfl) ?_
          exact ih (a + 1) _ _ (by omega)
      exact outer (H 0 0) 0 w5 w6 (by omega)
    refine ev_s (is_aload_n rfl rfl) ?_
    refine ev_s (is_getR rfl (pu_s hC 29 rfl rfl) rfl rfl (pu_r hC 29 10 rfl rfl)) ?_
    refine ev_s (is_aload_n rfl rfl) ?_
    refine ev_s (is_getR rfl (pu_s hC 29 rfl rfl) rfl rfl (pu_r hC 29 0 rfl rfl)) ?_
    refine ev_s (is_aload_n rfl rfl) ?_
    refine ev_s (is_getI' rfl (pu_s hC 29 rfl rfl) rfl rfl hx.1) ?_
    refine ev_s (is_aload_n rfl rfl) ?_
    refine ev_s (is_getR rfl (pu_s hC 29 rfl rfl) rfl rfl (pu_r hC 29 3 rfl rfl)) ?_
    refine ev_q0 (is_callR 4 [_, _, _] [] rfl rfl rfl rfl rfl (Nat.le_of_ble_eq_true rfl) rfl rfl rfl (pu_s hC 36 rfl rfl)) rfl rfl (x_weigh hC hx) (fun r_28 mi mr hq_28 => ?_)
    obtain ⟨hmr, hsc, h36, hpk⟩ := hq_28
    have hmr := hmr.symm
    subst hmr
    have hs := hs.trans hsc
    have hx := xa_sc hx hsc
    refine ev_s (is_aload_n rfl rfl) ?_
    refine ev_q1 (is_callR 1 [] [] rfl rfl rfl rfl rfl (Nat.le_of_ble_eq_true rfl) rfl rfl rfl (pu_s hC 29 rfl rfl)) rfl rfl (x_all2 hC hx) (fun r_32 mi mr hq_32 => ?_)
    obtain ⟨rfl, hmr, hsc⟩ := hq_32
    have hmr := hmr.symm
    subst hmr
    have h36 := (congrFun (hsc 36 (xS_f (by decide) (by decide))) 1).trans h36
    have hpk := pk_row hpk (hsc 37 (xS_f (by decide) (by decide)))
    have hsc := hsc.mono (xS_xQ (Or.inl rfl))
    have hs := hs.trans hsc
    have hx := xa_sc hx hsc
    refine ev_s (st_istore_n_2 rfl rfl) ?_
    refine ev_s (is_iconst ((-1)) rfl rfl) ?_
    refine ev_s (st_istore_n_3 rfl rfl) ?_
    refine ev_s (is_iconst (nI 0) rfl rfl) ?_
    refine ev_s (st_istore_4 rfl rfl) ?_
    exact body w im_bad _ _ _ hx hs h36 hpk
  · refine ev_s (is_bipush ((-2)) rfl rfl) ?_
    refine ev_ret (is_ireturn rfl rfl (by first | rfl | exact pu_b_nar | decide)) ?_
    refine ⟨rfl, ?_, rfl, sc_rf⟩
    rw [an_swap, if_neg h_6]
