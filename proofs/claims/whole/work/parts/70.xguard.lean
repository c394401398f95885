/-! ===== PURE, the class: guard ===== -/

theorem x_dWatch {d : Nat} {sh : im_Sh} {mi : im_MI} {mr : im_MR} (hC : pu_C sh mr) {H : ho_T} {G : ho_G} {s : Nat} (hs : s < 4096) (h38 : ∀ h, h < 12 → mi 38 h = nI (gd_c H G h)) : EvM (d + 1) 120 [.ref 29, .int (nI s)] sh mi mr (ev_R sh (.int (nI (gd_v H G s))) mi mr) := by
  show Ev (d + 1) 120 0 [.ref 29, .int (nI s), im_bad, im_bad] [] sh mi mr _
  have loop : ∀ (j i : Nat), i + j = 12 → Ev (d + 1) 120 4 [.ref 29, .int (nI s), .int (nI (lo_sum (fun h => if s / 2 ^ h % 2 = 1 then gd_c H G h else 0) i)), .int (nI i)] [] sh mi mr (ev_R sh (.int (nI (gd_v H G s))) mi mr) := by
    intro j
    induction j with
    | zero =>
      intro i  hi 
      refine ev_s (is_iload_n rfl rfl) ?_
      refine ev_s (is_bipush (nI 12) rfl rfl) ?_
      refine ev_s (is_icmp_ge_t rfl (nI_le (by omega) (by omega))) ?_
      refine ev_s (is_iload_n rfl rfl) ?_
      refine ev_ret (is_ireturn rfl rfl (by first | rfl | exact pu_b_nar | decide)) ?_
      exact ⟨by rw [show i = 12 by omega]; rfl, rfl, rfl, rfl⟩
    | succ j ih =>
      intro i  hi 
      refine ev_s (is_iload_n rfl rfl) ?_
      refine ev_s (is_bipush (nI 12) rfl rfl) ?_
      refine ev_s (is_icmp_ge_f rfl (nI_ge (by omega) (by omega))) ?_
      refine ev_s (is_iload_n rfl rfl) ?_
      refine ev_s (is_iload_n rfl rfl) ?_
      refine ev_c1 (is_call0 2 [_, _] [] rfl rfl rfl rfl rfl (Nat.le_of_ble_eq_true rfl) rfl rfl rfl) rfl rfl (x_has (b := s) (i := i) (by omega) (by omega)) ?_
      refine ev_ifB_eq rfl (fun h_15 => ?_) (fun h_15 => ?_)
      · refine ev_s (st_iinc_3 _ rfl rfl (nI_inc _)) ?_
        refine ev_s (is_goto rfl) ?_
        have := ih (i + 1) (by omega)
        rw [lo_sum_s] at this
        first
          | (rw [if_pos h_15] at this; exact this)
          | (rw [if_neg h_15, Nat.add_zero] at this; exact this)
      · refine ev_s (is_iload_n rfl rfl) ?_
        refine ev_s (is_aload_n rfl rfl) ?_
        refine ev_s (is_getR rfl (pu_s hC 29 rfl rfl) rfl rfl (pu_r hC 29 11 rfl rfl)) ?_
        refine ev_s (is_iload_n rfl rfl) ?_
        refine ev_s (is_iaload' (i) rfl (pu_s hC 38 rfl rfl) rfl rfl (by omega) (h38 i (by omega))) ?_
        first
          | refine ev_s (is_iadd _ rfl (nI_add _ _)) ?_
          | refine ev_s (is_iadd _ rfl rfl) ?_
        refine ev_s (st_istore_n_2 rfl rfl) ?_
        refine ev_s (st_iinc_3 _ rfl rfl (nI_inc _)) ?_
        refine ev_s (is_goto rfl) ?_
        have := ih (i + 1) (by omega)
        rw [lo_sum_s] at this
        first
          | (rw [if_pos h_15] at this; exact this)
          | (rw [if_neg h_15, Nat.add_zero] at this; exact this)
  refine ev_s (is_iconst (nI 0) rfl rfl) ?_
  refine ev_s (st_istore_n_2 rfl rfl) ?_
  refine ev_s (is_iconst (nI 0) rfl rfl) ?_
  refine ev_s (st_istore_n_3 rfl rfl) ?_
  exact loop 12 0 (by omega)

theorem x_tellHD1 {d : Nat} {sh : im_Sh} {mi : im_MI} {mr : im_MR} {mra : im_MR} (hC : pu_C sh mra) {H : ho_T} {G : ho_G} (hn6 : H 0 0 ≤ 6) (hr107 : mra 107 0 = some (78 + 3 * H 0 3)) (hr104 : mra 104 0 = mr 104 0) : ∀ (ma : im_MI), sc_ xQ mi ma → xa_ok H G ma mra → ma 107 1 = nI 4095 → Ev (d + 5) 119 26 [.ref 29, .int (nI 0), im_bad] [] sh ma mra (fun r sh2 m2 r2 => sh2 = sh ∧ (pu_C sh r2 ∧ r2 104 0 = mr 104 0 ∧ sc_ xQ mi m2 ∧ ∀ h, h < 12 → m2 38 h = nI (gd_c H G h))) := by
  have inner : ∀ (h : Nat), h < 12 → ∀ (ma : im_MI), sc_ xQ mi ma → xa_ok H G ma mra → ma 107 1 = nI 4095 → (∀ q, q < h → ma 38 q = nI (gd_c H G q)) → ma 38 h = nI 0 → (∀ (w2 : Value) (ma : im_MI), sc_ xQ mi ma → xa_ok H G ma mra → ma 107 1 = nI 4095 → (∀ q, q < h + 1 → ma 38 q = nI (gd_c H G q)) → Ev (d + 5) 119 83 [.ref 29, .int (nI h), w2] [] sh ma mra (fun r sh2 m2 r2 => sh2 = sh ∧ (pu_C sh r2 ∧ r2 104 0 = mr 104 0 ∧ sc_ xQ mi m2 ∧ ∀ h, h < 12 → m2 38 h = nI (gd_c H G h)))) → Ev (d + 5) 119 41 [.ref 29, .int (nI h), .int (nI 0)] [] sh ma mra (fun r sh2 m2 r2 => sh2 = sh ∧ (pu_C sh r2 ∧ r2 104 0 = mr 104 0 ∧ sc_ xQ mi m2 ∧ ∀ h, h < 12 → m2 38 h = nI (gd_c H G h))) := by
    intro h hh ma hs hx h107 g1 g2 hk
    have loop : ∀ (j i : Nat) (ma : im_MI), i + j = H 0 0 → sc_ xQ mi ma → xa_ok H G ma mra → ma 107 1 = nI 4095 → (∀ q, q < h → ma 38 q = nI (gd_c H G q)) → ma 38 h = nI (lo_sum (fun m => md_daysO G (H 0 3) 4095 (ho_row H m) (ho_mcell H m) (ho_mrow H m) h) i) → (∀ (w2 : Value) (ma : im_MI), sc_ xQ mi ma → xa_ok H G ma mra → ma 107 1 = nI 4095 → (∀ q, q < h + 1 → ma 38 q = nI (gd_c H G q)) → Ev (d + 5) 119 83 [.ref 29, .int (nI h), w2] [] sh ma mra (fun r sh2 m2 r2 => sh2 = sh ∧ (pu_C sh r2 ∧ r2 104 0 = mr 104 0 ∧ sc_ xQ mi m2 ∧ ∀ h, h < 12 → m2 38 h = nI (gd_c H G h)))) → Ev (d + 5) 119 41 [.ref 29, .int (nI h), .int (nI i)] [] sh ma mra (fun r sh2 m2 r2 => sh2 = sh ∧ (pu_C sh r2 ∧ r2 104 0 = mr 104 0 ∧ sc_ xQ mi m2 ∧ ∀ h, h < 12 → m2 38 h = nI (gd_c H G h))) := by
      intro j
      induction j with
      | zero =>
        intro i ma hi hs hx h107 g1 g2 hk
        refine ev_s (is_iload_n rfl rfl) ?_
        refine ev_s (is_aload_n rfl rfl) ?_
        refine ev_s (is_getI' rfl (pu_s hC 29 rfl rfl) rfl rfl hx.1) ?_
        refine ev_s (is_icmp_ge_t rfl (nI_le (by omega) (by omega))) ?_
        refine hk _ _ hs hx h107 (fun q hq => ?_)
        rcases Nat.eq_or_lt_of_le (Nat.le_of_lt_succ hq) with c | c
        · rw [c, g2, gd_c_s H G hh, show i = H 0 0 by omega]
        · exact g1 q c
      | succ j ih =>
        intro i ma hi hs hx h107 g1 g2 hk
        refine ev_s (is_iload_n rfl rfl) ?_
        refine ev_s (is_aload_n rfl rfl) ?_
        refine ev_s (is_getI' rfl (pu_s hC 29 rfl rfl) rfl rfl hx.1) ?_
        refine ev_s (is_icmp_ge_f rfl (nI_ge (by omega) (by omega))) ?_
        refine ev_s (is_aload_n rfl rfl) ?_
        refine ev_s (is_getR rfl (pu_s hC 29 rfl rfl) rfl rfl (pu_r hC 29 11 rfl rfl)) ?_
        refine ev_s (is_iload_n rfl rfl) ?_
        refine ev_s (is_dup2 rfl rfl rfl) ?_
        refine ev_s (is_iaload' (h) rfl (pu_s hC 38 rfl rfl) rfl rfl (by omega) g2) ?_
        refine ev_s (is_aload_n rfl rfl) ?_
        refine ev_s (is_getR rfl (pu_s hC 29 rfl rfl) rfl rfl (pu_r hC 29 4 rfl rfl)) ?_
        refine ev_s (is_aload_n rfl rfl) ?_
        refine ev_s (is_getR rfl (pu_s hC 29 rfl rfl) rfl rfl (pu_r hC 29 0 rfl rfl)) ?_
        refine ev_s (is_iload_n rfl rfl) ?_
        refine ev_s (is_aaload (k := 1) (i) rfl (pu_s hC 30 rfl rfl) rfl rfl rfl (by omega) (pu_rows hC (by omega)).1) ?_
        refine ev_s (is_aload_n rfl rfl) ?_
        refine ev_s (is_iload_n rfl rfl) ?_
        refine ev_c1 (is_callR 2 [_] [_, _, _, _, _] rfl rfl rfl rfl rfl (Nat.le_of_ble_eq_true rfl) rfl rfl rfl (pu_s hC 29 rfl rfl)) rfl rfl (x_mate hC hx (by omega)) ?_
        refine ev_s (is_iload_n rfl rfl) ?_
        refine ev_q1 (is_callR 4 [_, _, _] [_, _, _] rfl rfl rfl rfl rfl (Nat.le_of_ble_eq_true rfl) rfl rfl rfl (pu_s hC 107 rfl rfl)) rfl (by cases ho_mcell H i <;> rfl) (x_daysO hC (show xr_ok ma mra 107 G (H 0 3) 4095 from ⟨Or.inr rfl, hr107, Nat.lt_of_lt_of_le (xa_bd hx).2.2.2.1 (xa_bd hx).2.2.1, xa_t hx (xa_bd hx).2.2.2.1, h107, by decide⟩) (h := h) (xm_Mi (m := i) (by omega)) (xa_m hx (by omega)) (xa_mate hx i) (by omega)) (fun r_72 mi mr hq_72 => ?_)
        obtain ⟨rfl, hmr, hsc⟩ := hq_72
        have hmr := hmr.symm
        subst hmr
        have h107 := (congrFun (hsc 107 (xS_f (by decide) (by decide))) 1).trans h107
        have e38 := hsc 38 (xS_f (by decide) (by decide))
        have g1 : ∀ q, q < h → mi 38 q = nI (gd_c H G q) := fun q hq => by rw [e38]; exact g1 q hq
        have hsc := hsc.mono (xS_xQ (Or.inr rfl))
        have hs := hs.trans hsc
        have hx := xa_sc hx hsc
        first
          | refine ev_s (is_iadd _ rfl (nI_add _ _)) ?_
          | refine ev_s (is_iadd _ rfl rfl) ?_
        refine ev_s (is_iastore (h) rfl (pu_s hC 38 rfl rfl) rfl rfl (by omega)) ?_
        refine ev_s (st_iinc_2 _ rfl rfl (nI_inc _)) ?_
        refine ev_s (is_goto rfl) ?_
        refine ih (i + 1) _ (by omega) (hs.u (xQ_t (by decide))) (xa_sc hx (sc_rf.u (xQ_t (by decide)))) (by rw [im_u_k _ _ _ _ (by decide)]; exact h107) (fun q hq => by rw [im_u_j _ _ _ _ (by omega)]; exact g1 q hq) (im_u_s _ _ _ _) hk
    exact loop (H 0 0) 0 ma (by omega) hs hx h107 g1 g2 hk
  have outer : ∀ (j h : Nat) (w2 : Value) (ma : im_MI), h + j = 12 → sc_ xQ mi ma → xa_ok H G ma mra → ma 107 1 = nI 4095 → (∀ q, q < h → ma 38 q = nI (gd_c H G q)) → Ev (d + 5) 119 26 [.ref 29, .int (nI h), w2] [] sh ma mra (fun r sh2 m2 r2 => sh2 = sh ∧ (pu_C sh r2 ∧ r2 104 0 = mr 104 0 ∧ sc_ xQ mi m2 ∧ ∀ h, h < 12 → m2 38 h = nI (gd_c H G h))) := by
    intro j
    induction j with
    | zero =>
      intro h w2 ma hi hs hx h107 g1
      refine ev_s (is_iload_n rfl rfl) ?_
      refine ev_s (is_bipush (nI 12) rfl rfl) ?_
      refine ev_s (is_icmp_ge_t rfl (nI_le (by omega) (by omega))) ?_
      refine ev_ret (is_return rfl) ?_
      exact ⟨rfl, hC, hr104, hs, fun q hq => g1 q (by omega)⟩
    | succ j ih =>
      intro h w2 ma hi hs hx h107 g1
      refine ev_s (is_iload_n rfl rfl) ?_
      refine ev_s (is_bipush (nI 12) rfl rfl) ?_
      refine ev_s (is_icmp_ge_f rfl (nI_ge (by omega) (by omega))) ?_
      refine ev_s (is_aload_n rfl rfl) ?_
      refine ev_s (is_getR rfl (pu_s hC 29 rfl rfl) rfl rfl (pu_r hC 29 11 rfl rfl)) ?_
      refine ev_s (is_iload_n rfl rfl) ?_
      refine ev_s (is_iconst (nI 0) rfl rfl) ?_
      refine ev_s (is_iastore (h) rfl (pu_s hC 38 rfl rfl) rfl rfl (by omega)) ?_
      refine ev_s (is_iconst (nI 0) rfl rfl) ?_
      refine ev_s (st_istore_n_2 rfl rfl) ?_
      refine inner h (by omega) _ (hs.u (xQ_t (by decide))) (xa_sc hx (sc_rf.u (xQ_t (by decide)))) (by rw [im_u_k _ _ _ _ (by decide)]; exact h107) (fun q hq => by rw [im_u_j _ _ _ _ (by omega)]; exact g1 q hq) (im_u_s _ _ _ _) (fun w2 ma hs hx h107 g1 => ?_)
      refine ev_s (st_iinc_1 _ rfl rfl (nI_inc _)) ?_
      refine ev_s (is_goto rfl) ?_
      exact ih (h + 1) _ _ (by omega) hs hx h107 g1
  intro ma hs hx h107
  exact outer 12 0 _ ma (by omega) hs hx h107 (fun q hq => by omega)

theorem x_tellHD {d : Nat} {sh : im_Sh} {mi : im_MI} {mr : im_MR} (hC : pu_C sh mr) {H : ho_T} {G : ho_G} (hx : xa_ok H G mi mr) : EvM (d + 5) 119 [.ref 29] sh mi mr (fun r sh2 m2 r2 => sh2 = sh ∧ (pu_C sh r2 ∧ r2 104 0 = mr 104 0 ∧ sc_ xQ mi m2 ∧ ∀ h, h < 12 → m2 38 h = nI (gd_c H G h))) := by
  show Ev (d + 5) 119 0 [.ref 29, im_bad, im_bad] [] sh mi mr _
  have hn6 := xa_n hx
  have hs : sc_ xQ mi mi := sc_rf
  refine ev_s (is_aload_n rfl rfl) ?_
  refine ev_s (is_getR rfl (pu_s hC 29 rfl rfl) rfl rfl (pu_r hC 29 4 rfl rfl)) ?_
  refine ev_s (is_aload_n rfl rfl) ?_
  refine ev_s (is_getR rfl (pu_s hC 29 rfl rfl) rfl rfl (pu_r hC 29 3 rfl rfl)) ?_
  refine ev_s (is_getR rfl (pu_s hC 104 rfl rfl) rfl rfl hx.2.2.2.2.1) ?_
  refine ev_s (is_putR rfl (pu_s hC 107 rfl rfl) rfl rfl rfl (by rw [hC.2.1]; have := (xa_bd hx).2.2.1; have := (xa_bd hx).2.2.2.1; omega)) ?_
  have hx := xa_mr hx (mr2 := im_u mr 107 0 (some (78 + 3 * H 0 3))) (im_u_k _ _ _ _ (by decide))
  have hr107 : im_u mr 107 0 (some (78 + 3 * H 0 3)) 107 0 = some (78 + 3 * H 0 3) := im_u_s _ _ _ _
  have hr104 : im_u mr 107 0 (some (78 + 3 * H 0 3)) 104 0 = mr 104 0 := im_u_k _ _ _ _ (by decide)
  have hC := pu_C_u hC (k := 107) (j := 0) (v := some (78 + 3 * H 0 3)) rfl
  refine ev_s (is_aload_n rfl rfl) ?_
  refine ev_s (is_getR rfl (pu_s hC 29 rfl rfl) rfl rfl (pu_r hC 29 4 rfl rfl)) ?_
  refine ev_s (is_sipush (nI 4095) rfl rfl) ?_
  refine ev_s (is_putI rfl (pu_s hC 107 rfl rfl) rfl rfl rfl) ?_
  refine ev_s (is_iconst (nI 0) rfl rfl) ?_
  refine ev_s (st_istore_n_1 rfl rfl) ?_
  have hs3 : sc_ xQ mi (im_u mi 107 1 (nI 4095)) := sc_rf.u (xQ_t (by decide))
  exact x_tellHD1 hC hn6 hr107 hr104 _ hs3 (xa_sc hx hs3) (im_u_s _ _ _ _)

def gd_m (p : Option (Nat × Nat)) : Int32 := match p with
  | none => -1
  | some q => nI q.2
def gd_i (p : Option (Nat × Nat)) : Int32 := match p with
  | none => nI 0
  | some q => nI q.1
theorem gd_le (H : ho_T) (G : ho_G) (n : Nat) (hn : H 0 0 ≤ 6) : ∀ N q, lo_fold (gd_f H G n) N none = some q → q.2 ≤ 7128
  | 0, _, h => by cases h
  | N + 1, q, h => by
    have hv := gd_v_le (H := H) G N hn
    rw [lo_fold] at h
    unfold gd_f at h
    split at h
    · cases e : lo_fold (gd_f H G n) N none with
      | none => rw [show lo_fold (fun s p => gd_f H G n s p) N none = lo_fold (gd_f H G n) N none from rfl] at *; unfold gd_f at e; rw [e] at h; cases h; exact hv
      | some q2 =>
        have ih := gd_le H G n hn N q2 e
        unfold gd_f at e
        rw [e] at h
        dsimp only at h
        split at h
        · cases h; exact hv
        · cases h; exact ih
    · exact gd_le H G n hn N q (by unfold gd_f; exact h)

theorem gd_nle {v : Nat} (h : v < 2 ^ 31) : ¬ nI v ≤ -1 := fun q => by
  have h1 := Int32.le_iff_toInt_le.mp q
  rw [nI_toInt h] at h1
  have h3 : (-1 : Int32).toInt = -1 := by decide
  omega

theorem x_guard {d : Nat} {sh : im_Sh} {mi : im_MI} {mr : im_MR} (hC : pu_C sh mr) {H : ho_T} {G : ho_G} (hx : xa_ok H G mi mr) (n w : Int32) : EvM (d + 6) 82 [.ref 29, .int n, .int w] sh mi mr (fun r sh2 m2 r2 => sh2 = sh ∧ (r = .int (an_guard H G n w) ∧ pu_C sh r2 ∧ r2 104 0 = mr 104 0 ∧ sc_ xQ mi m2)) := by
  show Ev (d + 6) 82 0 [.ref 29, .int n, .int w, im_bad, im_bad, im_bad, im_bad] [] sh mi mr _
  have hn6 := xa_n hx
  have hs : sc_ xQ mi mi := sc_rf
  refine ev_s (is_iload_n rfl rfl) ?_
  refine ev_s (is_iconst (nI 0) rfl rfl) ?_
  refine ev_s (is_iconst (nI 3) rfl rfl) ?_
  refine ev_c1 (is_call0 3 [_, _, _] [] rfl rfl rfl rfl rfl (Nat.le_of_ble_eq_true rfl) rfl rfl rfl) rfl rfl (x_within' _ _ _) ?_
  refine ev_ifB_eq rfl (fun h_6 => ?_) (fun h_6 => ?_)
  · refine ev_s (is_bipush ((-2)) rfl rfl) ?_
    refine ev_ret (is_ireturn rfl rfl (by first | rfl | exact pu_b_nar | decide)) ?_
    refine ⟨rfl, ?_, hC, rfl, sc_rf⟩
    first
      | rw [an_guard, if_neg h_6]
      | rw [an_guard, if_pos h_6, if_neg h_15]
  · obtain ⟨n0, rfl, ln0, un0, en0⟩ := ho_rng_n h_6 (by decide) (by decide)
    refine ev_s (is_iload_n rfl rfl) ?_
    refine ev_s (is_iconst (nI 0) rfl rfl) ?_
    refine ev_s (is_iconst (nI 1) rfl rfl) ?_
    refine ev_c1 (is_call0 3 [_, _, _] [] rfl rfl rfl rfl rfl (Nat.le_of_ble_eq_true rfl) rfl rfl rfl) rfl rfl (x_within' _ _ _) ?_
    refine ev_ifB_ne rfl (fun h_15 => ?_) (fun h_15 => ?_)
    · rw [show an_guard H G (nI n0) w = (if w = nI 0 then nI (gd_all H G n0).1 else nI (gd_all H G n0).2) by rw [an_guard, if_pos h_6, if_pos h_15, en0]]
      have body : ∀ (n0 : Nat) (w6 : Value) (ma : im_MI) (mra : im_MR), n0 ≤ 3 → pu_C sh mra → mra 104 0 = mr 104 0 → sc_ xQ mi ma → (∀ h, h < 12 → ma 38 h = nI (gd_c H G h)) → Ev (d + 6) 82 33 [.ref 29, .int (nI n0), .int w, .int (-1), .int (nI 0), .int (nI 0), w6] [] sh ma mra (fun r sh2 m2 r2 => sh2 = sh ∧ (r = .int (if w = nI 0 then nI (gd_all H G n0).1 else nI (gd_all H G n0).2) ∧ pu_C sh r2 ∧ r2 104 0 = mr 104 0 ∧ sc_ xQ mi m2)) := by
        intro n0 w6 ma mra hn0 hC hr104 hs h38
        have loop : ∀ (j i : Nat) (w6 : Value), i + j = 4096 → Ev (d + 6) 82 33 [.ref 29, .int (nI n0), .int w, .int (gd_m (lo_fold (gd_f H G n0) i none)), .int (gd_i (lo_fold (gd_f H G n0) i none)), .int (nI i), w6] [] sh ma mra (fun r sh2 m2 r2 => sh2 = sh ∧ (r = .int (if w = nI 0 then nI (gd_all H G n0).1 else nI (gd_all H G n0).2) ∧ pu_C sh r2 ∧ r2 104 0 = mr 104 0 ∧ sc_ xQ mi m2)) := by
          intro j
          induction j with
          | zero =>
            intro i w6 hi 
            refine ev_s (is_iload rfl rfl) ?_
            refine ev_s (is_sipush (nI 4095) rfl rfl) ?_
            refine ev_s (is_icmp_gt_t rfl ((nI_ltI (by omega) (by omega)).mpr (by omega))) ?_
            refine ev_s (is_iload_n rfl rfl) ?_
            refine ev_if_ne rfl (fun h_81 => ?_) (fun h_81 => ?_)
            · refine ev_s (is_iload_n rfl rfl) ?_
              refine ev_ret (is_ireturn rfl rfl (by first | rfl | exact pu_b_nar | decide)) ?_
              have h6 : i = 4096 := by omega
              obtain ⟨q, eq⟩ := gd_some' H G (n := n0) (by omega)
              have eq2 : gd_all H G n0 = q := by unfold gd_all; rw [eq]; rfl
              have eq3 : lo_fold (gd_f H G n0) i none = some q := by rw [h6]; exact eq
              rw [eq3, eq2]
              first
                | (have e : w = nI 0 := Decidable.of_not_not h_81
                   exact ⟨rfl, by rw [if_pos e]; rfl, hC, hr104, hs⟩)
                | (have e : ¬ w = nI 0 := h_81
                   exact ⟨rfl, by rw [if_neg e]; rfl, hC, hr104, hs⟩)
            · refine ev_s (is_iload rfl rfl) ?_
              refine ev_s (is_goto rfl) ?_
              refine ev_ret (is_ireturn rfl rfl (by first | rfl | exact pu_b_nar | decide)) ?_
              have h6 : i = 4096 := by omega
              obtain ⟨q, eq⟩ := gd_some' H G (n := n0) (by omega)
              have eq2 : gd_all H G n0 = q := by unfold gd_all; rw [eq]; rfl
              have eq3 : lo_fold (gd_f H G n0) i none = some q := by rw [h6]; exact eq
              rw [eq3, eq2]
              first
                | (have e : w = nI 0 := Decidable.of_not_not h_81
                   exact ⟨rfl, by rw [if_pos e]; rfl, hC, hr104, hs⟩)
                | (have e : ¬ w = nI 0 := h_81
                   exact ⟨rfl, by rw [if_neg e]; rfl, hC, hr104, hs⟩)
          | succ j ih =>
            intro i w6 hi 
            refine ev_s (is_iload rfl rfl) ?_
            refine ev_s (is_sipush (nI 4095) rfl rfl) ?_
            refine ev_s (is_icmp_gt_f rfl (fun q => absurd ((nI_ltI (by omega) (by omega)).mp q) (by omega))) ?_
            refine ev_s (is_iload rfl rfl) ?_
            refine ev_c1 (is_call0 1 [_] [] rfl rfl rfl rfl rfl (Nat.le_of_ble_eq_true rfl) rfl rfl rfl) rfl rfl (x_bitCount (s := i) (by omega)) ?_
            refine ev_s (is_iload_n rfl rfl) ?_
            have hol := on_le i
            refine ev_icmpN_eq rfl (by omega) (by omega) (fun h_47 => ?_) (fun h_47 => ?_)
            · refine ev_s (is_aload_n rfl rfl) ?_
              refine ev_s (is_iload rfl rfl) ?_
              refine ev_c1 (is_callR 2 [_] [] rfl rfl rfl rfl rfl (Nat.le_of_ble_eq_true rfl) rfl rfl rfl (pu_s hC 29 rfl rfl)) rfl rfl (x_dWatch hC (H := H) (G := G) (s := i) (by omega) h38) ?_
              refine ev_s (st_istore_6 rfl rfl) ?_
              refine ev_s (is_iload rfl rfl) ?_
              refine ev_s (is_iload_n rfl rfl) ?_
              rcases ep : lo_fold (gd_f H G n0) i none with _ | q
              · have hf : lo_fold (gd_f H G n0) (i + 1) none = some (i, gd_v H G i) := by show gd_f H G n0 i (lo_fold (gd_f H G n0) i none) = _; rw [ep]; unfold gd_f; rw [if_pos h_47]; skip
                show Ev _ _ _ _ [.int (-1), _] _ _ _ _
                have hvl := gd_v_le (H := H) G i hn6
                refine ev_s (is_icmp_le_f rfl (gd_nle (by omega))) ?_
                refine ev_s (is_iload rfl rfl) ?_
                refine ev_s (st_istore_n_3 rfl rfl) ?_
                refine ev_s (is_iload rfl rfl) ?_
                refine ev_s (st_istore_4 rfl rfl) ?_
                refine ev_s (st_iinc_5 _ rfl rfl (nI_inc _)) ?_
                refine ev_s (is_goto rfl) ?_
                have := ih (i + 1) (.int (nI (gd_v H G i))) (by omega)
                rw [hf] at this
                exact this
              · have hq := gd_le H G n0 hn6 i q ep
                show Ev _ _ _ _ [.int (nI q.2), _] _ _ _ _
                have hvl := gd_v_le (H := H) G i hn6
                refine ev_icmpN_le rfl (by omega) (by omega) (fun h_64 => ?_) (fun h_64 => ?_)
                · have hf : lo_fold (gd_f H G n0) (i + 1) none = some q := by show gd_f H G n0 i (lo_fold (gd_f H G n0) i none) = _; rw [ep]; unfold gd_f; rw [if_pos h_47]; show (if q.2 < gd_v H G i then _ else _) = _; rw [if_neg (by omega)]
                  refine ev_s (st_iinc_5 _ rfl rfl (nI_inc _)) ?_
                  refine ev_s (is_goto rfl) ?_
                  have := ih (i + 1) (.int (nI (gd_v H G i))) (by omega)
                  rw [hf] at this
                  exact this
                · have hf : lo_fold (gd_f H G n0) (i + 1) none = some (i, gd_v H G i) := by show gd_f H G n0 i (lo_fold (gd_f H G n0) i none) = _; rw [ep]; unfold gd_f; rw [if_pos h_47]; show (if q.2 < gd_v H G i then _ else _) = _; rw [if_pos (by omega)]
                  refine ev_s (is_iload rfl rfl) ?_
                  refine ev_s (st_istore_n_3 rfl rfl) ?_
                  refine ev_s (is_iload rfl rfl) ?_
                  refine ev_s (st_istore_4 rfl rfl) ?_
                  refine ev_s (st_iinc_5 _ rfl rfl (nI_inc _)) ?_
                  refine ev_s (is_goto rfl) ?_
                  have := ih (i + 1) (.int (nI (gd_v H G i))) (by omega)
                  rw [hf] at this
                  exact this
            · have hf : lo_fold (gd_f H G n0) (i + 1) none = (lo_fold (gd_f H G n0) i none) := if_neg h_47
              refine ev_s (is_goto rfl) ?_
              refine ev_s (st_iinc_5 _ rfl rfl (nI_inc _)) ?_
              refine ev_s (is_goto rfl) ?_
              have := ih (i + 1) w6 (by omega)
              rw [hf] at this
              exact this
        exact loop 4096 0 w6 (by omega)
      refine ev_s (is_aload_n rfl rfl) ?_
      refine ev_q0 (is_callR 1 [] [] rfl rfl rfl rfl rfl (Nat.le_of_ble_eq_true rfl) rfl rfl rfl (pu_s hC 29 rfl rfl)) rfl rfl (x_tellHD hC hx) (fun r_22 mi mr hq_22 => ?_)
      obtain ⟨hC, hr104, hs, h38⟩ := hq_22
      refine ev_s (is_iconst ((-1)) rfl rfl) ?_
      refine ev_s (st_istore_n_3 rfl rfl) ?_
      refine ev_s (is_iconst (nI 0) rfl rfl) ?_
      refine ev_s (st_istore_4 rfl rfl) ?_
      refine ev_s (is_iconst (nI 0) rfl rfl) ?_
      refine ev_s (st_istore_5 rfl rfl) ?_
      exact body n0 _ _ _ (by omega) hC hr104 hs h38
    · refine ev_s (is_bipush ((-2)) rfl rfl) ?_
      refine ev_ret (is_ireturn rfl rfl (by first | rfl | exact pu_b_nar | decide)) ?_
      refine ⟨rfl, ?_, hC, rfl, sc_rf⟩
      first
        | rw [an_guard, if_neg h_6]
        | rw [an_guard, if_pos h_6, if_neg h_15]
