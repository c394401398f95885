/-! ===== PURE, the class: beds ===== -/

/-- lie -/
theorem x_lie {d : Nat} {sh : im_Sh} {mi : im_MI} {mr : im_MR} (hC : pu_C sh mr) {n : Nat} {pw : Nat → Nat → Nat} (hn : n ≤ 6) (hpwb : ∀ a b, pw a b ≤ 2376) (hpk : ∀ x y, x < n → y < n → x ≠ y → mi 37 (x * 6 + y) = nI (pw x y)) : ∀ (rr : Nat), ∀ (pl ly l sum dg : Nat) (lv : Int32) (p : Nat × Nat) (ma : im_MI), pl + rr = n → ly < 64 → sum ≤ 2376 * pl → (pl % 2 = 1 → lv = nI l ∧ l < n ∧ ly / 2 ^ l % 2 = 1) → lk_ mi ma n p → EvM (d + rr + 2) 14 [.ref 36, .int (nI pl), .int (nI ly), .int lv, .int (nI sum), .int (nI dg)] sh ma mr (fun r sh2 m2 r2 => sh2 = sh ∧ (r2 = mr ∧ lk_ mi m2 n (bd_ pw n rr pl ly l sum dg p))) := by
  intro rr
  induction rr with
  | zero =>
    intro pl ly l sum dg lv p ma hpl hly hsum hl hk
    have hp1 := hk.2.2.2.2
    have hpl6 : pl ≤ 6 := by omega
    show Ev _ _ 0 [.ref 36, .int (nI pl), .int (nI ly), .int lv, .int (nI sum), .int (nI dg), im_bad, im_bad] [] sh ma mr _
    refine ev_s (is_iload rfl rfl) ?_
    refine ev_s (is_aload_n rfl rfl) ?_
    refine ev_s (is_getI' rfl (pu_s hC 36 rfl rfl) rfl rfl hk.2.2.1) ?_
    refine ev_icmpN_lt rfl (by omega) (by omega) (fun h_6 => ?_) (fun h_6 => ?_)
    · refine ev_s (is_iload_n rfl rfl) ?_
      refine ev_s (is_aload_n rfl rfl) ?_
      refine ev_s (is_getI' rfl (pu_s hC 36 rfl rfl) rfl rfl hk.2.1) ?_
      refine ev_s (is_icmp_lt_f rfl (nI_nlt (by omega) (by omega))) ?_
      refine ev_s (is_aload_n rfl rfl) ?_
      refine ev_s (is_iload rfl rfl) ?_
      refine ev_s (is_putI rfl (pu_s hC 36 rfl rfl) rfl rfl rfl) ?_
      refine ev_s (is_aload_n rfl rfl) ?_
      refine ev_s (is_iload rfl rfl) ?_
      refine ev_s (is_putI rfl (pu_s hC 36 rfl rfl) rfl rfl rfl) ?_
      refine ev_ret (is_return rfl) ?_
      refine ⟨rfl, rfl, ?_⟩
      rw [show bd_ pw n 0 pl ly l sum dg p = (sum, dg) from if_pos (by omega)]
      exact ⟨fun k hk2 => by rw [im_u_kk _ _ _ _ hk2, im_u_kk _ _ _ _ hk2]; exact hk.1 k hk2, by rw [im_u_j _ _ _ _ (by decide), im_u_j _ _ _ _ (by decide)]; exact hk.2.1, by rw [im_u_j _ _ _ _ (by decide), im_u_s], im_u_s _ _ _ _, by have := hk.2.2.2.2; show sum ≤ 10000; omega⟩
    · refine ev_ret (is_return rfl) ?_
      refine ⟨rfl, rfl, ?_⟩
      rw [show bd_ pw n 0 pl ly l sum dg p = p from if_neg (by omega)]
      exact hk
  | succ rr ihr =>
    intro pl ly l sum dg lv p ma hpl hly hsum hl hk
    rw [show d + (rr + 1) + 2 = d + rr + 2 + 1 by omega]
    have hp1 := hk.2.2.2.2
    have hpl6 : pl ≤ 6 := by omega
    have loop : ∀ (j i : Nat) (w7 : Value) (ma : im_MI), i + j = n → lk_ mi ma n (lo_fold (fun m q => if ly / 2 ^ m % 2 = 1 then q else bd_ pw n rr (pl + 1) (ly ||| 2 ^ m) m (sum + (if pl % 2 = 1 then pw l m else 0)) (10 * dg + m + 1) q) i p) → Ev (d + rr + 2 + 1) 14 34 [.ref 36, .int (nI pl), .int (nI ly), .int lv, .int (nI sum), .int (nI dg), .int (nI i), w7] [] sh ma mr (fun r sh2 m2 r2 => sh2 = sh ∧ (r2 = mr ∧ lk_ mi m2 n (bd_ pw n (rr + 1) pl ly l sum dg p))) := by
      intro j
      induction j with
      | zero =>
        intro i w7 ma hi hk
        refine ev_s (is_iload rfl rfl) ?_
        refine ev_s (is_aload_n rfl rfl) ?_
        refine ev_s (is_getI' rfl (pu_s hC 36 rfl rfl) rfl rfl hk.2.1) ?_
        refine ev_s (is_icmp_ge_t rfl (nI_le (by omega) (by omega))) ?_
        refine ev_ret (is_return rfl) ?_
        have h6 : i = n := by omega
        rw [h6] at hk
        exact ⟨rfl, rfl, hk⟩
      | succ j ih =>
        intro i w7 ma hi hk
        refine ev_s (is_iload rfl rfl) ?_
        refine ev_s (is_aload_n rfl rfl) ?_
        refine ev_s (is_getI' rfl (pu_s hC 36 rfl rfl) rfl rfl hk.2.1) ?_
        refine ev_s (is_icmp_ge_f rfl (nI_ge (by omega) (by omega))) ?_
        refine ev_s (is_iload_n rfl rfl) ?_
        refine ev_s (is_iload rfl rfl) ?_
        refine ev_c1 (is_call0 2 [_, _] [] rfl rfl rfl rfl rfl (Nat.le_of_ble_eq_true rfl) rfl rfl rfl) rfl rfl (x_has (b := ly) (i := i) (by omega) (by omega)) ?_
        refine ev_ifB_eq rfl (fun h_49 => ?_) (fun h_49 => ?_)
        · have hf : lo_fold (fun m q => if ly / 2 ^ m % 2 = 1 then q else bd_ pw n rr (pl + 1) (ly ||| 2 ^ m) m (sum + (if pl % 2 = 1 then pw l m else 0)) (10 * dg + m + 1) q) (i + 1) p = bd_ pw n rr (pl + 1) (ly ||| 2 ^ i) i (sum + (if pl % 2 = 1 then pw l i else 0)) (10 * dg + i + 1) (lo_fold (fun m q => if ly / 2 ^ m % 2 = 1 then q else bd_ pw n rr (pl + 1) (ly ||| 2 ^ m) m (sum + (if pl % 2 = 1 then pw l m else 0)) (10 * dg + m + 1) q) i p) := if_neg h_49
          refine ev_s (is_iload_n rfl rfl) ?_
          refine ev_s (is_iconst (nI 2) rfl rfl) ?_
          refine ev_s (is_irem _ rfl (by decide) (pk_rem (by omega) (by decide) (by decide))) ?_
          refine ev_s (is_iconst (nI 1) rfl rfl) ?_
          have hsm : (sum + (if pl % 2 = 1 then pw l i else 0)) ≤ 2376 * (pl + 1) := by have := hpwb l i; split <;> omega
          have hpl2 : pl % 2 = 1 → ma 37 (l * 6 + i) = nI (pw l i) := fun q => by
            obtain ⟨_, h2, h3⟩ := hl q
            rw [hk.1 37 (by decide)]
            exact hpk l i h2 (by omega) (fun e => h_49 (by rw [← e]; exact h3))
          refine ev_selN2 (pl % 2 = 1) (pw l i) (0) (pcJ := 73) (fun hS kS => ?_) (fun hS kS => ?_) ?_
          · have hsm : (sum + (if pl % 2 = 1 then pw l i else 0)) ≤ 2376 * (pl + 1) := by have := hpwb l i; split <;> omega
            have hpl2 : pl % 2 = 1 → ma 37 (l * 6 + i) = nI (pw l i) := fun q => by
              obtain ⟨_, h2, h3⟩ := hl q
              rw [hk.1 37 (by decide)]
              exact hpk l i h2 (by omega) (fun e => h_49 (by rw [← e]; exact h3))
            refine ev_s (is_icmp_ne_f rfl (fun q => q (by rw [hS]))) ?_
            obtain ⟨hlv, hl2, hl3⟩ := hl hS
            subst hlv
            refine ev_s (is_aload_n rfl rfl) ?_
            refine ev_s (is_iload_n rfl rfl) ?_
            refine ev_s (is_iload rfl rfl) ?_
            refine ev_c1 (is_callR 3 [_, _] [] rfl rfl rfl rfl rfl (Nat.le_of_ble_eq_true rfl) rfl rfl rfl (pu_s hC 36 rfl rfl)) rfl rfl (x_daysOf hC (n := n) (x := l) (y := i) (v := pw l i) hn hl2 (by omega) hk.2.1 (hpl2 hS)) ?_
            refine ev_s (is_goto rfl) ?_
            exact kS
          · have hsm : (sum + (if pl % 2 = 1 then pw l i else 0)) ≤ 2376 * (pl + 1) := by have := hpwb l i; split <;> omega
            have hpl2 : pl % 2 = 1 → ma 37 (l * 6 + i) = nI (pw l i) := fun q => by
              obtain ⟨_, h2, h3⟩ := hl q
              rw [hk.1 37 (by decide)]
              exact hpk l i h2 (by omega) (fun e => h_49 (by rw [← e]; exact h3))
            refine ev_s (is_icmp_ne_t rfl (fun q => hS ((nI_eq (by omega) (by decide)).mp q))) ?_
            refine ev_s (is_iconst (nI 0) rfl rfl) ?_
            exact kS
          refine ev_s (st_istore_7 rfl rfl) ?_
          refine ev_s (is_aload_n rfl rfl) ?_
          refine ev_s (is_iload_n rfl rfl) ?_
          refine ev_s (is_iconst (nI 1) rfl rfl) ?_
          first
            | refine ev_s (is_iadd _ rfl (nI_add _ _)) ?_
            | refine ev_s (is_iadd _ rfl rfl) ?_
          refine ev_s (is_iload_n rfl rfl) ?_
          refine ev_s (is_iconst (nI 1) rfl rfl) ?_
          refine ev_s (is_iload rfl rfl) ?_
          refine ev_s (is_ishl _ rfl (pu_shl1 (by omega))) ?_
          refine ev_s (is_ior _ rfl (nI_or _ _)) ?_
          refine ev_s (is_iload rfl rfl) ?_
          refine ev_s (is_iload rfl rfl) ?_
          refine ev_s (is_iload rfl rfl) ?_
          first
            | refine ev_s (is_iadd _ rfl (nI_add _ _)) ?_
            | refine ev_s (is_iadd _ rfl rfl) ?_
          refine ev_s (is_bipush (nI 10) rfl rfl) ?_
          refine ev_s (is_iload rfl rfl) ?_
          first
            | refine ev_s (is_imul _ rfl (pk_mul _ _)) ?_
            | refine ev_s (is_imul _ rfl rfl) ?_
          refine ev_s (is_iload rfl rfl) ?_
          first
            | refine ev_s (is_iadd _ rfl (nI_add _ _)) ?_
            | refine ev_s (is_iadd _ rfl rfl) ?_
          refine ev_s (is_iconst (nI 1) rfl rfl) ?_
          first
            | refine ev_s (is_iadd _ rfl (nI_add _ _)) ?_
            | refine ev_s (is_iadd _ rfl rfl) ?_
          refine ev_q0 (is_call0 6 [_, _, _, _, _, _] [] rfl rfl rfl rfl rfl (Nat.le_of_ble_eq_true rfl) rfl rfl rfl) rfl rfl (ihr (pl + 1) (ly ||| 2 ^ i) i (sum + (if pl % 2 = 1 then pw l i else 0)) (10 * dg + i + 1) (nI i) _ _ (by omega) (ly_lt hly (by omega)) hsm (fun _ => ⟨rfl, by omega, ly_bit ly i⟩) hk) (fun r_102 mi mr hq_102 => ?_)
          obtain ⟨hmr, hk⟩ := hq_102
          have hmr := hmr.symm
          subst hmr
          refine ev_s (st_iinc_6 _ rfl rfl (nI_inc _)) ?_
          refine ev_s (is_goto rfl) ?_
          refine ih (i + 1) _ _ (by omega) ?_
          rw [hf]
          exact hk
        · have hf : lo_fold (fun m q => if ly / 2 ^ m % 2 = 1 then q else bd_ pw n rr (pl + 1) (ly ||| 2 ^ m) m (sum + (if pl % 2 = 1 then pw l m else 0)) (10 * dg + m + 1) q) (i + 1) p = lo_fold (fun m q => if ly / 2 ^ m % 2 = 1 then q else bd_ pw n rr (pl + 1) (ly ||| 2 ^ m) m (sum + (if pl % 2 = 1 then pw l m else 0)) (10 * dg + m + 1) q) i p := if_pos h_49
          refine ev_s (is_goto rfl) ?_
          refine ev_s (st_iinc_6 _ rfl rfl (nI_inc _)) ?_
          refine ev_s (is_goto rfl) ?_
          refine ih (i + 1) _ _ (by omega) ?_
          rw [hf]
          exact hk
    show Ev _ _ 0 [.ref 36, .int (nI pl), .int (nI ly), .int lv, .int (nI sum), .int (nI dg), im_bad, im_bad] [] sh ma mr _
    refine ev_s (is_iload rfl rfl) ?_
    refine ev_s (is_aload_n rfl rfl) ?_
    refine ev_s (is_getI' rfl (pu_s hC 36 rfl rfl) rfl rfl hk.2.2.1) ?_
    refine ev_icmpN_lt rfl (by omega) (by omega) (fun h_6 => ?_) (fun h_6 => ?_)
    · refine ev_s (is_iload_n rfl rfl) ?_
      refine ev_s (is_aload_n rfl rfl) ?_
      refine ev_s (is_getI' rfl (pu_s hC 36 rfl rfl) rfl rfl hk.2.1) ?_
      refine ev_s (is_icmp_lt_t rfl ((nI_ltI (by omega) (by omega)).mpr (by omega))) ?_
      refine ev_s (is_iconst (nI 0) rfl rfl) ?_
      refine ev_s (st_istore_6 rfl rfl) ?_
      exact loop n 0 _ _ (by omega) hk
    · refine ev_ret (is_return rfl) ?_
      refine ⟨rfl, rfl, ?_⟩
      rw [bd_no pw n (rr + 1) pl ly l sum dg p (by omega)]
      exact hk

theorem x_lie_all {d : Nat} {sh : im_Sh} {mi : im_MI} {mr : im_MR} (hC : pu_C sh mr) {n : Nat} {pw : Nat → Nat → Nat} (hn : n ≤ 6) (hpwb : ∀ a b, pw a b ≤ 2376) (hpk : ∀ x y, x < n → y < n → x ≠ y → mi 37 (x * 6 + y) = nI (pw x y)) (ma : im_MI) (hk : lk_ mi ma n (10000, 0)) : EvM (d + 8) 14 [.ref 36, .int (nI 0), .int (nI 0), .int (-1), .int (nI 0), .int (nI 0)] sh ma mr (fun r sh2 m2 r2 => sh2 = sh ∧ (r2 = mr ∧ lk_ mi m2 n (bd_ pw n n 0 0 0 0 0 (10000, 0)))) := by
  have := x_lie (d := d + (6 - n)) hC hn hpwb hpk n 0 0 0 0 0 (-1) (10000, 0) ma (by omega) (by decide) (by omega) (fun q => absurd q (by decide)) hk
  rw [show d + (6 - n) + n + 2 = d + 8 by omega] at this
  exact this

theorem x_lieBest {d : Nat} {sh : im_Sh} {mi : im_MI} {mr : im_MR} (hC : pu_C sh mr) {n : Nat} {pw : Nat → Nat → Nat} (hn : n ≤ 6) (hpwb : ∀ a b, pw a b ≤ 2376) (hpk : ∀ x y, x < n → y < n → x ≠ y → mi 37 (x * 6 + y) = nI (pw x y)) (h36 : mi 36 1 = nI n) : EvM (d + 9) 13 [.ref 36] sh mi mr (fun r sh2 m2 r2 => sh2 = sh ∧ (r2 = mr ∧ lk_ mi m2 n (bd_ pw n n 0 0 0 0 0 (10000, 0)))) := by
  show Ev (d + 9) 13 0 [.ref 36] [] sh mi mr _
  refine ev_s (is_aload_n rfl rfl) ?_
  refine ev_s (is_sipush (nI 10000) rfl rfl) ?_
  refine ev_s (is_putI rfl (pu_s hC 36 rfl rfl) rfl rfl rfl) ?_
  refine ev_s (is_aload_n rfl rfl) ?_
  refine ev_s (is_iconst (nI 0) rfl rfl) ?_
  refine ev_s (is_putI rfl (pu_s hC 36 rfl rfl) rfl rfl rfl) ?_
  refine ev_s (is_aload_n rfl rfl) ?_
  refine ev_s (is_iconst (nI 0) rfl rfl) ?_
  refine ev_s (is_iconst (nI 0) rfl rfl) ?_
  refine ev_s (is_iconst ((-1)) rfl rfl) ?_
  refine ev_s (is_iconst (nI 0) rfl rfl) ?_
  refine ev_s (is_iconst (nI 0) rfl rfl) ?_
  refine ev_q0 (is_call0 6 [_, _, _, _, _, _] [] rfl rfl rfl rfl rfl (Nat.le_of_ble_eq_true rfl) rfl rfl rfl) rfl rfl (x_lie_all hC hn hpwb hpk (im_u (im_u mi 36 2 (nI 10000)) 36 3 (nI 0)) ⟨fun k hk2 => by rw [im_u_kk _ _ _ _ hk2, im_u_kk _ _ _ _ hk2], by rw [im_u_j _ _ _ _ (by decide), im_u_j _ _ _ _ (by decide)]; exact h36, by rw [im_u_j _ _ _ _ (by decide), im_u_s], im_u_s _ _ _ _, Nat.le_refl _⟩) (fun r_18 mi mr hq_18 => ?_)
  obtain ⟨hmr, hk⟩ := hq_18
  have hmr := hmr.symm
  subst hmr
  refine ev_ret (is_return rfl) ?_
  exact ⟨rfl, rfl, hk⟩

theorem x_beds {d : Nat} {sh : im_Sh} {mi : im_MI} {mr : im_MR} (hC : pu_C sh mr) {H : ho_T} {G : ho_G} (hx : xa_ok H G mi mr) (w : Int32) : EvM (d + 10) 81 [.ref 29, .int w] sh mi mr (fun r sh2 m2 r2 => sh2 = sh ∧ (r = .int (an_beds H G w) ∧ r2 = mr ∧ sc_ xQ mi m2)) := by
  show Ev (d + 10) 81 0 [.ref 29, .int w] [] sh mi mr _
  have hn6 := xa_n hx
  have hs : sc_ xQ mi mi := sc_rf
  refine ev_s (is_iload_n rfl rfl) ?_
  refine ev_s (is_iconst (nI 0) rfl rfl) ?_
  refine ev_s (is_iconst (nI 1) rfl rfl) ?_
  refine ev_c1 (is_call0 3 [_, _, _] [] rfl rfl rfl rfl rfl (Nat.le_of_ble_eq_true rfl) rfl rfl rfl) rfl rfl (x_within' _ _ _) ?_
  refine ev_ifB_ne rfl (fun h_6 => ?_) (fun h_6 => ?_)
  · refine ev_s (is_aload_n rfl rfl) ?_
    refine ev_s (is_getR rfl (pu_s hC 29 rfl rfl) rfl rfl (pu_r hC 29 10 rfl rfl)) ?_
    refine ev_s (is_aload_n rfl rfl) ?_
    refine ev_s (is_getR rfl (pu_s hC 29 rfl rfl) rfl rfl (pu_r hC 29 0 rfl rfl)) ?_
    refine ev_s (is_aload_n rfl rfl) ?_
    refine ev_s (is_getI' rfl (pu_s hC 29 rfl rfl) rfl rfl hx.1) ?_
    refine ev_s (is_aload_n rfl rfl) ?_
    refine ev_s (is_getR rfl (pu_s hC 29 rfl rfl) rfl rfl (pu_r hC 29 3 rfl rfl)) ?_
    refine ev_q0 (is_callR 4 [_, _, _] [] rfl rfl rfl rfl rfl (Nat.le_of_ble_eq_true rfl) rfl rfl rfl (pu_s hC 36 rfl rfl)) rfl rfl (x_weigh hC hx) (fun r_28 mi mr hq_28 => ?_)
    obtain ⟨hmr, hsc, h36, hpk⟩ := hq_28
    have hmr := hmr.symm
    subst hmr
    have hs := hs.trans hsc
    have hx := xa_sc hx hsc
    refine ev_s (is_aload_n rfl rfl) ?_
    refine ev_s (is_getR rfl (pu_s hC 29 rfl rfl) rfl rfl (pu_r hC 29 10 rfl rfl)) ?_
    refine ev_q0 (is_callR 1 [] [] rfl rfl rfl rfl rfl (Nat.le_of_ble_eq_true rfl) rfl rfl rfl (pu_s hC 36 rfl rfl)) rfl rfl (x_lieBest hC (n := H 0 0) (pw := pw_ H G) hn6 (pw_le H G) (fun x y h1 h2 h3 => pk_at hpk h1 h2 h3) h36) (fun r_35 mi mr hq_35 => ?_)
    obtain ⟨hmr, hk⟩ := hq_35
    have hmr := hmr.symm
    subst hmr
    have hs := hs.trans (fun k hk2 => hk.1 k (fun e => by rw [e] at hk2; exact absurd hk2 (by decide)))
    refine ev_s (is_iload_n rfl rfl) ?_
    refine ev_if_ne rfl (fun h_39 => ?_) (fun h_39 => ?_)
    · refine ev_s (is_aload_n rfl rfl) ?_
      refine ev_s (is_getR rfl (pu_s hC 29 rfl rfl) rfl rfl (pu_r hC 29 10 rfl rfl)) ?_
      refine ev_s (is_getI' rfl (pu_s hC 36 rfl rfl) rfl rfl hk.2.2.1) ?_
      refine ev_ret (is_ireturn rfl rfl (by first | rfl | exact pu_b_nar | decide)) ?_
      first
        | (rw [an_beds, if_neg h_6]; exact ⟨rfl, rfl, rfl, sc_rf⟩)
        | (have e : w = nI 0 := Decidable.of_not_not h_39
           rw [an_beds, if_pos h_6, if_pos e]
           exact ⟨rfl, rfl, rfl, hs⟩)
        | (have e : ¬ w = nI 0 := h_39
           rw [an_beds, if_pos h_6, if_neg e]
           exact ⟨rfl, rfl, rfl, hs⟩)
    · refine ev_s (is_aload_n rfl rfl) ?_
      refine ev_s (is_getR rfl (pu_s hC 29 rfl rfl) rfl rfl (pu_r hC 29 10 rfl rfl)) ?_
      refine ev_s (is_getI' rfl (pu_s hC 36 rfl rfl) rfl rfl hk.2.2.2.1) ?_
      refine ev_s (is_goto rfl) ?_
      refine ev_ret (is_ireturn rfl rfl (by first | rfl | exact pu_b_nar | decide)) ?_
      first
        | (rw [an_beds, if_neg h_6]; exact ⟨rfl, rfl, rfl, sc_rf⟩)
        | (have e : w = nI 0 := Decidable.of_not_not h_39
           rw [an_beds, if_pos h_6, if_pos e]
           exact ⟨rfl, rfl, rfl, hs⟩)
        | (have e : ¬ w = nI 0 := h_39
           rw [an_beds, if_pos h_6, if_neg e]
           exact ⟨rfl, rfl, rfl, hs⟩)
  · refine ev_s (is_bipush ((-2)) rfl rfl) ?_
    refine ev_ret (is_ireturn rfl rfl (by first | rfl | exact pu_b_nar | decide)) ?_
    first
      | (rw [an_beds, if_neg h_6]; exact ⟨rfl, rfl, rfl, sc_rf⟩)
      | (have e : w = nI 0 := Decidable.of_not_not h_39
         rw [an_beds, if_pos h_6, if_pos e]
         exact ⟨rfl, rfl, rfl, hs⟩)
      | (have e : ¬ w = nI 0 := h_39
         rw [an_beds, if_pos h_6, if_neg e]
         exact ⟨rfl, rfl, rfl, hs⟩)
