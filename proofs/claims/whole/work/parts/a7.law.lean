/-! ===== PURE, the law: from its entry to its end ===== -/
theorem lw_stop : ∀ LL, LL < 7 → nI LL - nI 7 < nI 0 := by decide
theorem lw_loop {d LL : Nat} {xs : Nat → Int32} {sh : im_Sh} (hLL : LL ≤ 3584) (h7 : 7 ≤ LL) : ∀ (n i : Nat) (H K : ho_T) (G : ho_G) (mi : im_MI) (mr : im_MR), LL ≤ i + n → i ≤ LL → lw_M LL xs H K G H K G sh mi mr → Ev (d + 58) 221 18 [.ref 0, .ref 29, .ref 110, .int (nI i)] [] sh mi mr (fun r s2 _ _ => r = .int (nI 1) ∧ s2 = sh) := by
  intro n
  induction n with
  | zero =>
    intro i H K G mi mr hn hi J
    refine ev_s (is_iload_n rfl rfl) ?_
    refine ev_s (is_aload_n rfl rfl) ?_
    refine ev_s (is_alen rfl J.2.1 (by decide)) ?_
    refine ev_s (is_bipush (nI 7) rfl rfl) ?_
    refine ev_s (is_isub (nI (LL - 7)) rfl (pk_sub h7)) ?_
    refine ev_s (is_icmp_gt_t rfl (nI_lt (by omega) (by omega))) ?_
    refine ev_s (is_iconst (nI 1) rfl rfl) ?_
    exact ev_ret (is_ireturn rfl rfl rfl) ⟨rfl, rfl⟩
  | succ n ih =>
    intro i H K G mi mr hn hi J
    refine ev_s (is_iload_n rfl rfl) ?_
    refine ev_s (is_aload_n rfl rfl) ?_
    refine ev_s (is_alen rfl J.2.1 (by decide)) ?_
    refine ev_s (is_bipush (nI 7) rfl rfl) ?_
    refine ev_s (is_isub (nI (LL - 7)) rfl (pk_sub h7)) ?_
    by_cases c : i + 7 ≤ LL
    · refine ev_s (is_icmp_gt_f rfl (nI_nlt (by omega) (by omega))) ?_
      have next : ∀ (H K : ho_T) (G : ho_G) (m3 : im_MI) (r3 : im_MR), lw_M LL xs H K G H K G sh m3 r3 → Ev (d + 58) 221 1489 [.ref 0, .ref 29, .ref 110, .int (nI i)] [] sh m3 r3 (fun r s2 _ _ => r = .int (nI 1) ∧ s2 = sh) := fun H K G m3 r3 J3 => by
        refine ev_s (st_iinc_3 (nI (i + 7)) rfl rfl (nI_7 i)) ?_
        refine ev_s (is_goto rfl) ?_
        exact ih (i + 7) H K G m3 r3 (by omega) c J3
      refine ev_s (is_aload_n rfl rfl) ?_
      refine ev_s (is_iload_n rfl rfl) ?_
      refine ev_s (is_ialoadS i rfl J.2.1 (Nat.ble_eq.mpr (by omega)) rfl (by omega) (J.2.2.1 _)) ?_
      refine ev_s (is_bipush (nI 63) rfl rfl) ?_
      refine ev_s (is_iand (xs i &&& nI 63) rfl rfl) ?_
      generalize xs i &&& nI 63 = v
      by_cases hv : 0 ≤ v.toInt ∧ v.toInt ≤ 37
      · obtain ⟨q, hq, rfl⟩ : ∃ q, q < 38 ∧ v = nI q := ⟨v.toInt.toNat, by omega, by
          apply Int32.toInt_inj.mp
          rw [nI_toInt (by omega)]
          omega⟩
        clear hv
        rcases (show q = 0 ∨ q = 1 ∨ q = 2 ∨ q = 3 ∨ q = 4 ∨ q = 5 ∨ q = 6 ∨ q = 7 ∨ q = 8 ∨ q = 9 ∨ q = 10 ∨ q = 11 ∨ q = 12 ∨ q = 13 ∨ q = 14 ∨ q = 15 ∨ q = 16 ∨ q = 17 ∨ q = 18 ∨ q = 19 ∨ q = 20 ∨ q = 21 ∨ q = 22 ∨ q = 23 ∨ q = 24 ∨ q = 25 ∨ q = 26 ∨ q = 27 ∨ q = 28 ∨ q = 29 ∨ q = 30 ∨ q = 31 ∨ q = 32 ∨ q = 33 ∨ q = 34 ∨ q = 35 ∨ q = 36 ∨ q = 37 by omega) with rfl | rfl | rfl | rfl | rfl | rfl | rfl | rfl | rfl | rfl | rfl | rfl | rfl | rfl | rfl | rfl | rfl | rfl | rfl | rfl | rfl | rfl | rfl | rfl | rfl | rfl | rfl | rfl | rfl | rfl | rfl | rfl | rfl | rfl | rfl | rfl | rfl | rfl
        · exact ev_s (is_tsw 200 rfl (by decide)) (lw_c0 J c hLL next)
        · exact ev_s (is_tsw 223 rfl (by decide)) (lw_c1 J c hLL next)
        · exact ev_s (is_tsw 246 rfl (by decide)) (lw_c2 J c hLL next)
        · exact ev_s (is_tsw 321 rfl (by decide)) (lw_c3 J c hLL next)
        · exact ev_s (is_tsw 334 rfl (by decide)) (lw_c4 J c hLL next)
        · exact ev_s (is_tsw 357 rfl (by decide)) (lw_c5 J c hLL next)
        · exact ev_s (is_tsw 400 rfl (by decide)) (lw_c6 J c hLL next)
        · exact ev_s (is_tsw 423 rfl (by decide)) (lw_c7 J c hLL next)
        · exact ev_s (is_tsw 466 rfl (by decide)) (lw_c8 J c hLL next)
        · exact ev_s (is_tsw 499 rfl (by decide)) (lw_c9 J c hLL next)
        · exact ev_s (is_tsw 532 rfl (by decide)) (lw_c10 J c hLL next)
        · exact ev_s (is_tsw 575 rfl (by decide)) (lw_c11 J c hLL next)
        · exact ev_s (is_tsw 608 rfl (by decide)) (lw_c12 J c hLL next)
        · exact ev_s (is_tsw 621 rfl (by decide)) (lw_c13 J c hLL next)
        · exact ev_s (is_tsw 634 rfl (by decide)) (lw_c14 J c hLL next)
        · exact ev_s (is_tsw 667 rfl (by decide)) (lw_c15 J c hLL next)
        · exact ev_s (is_tsw 690 rfl (by decide)) (lw_c16 J c hLL next)
        · exact ev_s (is_tsw 713 rfl (by decide)) (lw_c17 J c hLL next)
        · exact ev_s (is_tsw 746 rfl (by decide)) (lw_c18 J c hLL next)
        · exact ev_s (is_tsw 780 rfl (by decide)) (lw_c19 J c hLL next)
        · exact ev_s (is_tsw 813 rfl (by decide)) (lw_c20 J c hLL next)
        · exact ev_s (is_tsw 846 rfl (by decide)) (lw_c21 J c hLL next)
        · exact ev_s (is_tsw 869 rfl (by decide)) (lw_c22 J c hLL next)
        · exact ev_s (is_tsw 913 rfl (by decide)) (lw_c23 J c hLL next)
        · exact ev_s (is_tsw 946 rfl (by decide)) (lw_c24 J c hLL next)
        · exact ev_s (is_tsw 989 rfl (by decide)) (lw_c25 J c hLL next)
        · exact ev_s (is_tsw 1032 rfl (by decide)) (lw_c26 J c hLL next)
        · exact ev_s (is_tsw 1065 rfl (by decide)) (lw_c27 J c hLL next)
        · exact ev_s (is_tsw 1088 rfl (by decide)) (lw_c28 J c hLL next)
        · exact ev_s (is_tsw 1131 rfl (by decide)) (lw_c29 J c hLL next)
        · exact ev_s (is_tsw 1164 rfl (by decide)) (lw_c30 J c hLL next)
        · exact ev_s (is_tsw 1228 rfl (by decide)) (lw_c31 J c hLL next)
        · exact ev_s (is_tsw 1241 rfl (by decide)) (lw_c32 J c hLL next)
        · exact ev_s (is_tsw 1254 rfl (by decide)) (lw_c33 J c hLL next)
        · exact ev_s (is_tsw 1297 rfl (by decide)) (lw_c34 J c hLL next)
        · exact ev_s (is_tsw 1340 rfl (by decide)) (lw_c35 J c hLL next)
        · exact ev_s (is_tsw 1403 rfl (by decide)) (lw_c36 J c hLL next)
        · exact ev_s (is_tsw 1456 rfl (by decide)) (lw_c37 J c hLL next)
      · exact ev_s (is_tswD 1489 rfl (by omega) (by decide)) (next H K G mi mr J)
    · refine ev_s (is_icmp_gt_t rfl (nI_lt (by omega) (by omega))) ?_
      refine ev_s (is_iconst (nI 1) rfl rfl) ?_
      exact ev_ret (is_ireturn rfl rfl rfl) ⟨rfl, rfl⟩
/-- a constructor is called; what it leaves is told by q -/
theorem ev_kQ {d y pc LL n n2 : Nat} {L st : List Value} {mi : im_MI} {mr : im_MR} {Q : ev_Q} {y2 nx : Nat} {as rest : List Value} {q : im_MI → im_MR → Prop} (h : im_step y pc L st (sf_ LL n) mi mr = some (.inr (.inr (y2, as, nx, rest)))) (hr : im_rt y2 = none) (hf : Nat.ble (im_flat as).length (im_mx y2) = true) (hm : EvM d y2 as (sf_ LL n) mi mr (fun _ s2 m2 r2 => s2 = sf_ LL n2 ∧ q m2 r2)) (hn : 29 ≤ n) (hL : vn_ n L = true) (hR : vn_ n rest = true) (k : ∀ m2 r2, q m2 r2 → Ev (d + 1) y nx L rest (sf_ LL n2) m2 r2 Q) : Ev (d + 1) y pc L st (sf_ LL n) mi mr Q :=
  ev_call0 h (Nat.le_of_ble_eq_true hf) hm (fun r s2 m2 r2 hq => by
    obtain ⟨rfl, hq⟩ := hq
    refine ⟨Or.inr ⟨by rw [vn_va (sf_len hn)]; exact hL, by rw [vn_va (sf_len hn)]; exact hR⟩, ?_⟩
    rw [hr]
    exact k m2 r2 hq)
theorem nz_A {xs : Nat → Int32} {m1 : im_MI} (hsc : sc_ (xv_S 0) (i9_2 xs) m1) : nz_ 110 (im_u (im_u (im_u m1 33 1 (nI 0)) 104 1 (nI 0)) 107 1 (nI 0)) r9_2 := by
  refine nz_i (nz_i (nz_i ⟨fun k hk => ?_, fun k hk => ?_⟩ (by decide)) (by decide)) (by decide)
  · rw [hsc k (xv_ne (by omega) (Or.inr (by omega)))]
    show sp_ 38 (ml_sh 4 (ml_txt 6 (i9_0 xs))) k = _
    rw [sp_row (by omega) (by omega), ml_sh_row _ (Or.inr (by omega)) _ (by decide)]
    funext j
    rw [ml_txt_at _ (Or.inr (Or.inr (by omega))) _ (by decide), (nz_9 xs).1 k (by omega)]
  · unfold r9_2
    rw [im_u_ne _ _ _ _ (by omega), im_u_ne _ _ _ _ (by omega), im_u_ne _ _ _ _ (by omega), im_u_ne _ _ _ _ (by omega), im_u_ne _ _ _ _ (by omega), im_u_ne _ _ _ _ (by omega), im_u_ne _ _ _ _ (by omega), im_u_ne _ _ _ _ (by omega), im_u_ne _ _ _ _ (by omega), im_u_ne _ _ _ _ (by omega)]
    exact (rl_nz (xs := xs)).2 k (by omega)
theorem lw_pure {d LL : Nat} {xs : Nat → Int32} (hLL : LL ≤ 3584) : Ev (d + 58) 221 0 [.ref 0, im_bad, im_bad, im_bad] [] (sf_ LL 29) (im_xi xs) im_xr (fun r s2 _ _ => r = .int (nI 1) ∧ s2 = sf_ LL 133) := by
  refine ev_s (en_N rfl (by decide) rfl rfl rfl rfl (nz_x0 xs)) ?_
  refine ev_s (is_dup rfl rfl) ?_
  refine ev_kQ (is_callR 1 [] [_] rfl rfl rfl rfl rfl (Nat.le_of_ble_eq_true rfl) rfl rfl rfl (sf_at (k := 29) rfl rfl)) rfl rfl xi_class (by decide) rfl rfl (fun mA rA hA => ?_)
  obtain ⟨rfl, m1, hsc, hf, rfl⟩ := hA
  have hzA := nz_A hsc
  have hcA := ci_A hsc hf
  generalize (im_u (im_u (im_u m1 33 1 (nI 0)) 104 1 (nI 0)) 107 1 (nI 0)) = mA at hzA hcA ⊢
  refine ev_s (st_astore_n_1 rfl rfl) ?_
  refine ev_s (en_N rfl (by decide) rfl rfl rfl rfl hzA) ?_
  refine ev_s (is_dup rfl rfl) ?_
  refine ev_kQ (is_callR 1 [] [_] rfl rfl rfl rfl rfl (Nat.le_of_ble_eq_true rfl) rfl rfl rfl (sf_at (k := 110) rfl rfl)) rfl rfl (xi_ref (nz_m hzA (by decide)) (hzA.1 110 (Nat.le_refl _)) (pu_C0 LL)) (by decide) rfl rfl (fun mB rB hB => ?_)
  obtain ⟨rfl, m2, hu, hg, rfl⟩ := hB
  refine ev_s (st_astore_n_2 rfl rfl) ?_
  refine ev_s (is_iconst (nI 0) rfl rfl) ?_
  refine ev_s (st_istore_n_3 rfl rfl) ?_
  have hr := ri_B hzA hu hg
  have hcB : ci_ xs (im_u (im_u m2 110 6 (nI 0)) 110 9 (nI 1)) := ci_o hcA fun k hk => by
    rw [im_u_row' (by omega), im_u_row' (by omega)]
    funext j
    have e : m2 k = i10_ mA k := hu.1 k (by omega) (by omega) (by omega) (by omega)
    rw [e, i10_row (by omega) (by omega) (by omega) (by omega) (by omega)]
  have hx := ci_x (mr := r10_ r9_2) hcB rfl
  have J : lw_M LL xs h0_ k0_ g0_ h0_ k0_ g0_ (sf_ LL 133) (im_u (im_u m2 110 6 (nI 0)) 110 9 (nI 1)) (r10_ r9_2) := ⟨pu_C0 LL, rfl, hx.2.2.2.2, hx.1, hx.2.1, hx.2.2.1, hx.2.2.2.1, hr.1, hr.2⟩
  by_cases h7 : 7 ≤ LL
  · exact lw_loop hLL h7 LL 0 h0_ k0_ g0_ _ _ (by omega) (Nat.zero_le _) J
  · refine ev_s (is_iload_n rfl rfl) ?_
    refine ev_s (is_aload_n rfl rfl) ?_
    refine ev_s (is_alen rfl J.2.1 (by decide)) ?_
    refine ev_s (is_bipush (nI 7) rfl rfl) ?_
    refine ev_s (is_isub _ rfl rfl) ?_
    refine ev_s (is_icmp_gt_t rfl (lw_stop LL (by omega))) ?_
    refine ev_s (is_iconst (nI 1) rfl rfl) ?_
    exact ev_ret (is_ireturn rfl rfl rfl) ⟨rfl, rfl⟩
