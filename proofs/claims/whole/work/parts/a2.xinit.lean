/-! ===== PURE, the class is made: the whole of it ===== -/
/-- men, texts, sheets are made: i of them -/
def rl_men : Nat → im_MR → im_MR
  | 0, mr => mr
  | i + 1, mr => im_u (im_u (im_u (im_u (rl_men i mr) (54 + 4 * i) 4 (some (54 + 4 * i + 1))) 30 i (some (54 + 4 * i))) (54 + 4 * i + 1 + 1) 4 (some (54 + 4 * i + 1 + 1 + 1))) 31 i (some (54 + 4 * i + 1 + 1))
def rl_txt : Nat → im_MR → im_MR
  | 0, mr => mr
  | i + 1, mr => im_u (im_u (im_u (rl_txt i mr) (78 + 3 * i) 0 (some (78 + 3 * i + 1))) (78 + 3 * i) 1 (some (78 + 3 * i + 1 + 1))) 32 i (some (78 + 3 * i))
def ml_txt : Nat → im_MI → im_MI
  | 0, mi => mi
  | i + 1, mi => im_u (ml_txt i mi) (78 + 3 * i) 2 (nI 0)
def rl_sh : Nat → im_MR → im_MR
  | 0, mr => mr
  | i + 1, mr => im_u (im_u (rl_sh i mr) (96 + 2 * i) 0 (some (96 + 2 * i + 1))) 39 i (some (96 + 2 * i))
def ml_sh : Nat → im_MI → im_MI
  | 0, mi => mi
  | i + 1, mi => im_u (im_u (ml_sh i mi) (96 + 2 * i) 1 (-1)) (96 + 2 * i) 2 (nI 0)
theorem rl_men_row (mr : im_MR) {k : Nat} (h : k < 54) (h0 : k ≠ 30) (h1 : k ≠ 31) : ∀ i, rl_men i mr k = mr k
  | 0 => rfl
  | i + 1 => by
    show im_u (im_u (im_u (im_u (rl_men i mr) _ _ _) _ _ _) _ _ _) _ _ _ k = _
    rw [im_u_ne _ _ _ _ h1, im_u_ne _ _ _ _ (by omega), im_u_ne _ _ _ _ h0, im_u_ne _ _ _ _ (by omega)]
    exact rl_men_row mr h h0 h1 i
theorem rl_txt_row (mr : im_MR) {k : Nat} (h : k < 78) (h0 : k ≠ 32) : ∀ i, rl_txt i mr k = mr k
  | 0 => rfl
  | i + 1 => by
    show im_u (im_u (im_u (rl_txt i mr) _ _ _) _ _ _) _ _ _ k = _
    rw [im_u_ne _ _ _ _ h0, im_u_ne _ _ _ _ (by omega), im_u_ne _ _ _ _ (by omega)]
    exact rl_txt_row mr h h0 i
theorem rl_sh_row (mr : im_MR) {k : Nat} (h : k < 96) (h0 : k ≠ 39) : ∀ i, rl_sh i mr k = mr k
  | 0 => rfl
  | i + 1 => by
    show im_u (im_u (rl_sh i mr) _ _ _) _ _ _ k = _
    rw [im_u_ne _ _ _ _ h0, im_u_ne _ _ _ _ (by omega)]
    exact rl_sh_row mr h h0 i
theorem ml_txt_at (mi : im_MI) {k j : Nat} (h : j ≠ 2 ∨ k < 78 ∨ 96 ≤ k) : ∀ i, i ≤ 6 → ml_txt i mi k j = mi k j
  | 0, _ => rfl
  | i + 1, hi => by
    show im_u (ml_txt i mi) _ _ _ k j = _
    have e : ¬ (k = 78 + 3 * i ∧ j = 2) := by omega
    unfold im_u
    rw [if_neg e]
    exact ml_txt_at mi h i (by omega)
theorem ml_sh_row (mi : im_MI) {k : Nat} (h : k < 96 ∨ 104 ≤ k) : ∀ i, i ≤ 4 → ml_sh i mi k = mi k
  | 0, _ => rfl
  | i + 1, hi => by
    show im_u (im_u (ml_sh i mi) _ _ _) _ _ _ k = _
    rw [im_u_ne _ _ _ _ (by omega), im_u_ne _ _ _ _ (by omega)]
    exact ml_sh_row mi h i (by omega)
theorem im_s0_men : ∀ i, i < 6 → im_s0 (54 + 4 * i) = (1, 5) ∧ im_s0 (54 + 4 * i + 1) = (100, 12) ∧ im_s0 (54 + 4 * i + 1 + 1) = (1, 5) ∧ im_s0 (54 + 4 * i + 1 + 1 + 1) = (100, 12) := by decide
theorem im_s0_txt : ∀ i, i < 6 → im_s0 (78 + 3 * i) = (6, 3) ∧ im_s0 (78 + 3 * i + 1) = (100, 160) ∧ im_s0 (78 + 3 * i + 1 + 1) = (100, 3) := by decide
theorem im_s0_sh : ∀ i, i < 4 → im_s0 (96 + 2 * i) = (4, 3) ∧ im_s0 (96 + 2 * i + 1) = (100, 40) := by decide
theorem rl_imz {mi : im_MI} {mr : im_MR} (hz : nz_ 54 mi mr) : ∀ i, i ≤ 6 → nz_ 54 mi (rl_im i mr)
  | 0, _ => hz
  | i + 1, hi => nz_r (nz_r (rl_imz hz i (by omega)) (by omega)) (by omega)
/-- the references ahead of the loops, behind them, at the end; the numbers -/
def r9_0 : im_MR := im_u (rl_im 6 (im_u (im_u (im_u (im_u (im_u (im_u (im_u (im_u (im_u (im_u (im_u (im_u (im_u im_xr 29 0 (some 30)) 29 1 (some 31)) 29 5 (some 32)) 33 0 (some 34)) 29 8 (some 33)) 35 0 none) 35 1 none) 29 9 (some 35)) 36 0 (some 37)) 29 10 (some 36)) 29 11 (some 38)) 29 12 (some 39)) 40 0 (some 41))) 29 13 (some 40)
def r9_1 : im_MR := rl_sh 4 (rl_txt 6 (rl_men 6 r9_0))
def r9_2 : im_MR := im_u (im_u (im_u (im_u (im_u (im_u (im_u (im_u (im_u (im_u r9_1 35 0 (some 33)) 35 1 (some 78)) 104 2 (some 105)) 104 3 (some 106)) 104 0 (some 78)) 29 3 (some 104)) 107 2 (some 108)) 107 3 (some 109)) 107 0 (some 78)) 29 4 (some 107)
def i9_0 (xs : Nat → Int32) : im_MI := im_u (im_u (im_u (im_u (im_u (im_xi xs) 29 2 (nI 0)) 29 6 (nI 1)) 29 7 (nI 0)) 33 1 (nI 0)) 40 1 (nI 0)
def i9_1 (xs : Nat → Int32) : im_MI := ml_sh 4 (ml_txt 6 (i9_0 xs))
def i9_2 (xs : Nat → Int32) : im_MI := sp_ 38 (i9_1 xs)
theorem im_xi_0 (xs : Nat → Int32) {k : Nat} (h : 29 ≤ k) : im_xi xs k = fun _ => 0 := by
  funext j
  unfold im_xi
  have e : im_byt.getD (k - 16) [] = [] := by
    rw [List.getD_eq_getElem?_getD, List.getElem?_eq_none (by show 13 ≤ k - 16; omega)]
    rfl
  rw [if_neg (by omega), if_neg (by omega), if_pos (by omega), e]
  rfl
theorem im_xr_0 {k : Nat} (h : 29 ≤ k) : im_xr k = fun _ => none := by
  funext j
  exact if_neg (by omega)
theorem nz_x0 (xs : Nat → Int32) : nz_ 29 (im_xi xs) im_xr := ⟨fun _ h => im_xi_0 xs h, fun _ h => im_xr_0 h⟩
theorem nz_9 (xs : Nat → Int32) : nz_ 54 (i9_0 xs) r9_0 := by
  refine nz_r (rl_imz ?_ 6 (by decide)) (by decide)
  have h := nz_m (nz_x0 xs) (show 29 ≤ 54 by decide)
  unfold i9_0
  repeat (first | exact h | refine nz_r ?_ (by decide) | refine nz_i ?_ (by decide))
def lw_l : List (List Nat) := [[0, 1, 18], [100009], [100020]]
set_option maxRecDepth 100000 in
theorem lw_reads : rdT (tk_k lb_ 38) (tk_v lb_ 38) (tk_f lb_ 38) (tk_t lb_ 38) 3 0 = .inr lw_l := by decide +kernel
theorem nz_men {mi : im_MI} {mr : im_MR} (hz : nz_ 54 mi mr) : ∀ i, nz_ (54 + 4 * i) mi (rl_men i mr)
  | 0 => hz
  | i + 1 => nz_r (nz_r (nz_r (nz_r (nz_m (nz_men hz i) (by omega)) (by omega)) (by omega)) (by omega)) (by omega)
theorem nz_txt {mi : im_MI} {mr : im_MR} (hz : nz_ 78 mi mr) : ∀ i, nz_ (78 + 3 * i) (ml_txt i mi) (rl_txt i mr)
  | 0 => hz
  | i + 1 => nz_i (nz_r (nz_r (nz_r (nz_m (nz_txt hz i) (by omega)) (by omega)) (by omega)) (by omega)) (by omega)
theorem nz_sh {mi : im_MI} {mr : im_MR} (hz : nz_ 96 mi mr) : ∀ i, nz_ (96 + 2 * i) (ml_sh i mi) (rl_sh i mr)
  | 0 => hz
  | i + 1 => nz_i (nz_i (nz_r (nz_r (nz_m (nz_sh hz i) (by omega)) (by omega)) (by omega)) (by omega)) (by omega)
theorem rl_nz {xs : Nat → Int32} : nz_ 104 (i9_1 xs) r9_1 := nz_sh (nz_txt (nz_men (nz_9 xs) 6) 6) 4
theorem xi9_c {d LL : Nat} {xs : Nat → Int32} {v : Int32} : Ev (d + 57) 64 199 [.ref 29, .int v] [] (sf_ LL 104) (i9_1 xs) r9_1 (fun _ s2 m2 r2 => s2 = sf_ LL 110 ∧ r2 = r9_2 ∧ ∃ m1, sc_ (xv_S 0) (i9_2 xs) m1 ∧ xf_ 0 m1 lw_l ∧ m2 = im_u (im_u (im_u m1 33 1 (nI 0)) 104 1 (nI 0)) 107 1 (nI 0)) := by
  have h1 : xl_M (i9_1 xs) := by
    have e : ∀ k, k < 29 → i9_1 xs k = im_xi xs k := fun k hk => by
      unfold i9_1 i9_0
      rw [ml_sh_row _ (Or.inl (by omega)) _ (by decide)]
      funext j
      rw [ml_txt_at _ (Or.inr (Or.inl (by omega))) _ (by decide), im_u_k _ _ _ _ (by omega), im_u_k _ _ _ _ (by omega), im_u_k _ _ _ _ (by omega), im_u_k _ _ _ _ (by omega), im_u_k _ _ _ _ (by omega)]
    unfold xl_M
    rw [e 3 (by decide), e 16 (by decide)]
    refine ⟨rfl, fun j hj => ?_⟩
    have : ∀ j, j < 38 → (im_byt.getD 0 []).getD j 0 = nI (lb_ j) := by decide
    exact this j hj
  have h33 : i9_1 xs 33 1 = nI 0 := by
    unfold i9_1 i9_0
    rw [ml_sh_row _ (Or.inl (by decide)) _ (by decide), ml_txt_at _ (Or.inl (by decide)) _ (by decide), im_u_k _ _ _ _ (by decide), im_u_s]
  refine ev_s (is_aload_n rfl rfl) ?_
  refine ev_s (is_getR rfl (sf_at (k := 29) rfl rfl) rfl rfl (q := 33) (by rfl)) ?_
  refine ev_s (is_ldcS rfl) ?_
  refine ev_q0 (is_callR 2 [_] [] rfl rfl rfl rfl rfl (Nat.le_of_ble_eq_true rfl) rfl rfl rfl (sf_at (k := 33) rfl rfl)) rfl rfl (xl_spell ⟨(sf_at (k := 3) rfl rfl), (sf_at (k := 16) rfl rfl), rfl⟩ h1 (sf_at (k := 33) rfl rfl) (sf_at (k := 34) rfl rfl) rfl h33) (fun r_205 mi mr hq_205 => ?_)
  obtain ⟨hm_205, hr_205⟩ := hq_205
  subst hm_205
  subst hr_205
  refine ev_s (is_aload_n rfl rfl) ?_
  refine ev_s (is_getR rfl (sf_at (k := 29) rfl rfl) rfl rfl (q := 35) (by rfl)) ?_
  refine ev_s (is_aload_n rfl rfl) ?_
  refine ev_s (is_getR rfl (sf_at (k := 29) rfl rfl) rfl rfl (q := 33) (by rfl)) ?_
  refine ev_s (is_aload_n rfl rfl) ?_
  refine ev_s (is_getR rfl (sf_at (k := 29) rfl rfl) rfl rfl (q := 32) (by rfl)) ?_
  refine ev_s (is_iconst (nI 0) rfl rfl) ?_
  refine ev_s (is_aaload (k := 6) 0 rfl (sf_at (k := 32) rfl rfl) rfl rfl rfl (by decide) (q := 78) (by rfl)) ?_
  have hM : xs_M (i9_2 xs) lb_ 38 := by
    refine ⟨sp_33 h33 38, sp_34 38, by decide, fun j => ?_, fun w hw => ?_⟩
    · by_cases c : j < 38
      · have := lb_lt j c; omega
      · unfold lb_; rw [List.getD_eq_getElem?_getD, List.getElem?_eq_none (by show 38 ≤ j; omega)]; decide
    · have e : ∀ k, k < 29 → i9_2 xs k = im_xi xs k := fun k hk => by
        unfold i9_2 i9_1 i9_0
        rw [sp_row (by omega) (by omega), ml_sh_row _ (Or.inl (by omega)) _ (by decide)]
        funext j
        rw [ml_txt_at _ (Or.inr (Or.inl (by omega))) _ (by decide), im_u_k _ _ _ _ (by omega), im_u_k _ _ _ _ (by omega), im_u_k _ _ _ _ (by omega), im_u_k _ _ _ _ (by omega), im_u_k _ _ _ _ (by omega)]
      rw [e _ (by omega), e _ (by omega)]
      have h : ∀ w, w < 12 → ∀ j, j < (wl_ w).length → (im_byt.getD (w + 1) []).getD j 0 = nI ((wl_ w).getD j 0) := by decide
      refine ⟨?_, fun j hj => ?_⟩
      · unfold im_xi; rw [if_neg (by omega), if_neg (by omega), if_neg (by omega)]; rfl
      · unfold im_xi; rw [if_neg (by omega), if_neg (by omega), if_pos (by omega), show 17 + w - 16 = w + 1 by omega]; exact h w hw j hj
  have hD : xs_D (sf_ LL 104) r9_1 0 := ⟨⟨(sf_at (k := 33) rfl rfl), rfl⟩, (sf_at (k := 34) rfl rfl), (sf_at (k := 35) rfl rfl), ⟨(sf_at (k := 78 + 3 * 0) rfl rfl), rfl, rfl⟩, (sf_at (k := 79 + 3 * 0) rfl rfl), (sf_at (k := 80 + 3 * 0) rfl rfl), fun w hw => ?_⟩
  rotate_left
  · have h : ∀ w, w < 12 → im_s0 (4 + w) = (20, 2) ∧ im_s0 (17 + w) = (204, (wl_ w).length) ∧ r9_1 (4 + w) 0 = some (17 + w) := by decide +kernel
    exact ⟨sf_at' (by omega) (by omega) (by omega) (h w hw).1, sf_at' (by omega) (by omega) (by omega) (h w hw).2.1, (h w hw).2.2⟩
  refine ev_q1 (is_callR 3 [_, _] [] rfl rfl rfl rfl rfl (Nat.le_of_ble_eq_true rfl) rfl rfl rfl (sf_at (k := 35) rfl rfl)) rfl rfl (xk_read (t := 0) hD hM) (fun r_222 m1 mr hq_222 => ?_)
  obtain ⟨rfl, hsc, hq⟩ := hq_222
  rw [lw_reads] at hq
  obtain ⟨rfl, hf⟩ : r_222 = .int (-1) ∧ xf_ 0 m1 ([] ++ lw_l) := hq
  have hz2 : nz_ 104 m1 (im_u (im_u r9_1 35 0 (some 33)) 35 1 (some 78)) := by
    refine nz_r (nz_r ⟨fun k hk => ?_, fun k hk => ?_⟩ (by decide)) (by decide)
    · rw [hsc k (xv_ne (by omega) (Or.inr (by omega)))]
      show sp_ 38 (ml_sh 4 (ml_txt 6 (i9_0 xs))) k = _
      rw [sp_row (by omega) (by omega), ml_sh_row _ (Or.inr hk) _ (by decide)]
      funext j
      rw [ml_txt_at _ (Or.inr (Or.inr (by omega))) _ (by decide), (nz_9 xs).1 k (by omega)]
    · exact (rl_nz (xs := fun _ => 0)).2 k hk
  refine ev_s (is_pop rfl rfl) ?_
  refine ev_s (is_aload_n rfl rfl) ?_
  refine ev_s (is_getR rfl (sf_at (k := 29) rfl rfl) rfl rfl (q := 33) (by rfl)) ?_
  refine ev_s (is_iconst (nI 0) rfl rfl) ?_
  refine ev_s (is_putI rfl (sf_at (k := 33) rfl rfl) rfl rfl rfl) ?_
  refine ev_s (is_aload_n rfl rfl) ?_
  refine ev_s (en_N rfl (by decide) rfl rfl rfl rfl (by repeat (first | exact hz2 | exact nz_m hz2 (by decide) | refine nz_i ?_ (by decide) | refine nz_r ?_ (by decide)))) ?_
  refine ev_s (is_dup rfl rfl) ?_
  refine ev_s (is_aload_n rfl rfl) ?_
  refine ev_s (is_getR rfl (sf_at (k := 29) rfl rfl) rfl rfl (q := 32) (by rfl)) ?_
  refine ev_s (is_iconst (nI 0) rfl rfl) ?_
  refine ev_s (is_aaload (k := 6) 0 rfl (sf_at (k := 32) rfl rfl) rfl rfl rfl (by decide) (q := 78) (by rfl)) ?_
  refine ev_k0 (is_callR 2 [_] [_, _] rfl rfl rfl rfl rfl (Nat.le_of_ble_eq_true rfl) rfl rfl rfl (sf_at (k := 104) rfl rfl)) rfl rfl (xi_rules (by decide) (by decide) (by decide) rfl (q := 78) (by decide) rfl rfl (by repeat (first | exact hz2 | exact nz_m hz2 (by decide) | refine nz_i ?_ (by decide) | refine nz_r ?_ (by decide)))) (by decide) rfl rfl ?_
  refine ev_s (is_putR rfl (sf_at (k := 29) rfl rfl) rfl rfl rfl (sf_lt (by decide) (by decide))) ?_
  refine ev_s (is_aload_n rfl rfl) ?_
  refine ev_s (en_N rfl (by decide) rfl rfl rfl rfl (by repeat (first | exact hz2 | exact nz_m hz2 (by decide) | refine nz_i ?_ (by decide) | refine nz_r ?_ (by decide)))) ?_
  refine ev_s (is_dup rfl rfl) ?_
  refine ev_s (is_aload_n rfl rfl) ?_
  refine ev_s (is_getR rfl (sf_at (k := 29) rfl rfl) rfl rfl (q := 32) (by rfl)) ?_
  refine ev_s (is_iconst (nI 0) rfl rfl) ?_
  refine ev_s (is_aaload (k := 6) 0 rfl (sf_at (k := 32) rfl rfl) rfl rfl rfl (by decide) (q := 78) (by rfl)) ?_
  refine ev_k0 (is_callR 2 [_] [_, _] rfl rfl rfl rfl rfl (Nat.le_of_ble_eq_true rfl) rfl rfl rfl (sf_at (k := 107) rfl rfl)) rfl rfl (xi_rules (by decide) (by decide) (by decide) rfl (q := 78) (by decide) rfl rfl (by repeat (first | exact hz2 | exact nz_m hz2 (by decide) | refine nz_i ?_ (by decide) | refine nz_r ?_ (by decide)))) (by decide) rfl rfl ?_
  refine ev_s (is_putR rfl (sf_at (k := 29) rfl rfl) rfl rfl rfl (sf_lt (by decide) (by decide))) ?_
  exact ev_ret (is_return rfl) ⟨rfl, rfl, m1, hsc, hf, rfl⟩
theorem xi9_b3 {d LL : Nat} {xs : Nat → Int32} {v : Int32} : Ev (d + 57) 64 173 [.ref 29, .int v] [] (sf_ LL 96) (ml_txt 6 (i9_0 xs)) (rl_txt 6 (rl_men 6 r9_0)) (fun _ s2 m2 r2 => s2 = sf_ LL 110 ∧ r2 = r9_2 ∧ ∃ m1, sc_ (xv_S 0) (i9_2 xs) m1 ∧ xf_ 0 m1 lw_l ∧ m2 = im_u (im_u (im_u m1 33 1 (nI 0)) 104 1 (nI 0)) 107 1 (nI 0)) := by
  refine ev_s (is_iconst (nI 0) rfl rfl) ?_
  have loop : ∀ (j i : Nat), i + j = 4 → Ev (d + 57) 64 175 [.ref 29, .int (nI i)] [] (sf_ LL (96 + 2 * i)) (ml_sh i (ml_txt 6 (i9_0 xs))) (rl_sh i (rl_txt 6 (rl_men 6 r9_0))) (fun _ s2 m2 r2 => s2 = sf_ LL 110 ∧ r2 = r9_2 ∧ ∃ m1, sc_ (xv_S 0) (i9_2 xs) m1 ∧ xf_ 0 m1 lw_l ∧ m2 = im_u (im_u (im_u m1 33 1 (nI 0)) 104 1 (nI 0)) 107 1 (nI 0)) := by
    intro j
    induction j with
    | zero =>
      intro i hi
      obtain rfl : i = 4 := hi
      refine ev_s (is_iload_n rfl rfl) ?_
      refine ev_s (is_iconst (nI 4) rfl rfl) ?_
      refine ev_s (is_icmp_ge_t rfl (nI_le (by omega) (by omega))) ?_
      exact xi9_c
    | succ j ih =>
      intro i hi
      obtain ⟨s1, s2⟩ := im_s0_sh i (by omega)
      have hz2 := nz_sh (nz_txt (nz_men (nz_9 xs) 6) 6) i
      refine ev_s (is_iload_n rfl rfl) ?_
      refine ev_s (is_iconst (nI 4) rfl rfl) ?_
      refine ev_s (is_icmp_ge_f rfl (nI_ge (by omega) (by omega))) ?_
      refine ev_s (is_aload_n rfl rfl) ?_
      refine ev_s (is_getR rfl (sf_at' (k := 29) (by decide) (by omega) (by omega) rfl) rfl rfl (q := 39) (by rw [rl_sh_row _ (by decide) (by decide)]; rfl)) ?_
      refine ev_s (is_iload_n rfl rfl) ?_
      refine ev_s (en_N rfl (by omega) s1 rfl (by simp [vn_]; try omega) (by simp [vn_]; try omega) hz2) ?_
      refine ev_s (is_dup rfl rfl) ?_
      refine ev_k0 (is_callR 1 [] [_, _, _] rfl rfl rfl rfl rfl (Nat.le_of_ble_eq_true rfl) rfl rfl rfl (sf_at' (by omega) (by omega) (by omega) s1)) rfl rfl (xi_sheet (by omega) (by omega) (by omega) s1 s2 (nz_m hz2 (by omega))) (by omega) (by simp [vn_]; try omega) (by simp [vn_]; try omega) ?_
      refine ev_s (is_aastore i rfl (sf_at' (k := 39) (by decide) (by omega) (by omega) rfl) (sf_at' (by omega) (by omega) (by omega) s1) rfl rfl rfl (by omega)) ?_
      refine ev_s (st_iinc_1 _ rfl rfl (nI_inc _)) ?_
      refine ev_s (is_goto rfl) ?_
      exact ih (i + 1) (by omega)
  refine ev_s (st_istore_n_1 rfl rfl) ?_
  exact loop 4 0 rfl
theorem xi9_b2 {d LL : Nat} {xs : Nat → Int32} {v : Int32} : Ev (d + 57) 64 146 [.ref 29, .int v] [] (sf_ LL 78) (i9_0 xs) (rl_men 6 r9_0) (fun _ s2 m2 r2 => s2 = sf_ LL 110 ∧ r2 = r9_2 ∧ ∃ m1, sc_ (xv_S 0) (i9_2 xs) m1 ∧ xf_ 0 m1 lw_l ∧ m2 = im_u (im_u (im_u m1 33 1 (nI 0)) 104 1 (nI 0)) 107 1 (nI 0)) := by
  refine ev_s (is_iconst (nI 0) rfl rfl) ?_
  have loop : ∀ (j i : Nat), i + j = 6 → Ev (d + 57) 64 148 [.ref 29, .int (nI i)] [] (sf_ LL (78 + 3 * i)) (ml_txt i (i9_0 xs)) (rl_txt i (rl_men 6 r9_0)) (fun _ s2 m2 r2 => s2 = sf_ LL 110 ∧ r2 = r9_2 ∧ ∃ m1, sc_ (xv_S 0) (i9_2 xs) m1 ∧ xf_ 0 m1 lw_l ∧ m2 = im_u (im_u (im_u m1 33 1 (nI 0)) 104 1 (nI 0)) 107 1 (nI 0)) := by
    intro j
    induction j with
    | zero =>
      intro i hi
      obtain rfl : i = 6 := hi
      refine ev_s (is_iload_n rfl rfl) ?_
      refine ev_s (is_bipush (nI 6) rfl rfl) ?_
      refine ev_s (is_icmp_ge_t rfl (nI_le (by omega) (by omega))) ?_
      exact xi9_b3
    | succ j ih =>
      intro i hi
      obtain ⟨s1, s2, s3⟩ := im_s0_txt i (by omega)
      have hz2 := nz_txt (nz_men (nz_9 xs) 6) i
      refine ev_s (is_iload_n rfl rfl) ?_
      refine ev_s (is_bipush (nI 6) rfl rfl) ?_
      refine ev_s (is_icmp_ge_f rfl (nI_ge (by omega) (by omega))) ?_
      refine ev_s (is_aload_n rfl rfl) ?_
      refine ev_s (is_getR rfl (sf_at' (k := 29) (by decide) (by omega) (by omega) rfl) rfl rfl (q := 32) (by rw [rl_txt_row _ (by decide) (by decide)]; rfl)) ?_
      refine ev_s (is_iload_n rfl rfl) ?_
      refine ev_s (en_N rfl (by omega) s1 rfl (by simp [vn_]; try omega) (by simp [vn_]; try omega) hz2) ?_
      refine ev_s (is_dup rfl rfl) ?_
      refine ev_k0 (is_callR 1 [] [_, _, _] rfl rfl rfl rfl rfl (Nat.le_of_ble_eq_true rfl) rfl rfl rfl (sf_at' (by omega) (by omega) (by omega) s1)) rfl rfl (xi_text (by omega) (by omega) (by omega) s1 s2 s3 (nz_m hz2 (by omega))) (by omega) (by simp [vn_]; try omega) (by simp [vn_]; try omega) ?_
      refine ev_s (is_aastore i rfl (sf_at' (k := 32) (by decide) (by omega) (by omega) rfl) (sf_at' (by omega) (by omega) (by omega) s1) rfl rfl rfl (by omega)) ?_
      refine ev_s (st_iinc_1 _ rfl rfl (nI_inc _)) ?_
      refine ev_s (is_goto rfl) ?_
      exact ih (i + 1) (by omega)
  refine ev_s (st_istore_n_1 rfl rfl) ?_
  exact loop 6 0 rfl
theorem xi9_b1 {d LL : Nat} {xs : Nat → Int32} : Ev (d + 57) 64 108 [.ref 29, .int (nI 0)] [] (sf_ LL 54) (i9_0 xs) r9_0 (fun _ s2 m2 r2 => s2 = sf_ LL 110 ∧ r2 = r9_2 ∧ ∃ m1, sc_ (xv_S 0) (i9_2 xs) m1 ∧ xf_ 0 m1 lw_l ∧ m2 = im_u (im_u (im_u m1 33 1 (nI 0)) 104 1 (nI 0)) 107 1 (nI 0)) := by
  have loop : ∀ (j i : Nat), i + j = 6 → Ev (d + 57) 64 108 [.ref 29, .int (nI i)] [] (sf_ LL (54 + 4 * i)) (i9_0 xs) (rl_men i r9_0) (fun _ s2 m2 r2 => s2 = sf_ LL 110 ∧ r2 = r9_2 ∧ ∃ m1, sc_ (xv_S 0) (i9_2 xs) m1 ∧ xf_ 0 m1 lw_l ∧ m2 = im_u (im_u (im_u m1 33 1 (nI 0)) 104 1 (nI 0)) 107 1 (nI 0)) := by
    intro j
    induction j with
    | zero =>
      intro i hi
      obtain rfl : i = 6 := hi
      refine ev_s (is_iload_n rfl rfl) ?_
      refine ev_s (is_bipush (nI 6) rfl rfl) ?_
      refine ev_s (is_icmp_ge_t rfl (nI_le (by omega) (by omega))) ?_
      exact xi9_b2
    | succ j ih =>
      intro i hi
      obtain ⟨s1, s2, s3, s4⟩ := im_s0_men i (by omega)
      have hz2 := nz_men (nz_9 xs) i
      refine ev_s (is_iload_n rfl rfl) ?_
      refine ev_s (is_bipush (nI 6) rfl rfl) ?_
      refine ev_s (is_icmp_ge_f rfl (nI_ge (by omega) (by omega))) ?_
      refine ev_s (is_aload_n rfl rfl) ?_
      refine ev_s (is_getR rfl (sf_at' (k := 29) (by decide) (by omega) (by omega) rfl) rfl rfl (q := 30) (by rw [rl_men_row _ (by decide) (by decide) (by decide)]; rfl)) ?_
      refine ev_s (is_iload_n rfl rfl) ?_
      refine ev_s (en_N rfl (by omega) s1 rfl (by simp [vn_]; try omega) (by simp [vn_]; try omega) hz2) ?_
      refine ev_s (is_dup rfl rfl) ?_
      refine ev_k0 (is_callR 1 [] [_, _, _] rfl rfl rfl rfl rfl (Nat.le_of_ble_eq_true rfl) rfl rfl rfl (sf_at' (by omega) (by omega) (by omega) s1)) rfl rfl (xi_man (by omega) (by omega) (by omega) s1 s2 (nz_m hz2 (by omega))) (by omega) (by simp [vn_]; try omega) (by simp [vn_]; try omega) ?_
      refine ev_s (is_aastore i rfl (sf_at' (k := 30) (by decide) (by omega) (by omega) rfl) (sf_at' (by omega) (by omega) (by omega) s1) rfl rfl rfl (by omega)) ?_
      refine ev_s (is_aload_n rfl rfl) ?_
      refine ev_s (is_getR rfl (sf_at' (k := 29) (by decide) (by omega) (by omega) rfl) rfl rfl (q := 31) (by rw [im_u_ne _ _ _ _ (by decide), im_u_ne _ _ _ _ (by omega), rl_men_row _ (by decide) (by decide) (by decide)]; rfl)) ?_
      refine ev_s (is_iload_n rfl rfl) ?_
      refine ev_s (en_N rfl (by omega) s3 rfl (by simp [vn_]; try omega) (by simp [vn_]; try omega) (nz_r (nz_r (nz_m hz2 (by omega)) (by omega)) (by omega))) ?_
      refine ev_s (is_dup rfl rfl) ?_
      refine ev_k0 (is_callR 1 [] [_, _, _] rfl rfl rfl rfl rfl (Nat.le_of_ble_eq_true rfl) rfl rfl rfl (sf_at' (by omega) (by omega) (by omega) s3)) rfl rfl (xi_man (by omega) (by omega) (by omega) s3 s4 (nz_r (nz_r (nz_m hz2 (by omega)) (by omega)) (by omega))) (by omega) (by simp [vn_]; try omega) (by simp [vn_]; try omega) ?_
      refine ev_s (is_aastore i rfl (sf_at' (k := 31) (by decide) (by omega) (by omega) rfl) (sf_at' (by omega) (by omega) (by omega) s3) rfl rfl rfl (by omega)) ?_
      refine ev_s (st_iinc_1 _ rfl rfl (nI_inc _)) ?_
      refine ev_s (is_goto rfl) ?_
      exact ih (i + 1) (by omega)
  exact loop 6 0 rfl
theorem xi_class {d LL : Nat} {xs : Nat → Int32} : EvM (d + 57) 64 [.ref 29] (sf_ LL 30) (im_xi xs) im_xr (fun _ s2 m2 r2 => s2 = sf_ LL 110 ∧ r2 = r9_2 ∧ ∃ m1, sc_ (xv_S 0) (i9_2 xs) m1 ∧ xf_ 0 m1 lw_l ∧ m2 = im_u (im_u (im_u m1 33 1 (nI 0)) 104 1 (nI 0)) 107 1 (nI 0)) := by
  show Ev (d + 57) 64 0 [.ref 29, im_bad] [] (sf_ LL 30) (im_xi xs) im_xr _
  refine ev_s (is_aload_n rfl rfl) ?_
  refine ev_s (is_oinit rfl (Nat.le_of_ble_eq_true rfl)) ?_
  refine ev_s (is_aload_n rfl rfl) ?_
  refine ev_s (is_bipush (nI 6) rfl rfl) ?_
  refine ev_s (en_A 6 rfl rfl (by decide) rfl rfl rfl rfl rfl (by repeat (first | exact nz_x0 xs | exact nz_m (nz_x0 xs) (by decide) | refine nz_r ?_ (by decide) | refine nz_i ?_ (by decide)))) ?_
  refine ev_s (is_putR rfl (sf_at (k := 29) rfl rfl) rfl rfl rfl (sf_lt (by decide) (by decide))) ?_
  refine ev_s (is_aload_n rfl rfl) ?_
  refine ev_s (is_bipush (nI 6) rfl rfl) ?_
  refine ev_s (en_A 6 rfl rfl (by decide) rfl rfl rfl rfl rfl (by repeat (first | exact nz_x0 xs | exact nz_m (nz_x0 xs) (by decide) | refine nz_r ?_ (by decide) | refine nz_i ?_ (by decide)))) ?_
  refine ev_s (is_putR rfl (sf_at (k := 29) rfl rfl) rfl rfl rfl (sf_lt (by decide) (by decide))) ?_
  refine ev_s (is_aload_n rfl rfl) ?_
  refine ev_s (is_iconst (nI 0) rfl rfl) ?_
  refine ev_s (is_putI rfl (sf_at (k := 29) rfl rfl) rfl rfl rfl) ?_
  refine ev_s (is_aload_n rfl rfl) ?_
  refine ev_s (is_bipush (nI 6) rfl rfl) ?_
  refine ev_s (en_A 6 rfl rfl (by decide) rfl rfl rfl rfl rfl (by repeat (first | exact nz_x0 xs | exact nz_m (nz_x0 xs) (by decide) | refine nz_r ?_ (by decide) | refine nz_i ?_ (by decide)))) ?_
  refine ev_s (is_putR rfl (sf_at (k := 29) rfl rfl) rfl rfl rfl (sf_lt (by decide) (by decide))) ?_
  refine ev_s (is_aload_n rfl rfl) ?_
  refine ev_s (is_iconst (nI 1) rfl rfl) ?_
  refine ev_s (is_putI rfl (sf_at (k := 29) rfl rfl) rfl rfl rfl) ?_
  refine ev_s (is_aload_n rfl rfl) ?_
  refine ev_s (is_iconst (nI 0) rfl rfl) ?_
  refine ev_s (is_putI rfl (sf_at (k := 29) rfl rfl) rfl rfl rfl) ?_
  refine ev_s (is_aload_n rfl rfl) ?_
  refine ev_s (en_N rfl (by decide) rfl rfl rfl rfl (by repeat (first | exact nz_x0 xs | exact nz_m (nz_x0 xs) (by decide) | refine nz_r ?_ (by decide) | refine nz_i ?_ (by decide)))) ?_
  refine ev_s (is_dup rfl rfl) ?_
  refine ev_k0 (is_callR 1 [] [_, _] rfl rfl rfl rfl rfl (Nat.le_of_ble_eq_true rfl) rfl rfl rfl (sf_at (k := 33) rfl rfl)) rfl rfl (xi_tape (by decide) (by decide) (by decide) rfl rfl (by repeat (first | exact nz_x0 xs | exact nz_m (nz_x0 xs) (by decide) | refine nz_r ?_ (by decide) | refine nz_i ?_ (by decide)))) (by decide) rfl rfl ?_
  refine ev_s (is_putR rfl (sf_at (k := 29) rfl rfl) rfl rfl rfl (sf_lt (by decide) (by decide))) ?_
  refine ev_s (is_aload_n rfl rfl) ?_
  refine ev_s (en_N rfl (by decide) rfl rfl rfl rfl (by repeat (first | exact nz_x0 xs | exact nz_m (nz_x0 xs) (by decide) | refine nz_r ?_ (by decide) | refine nz_i ?_ (by decide)))) ?_
  refine ev_s (is_dup rfl rfl) ?_
  refine ev_k0 (is_callR 1 [] [_, _] rfl rfl rfl rfl rfl (Nat.le_of_ble_eq_true rfl) rfl rfl rfl (sf_at (k := 35) rfl rfl)) rfl rfl (xi_reader (by decide) (by decide) (by decide) rfl (by repeat (first | exact nz_x0 xs | exact nz_m (nz_x0 xs) (by decide) | refine nz_r ?_ (by decide) | refine nz_i ?_ (by decide)))) (by decide) rfl rfl ?_
  refine ev_s (is_putR rfl (sf_at (k := 29) rfl rfl) rfl rfl rfl (sf_lt (by decide) (by decide))) ?_
  refine ev_s (is_aload_n rfl rfl) ?_
  refine ev_s (en_N rfl (by decide) rfl rfl rfl rfl (by repeat (first | exact nz_x0 xs | exact nz_m (nz_x0 xs) (by decide) | refine nz_r ?_ (by decide) | refine nz_i ?_ (by decide)))) ?_
  refine ev_s (is_dup rfl rfl) ?_
  refine ev_k0 (is_callR 1 [] [_, _] rfl rfl rfl rfl rfl (Nat.le_of_ble_eq_true rfl) rfl rfl rfl (sf_at (k := 36) rfl rfl)) rfl rfl (xi_pairs (by decide) (by decide) (by decide) rfl rfl (by repeat (first | exact nz_x0 xs | exact nz_m (nz_x0 xs) (by decide) | refine nz_r ?_ (by decide) | refine nz_i ?_ (by decide)))) (by decide) rfl rfl ?_
  refine ev_s (is_putR rfl (sf_at (k := 29) rfl rfl) rfl rfl rfl (sf_lt (by decide) (by decide))) ?_
  refine ev_s (is_aload_n rfl rfl) ?_
  refine ev_s (is_bipush (nI 12) rfl rfl) ?_
  refine ev_s (en_I 12 rfl rfl (by decide) rfl rfl rfl rfl (by repeat (first | exact nz_x0 xs | exact nz_m (nz_x0 xs) (by decide) | refine nz_r ?_ (by decide) | refine nz_i ?_ (by decide)))) ?_
  refine ev_s (is_putR rfl (sf_at (k := 29) rfl rfl) rfl rfl rfl (sf_lt (by decide) (by decide))) ?_
  refine ev_s (is_aload_n rfl rfl) ?_
  refine ev_s (is_iconst (nI 4) rfl rfl) ?_
  refine ev_s (en_A 4 rfl rfl (by decide) rfl rfl rfl rfl rfl (by repeat (first | exact nz_x0 xs | exact nz_m (nz_x0 xs) (by decide) | refine nz_r ?_ (by decide) | refine nz_i ?_ (by decide)))) ?_
  refine ev_s (is_putR rfl (sf_at (k := 29) rfl rfl) rfl rfl rfl (sf_lt (by decide) (by decide))) ?_
  refine ev_s (is_aload_n rfl rfl) ?_
  refine ev_s (en_N rfl (by decide) rfl rfl rfl rfl (by repeat (first | exact nz_x0 xs | exact nz_m (nz_x0 xs) (by decide) | refine nz_r ?_ (by decide) | refine nz_i ?_ (by decide)))) ?_
  refine ev_s (is_dup rfl rfl) ?_
  refine ev_k0 (is_callR 1 [] [_, _] rfl rfl rfl rfl rfl (Nat.le_of_ble_eq_true rfl) rfl rfl rfl (sf_at (k := 40) rfl rfl)) rfl rfl (xi_image (by repeat (first | exact nz_x0 xs | exact nz_m (nz_x0 xs) (by decide) | refine nz_r ?_ (by decide) | refine nz_i ?_ (by decide)))) (by decide) rfl rfl ?_
  refine ev_s (is_putR rfl (sf_at (k := 29) rfl rfl) rfl rfl rfl (sf_lt (by decide) (by decide))) ?_
  refine ev_s (is_iconst (nI 0) rfl rfl) ?_
  refine ev_s (st_istore_n_1 rfl rfl) ?_
  exact xi9_b1
