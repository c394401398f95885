/-! ===== PURE: the state at first ===== -/
def h0_ : ho_T := fun i j => if i = 0 ∧ j = 2 then 1 else 0
def k0_ : ho_T := fun _ _ => 0
def g0_ : ho_G := fun t p => if t = 0 then lw_l.getD p [] else []
theorem h0_0 {i j : Nat} (h : i ≠ 0 ∨ j ≠ 2) : h0_ i j = 0 := if_neg (by omega)
theorem h0_bd : ho_bd h0_ := ⟨by decide, by decide, by decide, by decide, by decide, fun m => by rw [h0_0 (Or.inl (by decide))]; decide, fun m => by rw [h0_0 (Or.inl (by decide))]; decide, fun m h hh => by rw [h0_0 (Or.inl (by omega))]; decide, fun m => by rw [h0_0 (Or.inl (by omega))]; decide, fun m => by rw [h0_0 (Or.inl (by omega))]; decide⟩
theorem h0_iv : ho_iv h0_ := ⟨fun m hm => absurd hm (Nat.not_lt_zero _), fun m o hm => absurd hm (Nat.not_lt_zero _)⟩
theorem h0_hb : ho_hb h0_ k0_ := ⟨fun _ => show 0 < 4 by decide, fun _ => show 0 ≤ 40 by decide, fun _ _ _ => show 0 < 2 ^ 32 by decide, fun _ => show 0 < 256 by decide, by decide, fun q => absurd q (by decide)⟩
/-- the class's cells at first -/
def ci_ (xs : Nat → Int32) (m : im_MI) : Prop := (∀ k, k < 29 → m k = im_xi xs k) ∧ (m 29 2 = nI 0 ∧ m 29 6 = nI 1 ∧ m 29 7 = nI 0) ∧ m 104 1 = nI 0 ∧ (∀ s, s < 4 → m (96 + 2 * s) 1 = -1 ∧ m (96 + 2 * s) 2 = nI 0 ∧ ∀ j, m (97 + 2 * s) j = 0) ∧ m 33 1 = nI 0 ∧ m 40 1 = nI 0 ∧ xt_ok m g0_ 0
theorem ci_x {xs : Nat → Int32} {m : im_MI} {mr : im_MR} (h : ci_ xs m) (hr : mr 104 0 = some 78) : xa_ok h0_ g0_ m mr ∧ xh_ok h0_ k0_ m ∧ xs_W m ∧ xk_up m ∧ ∀ j, m 0 j = xs j := by
  obtain ⟨h1, ⟨h2, h3, h4⟩, h5, h6, h7, h8, h9⟩ := h
  refine ⟨⟨h2, h3, h4, h5, hr, fun q hq => absurd hq (Nat.not_lt_zero _), fun t ht => ?_, h0_bd, h0_iv⟩, ⟨fun s hs => ⟨?_, (h6 s hs).2.1, fun j _ => (h6 s hs).2.2 j⟩, h7, fun j hj => absurd hj (Nat.not_lt_zero _), h8, fun q => absurd q (by decide), h0_hb⟩, fun w hw => ?_, fun j hj => ?_, fun j => ?_⟩
  · obtain rfl : t = 0 := by
      have : t < 1 := ht
      omega
    exact h9
  · rw [(h6 s hs).1]
    show (-1 : Int32) = nI 0 - 1
    decide
  · rw [h1 _ (by omega), h1 _ (by omega)]
    have h : ∀ w, w < 12 → ∀ j, j < (wl_ w).length → (im_byt.getD (w + 1) []).getD j 0 = nI ((wl_ w).getD j 0) := by decide
    refine ⟨?_, fun j hj => ?_⟩
    · unfold im_xi; rw [if_neg (by omega), if_neg (by omega), if_neg (by omega)]; rfl
    · unfold im_xi; rw [if_neg (by omega), if_neg (by omega), if_pos (by omega), show 17 + w - 16 = w + 1 by omega]; exact h w hw j hj
  · rw [h1 1 (by decide)]
    have h : ∀ j, j < 6 → ([0, 0, 0, 1, 2, 0] : List Int32).getD j 0 = nI (kd_up j) := by decide
    exact h j hj
  · rw [h1 0 (by decide)]
    rfl
theorem ml_sh_ne (mi : im_MI) {k : Nat} (h : ∀ i, i < 4 → k ≠ 96 + 2 * i) : ∀ i, i ≤ 4 → ml_sh i mi k = mi k
  | 0, _ => rfl
  | i + 1, hi => by
    show im_u (im_u (ml_sh i mi) _ _ _) _ _ _ k = _
    rw [im_u_ne _ _ _ _ (h i (by omega)), im_u_ne _ _ _ _ (h i (by omega))]
    exact ml_sh_ne mi h i (by omega)
theorem ml_sh_at (mi : im_MI) : ∀ i, i ≤ 4 → ∀ s, s < i → ml_sh i mi (96 + 2 * s) 1 = -1 ∧ ml_sh i mi (96 + 2 * s) 2 = nI 0
  | 0, _, s, hs => absurd hs (Nat.not_lt_zero _)
  | i + 1, hi, s, hs => by
    show im_u (im_u (ml_sh i mi) (96 + 2 * i) 1 (-1)) (96 + 2 * i) 2 (nI 0) (96 + 2 * s) 1 = -1 ∧ im_u (im_u (ml_sh i mi) (96 + 2 * i) 1 (-1)) (96 + 2 * i) 2 (nI 0) (96 + 2 * s) 2 = nI 0
    by_cases c : s = i
    · subst c
      exact ⟨by rw [im_u_j _ _ _ _ (by decide), im_u_s], im_u_s _ _ _ _⟩
    · rw [im_u_k _ _ _ _ (by omega), im_u_k _ _ _ _ (by omega), im_u_k _ _ _ _ (by omega), im_u_k _ _ _ _ (by omega)]
      exact ml_sh_at mi i (by omega) s (by omega)
theorem i9_at (xs : Nat → Int32) {k j : Nat} (h3 : k ≠ 33) (h4 : k ≠ 34) (h : k < 78 ∨ 104 ≤ k) : i9_2 xs k j = i9_0 xs k j := by
  unfold i9_2 i9_1
  rw [sp_row h3 h4, ml_sh_row _ (by omega) _ (by decide), ml_txt_at _ (by omega) _ (by decide)]
theorem ci_A {xs : Nat → Int32} {m1 : im_MI} (hsc : sc_ (xv_S 0) (i9_2 xs) m1) (hf : xf_ 0 m1 lw_l) : ci_ xs (im_u (im_u (im_u m1 33 1 (nI 0)) 104 1 (nI 0)) 107 1 (nI 0)) := by
  have e : ∀ k, k ≠ 35 → (k < 78 ∨ 80 < k) → m1 k = i9_2 xs k := fun k h1 h2 => hsc k (xv_ne h1 (by omega))
  have e0 : ∀ k j, k ≠ 33 → k ≠ 104 → k ≠ 107 → (im_u (im_u (im_u m1 33 1 (nI 0)) 104 1 (nI 0)) 107 1 (nI 0)) k j = m1 k j := fun k j q1 q2 q3 => by rw [im_u_k _ _ _ _ q3, im_u_k _ _ _ _ q2, im_u_k _ _ _ _ q1]
  refine ⟨fun k hk => ?_, ⟨?_, ?_, ?_⟩, ?_, fun s hs => ⟨?_, ?_, fun j => ?_⟩, ?_, ?_, ?_⟩
  · funext j
    rw [e0 k j (by omega) (by omega) (by omega), e k (by omega) (by omega), i9_at xs (by omega) (by omega) (by omega)]
    unfold i9_0
    rw [im_u_k _ _ _ _ (by omega), im_u_k _ _ _ _ (by omega), im_u_k _ _ _ _ (by omega), im_u_k _ _ _ _ (by omega), im_u_k _ _ _ _ (by omega)]
  · rw [e0 29 2 (by decide) (by decide) (by decide), e 29 (by decide) (by decide), i9_at xs (by decide) (by decide) (by decide)]
    unfold i9_0
    rw [im_u_k _ _ _ _ (by decide), im_u_k _ _ _ _ (by decide), im_u_j _ _ _ _ (by decide), im_u_j _ _ _ _ (by decide), im_u_s]
  · rw [e0 29 6 (by decide) (by decide) (by decide), e 29 (by decide) (by decide), i9_at xs (by decide) (by decide) (by decide)]
    unfold i9_0
    rw [im_u_k _ _ _ _ (by decide), im_u_k _ _ _ _ (by decide), im_u_j _ _ _ _ (by decide), im_u_s]
  · rw [e0 29 7 (by decide) (by decide) (by decide), e 29 (by decide) (by decide), i9_at xs (by decide) (by decide) (by decide)]
    unfold i9_0
    rw [im_u_k _ _ _ _ (by decide), im_u_k _ _ _ _ (by decide), im_u_s]
  · rw [im_u_k _ _ _ _ (by decide), im_u_s]
  · rw [e0 _ 1 (by omega) (by omega) (by omega), e _ (by omega) (by omega)]
    unfold i9_2 i9_1
    rw [sp_row (by omega) (by omega)]
    exact (ml_sh_at _ 4 (by decide) s hs).1
  · rw [e0 _ 2 (by omega) (by omega) (by omega), e _ (by omega) (by omega)]
    unfold i9_2 i9_1
    rw [sp_row (by omega) (by omega)]
    exact (ml_sh_at _ 4 (by decide) s hs).2
  · rw [e0 _ j (by omega) (by omega) (by omega), e _ (by omega) (by omega)]
    unfold i9_2 i9_1
    rw [sp_row (by omega) (by omega), ml_sh_ne _ (fun i _ => by omega) 4 (by decide), ml_txt_at _ (Or.inr (Or.inr (by omega))) _ (by decide), (nz_9 xs).1 _ (by omega)]
  · rw [im_u_k _ _ _ _ (by decide), im_u_k _ _ _ _ (by decide), im_u_s]
  · rw [e0 40 1 (by decide) (by decide) (by decide), e 40 (by decide) (by decide), i9_at xs (by decide) (by decide) (by decide)]
    unfold i9_0
    exact im_u_s _ _ _ _
  · have hx := xf_xt hf (G := g0_) (fun p _ => if_pos rfl)
    unfold xt_ok at hx ⊢
    rw [im_u_row' (show 80 + 3 * 0 ≠ 107 by decide), im_u_row' (show 80 + 3 * 0 ≠ 104 by decide), im_u_row' (show 80 + 3 * 0 ≠ 33 by decide), im_u_row' (show 79 + 3 * 0 ≠ 107 by decide), im_u_row' (show 79 + 3 * 0 ≠ 104 by decide), im_u_row' (show 79 + 3 * 0 ≠ 33 by decide)]
    exact hx
theorem ci_o {xs : Nat → Int32} {m m2 : im_MI} (h : ci_ xs m) (e : ∀ k, k < 110 → m2 k = m k) : ci_ xs m2 := by
  obtain ⟨h1, ⟨h2, h3, h4⟩, h5, h6, h7, h8, h9⟩ := h
  refine ⟨fun k hk => by rw [e k (by omega)]; exact h1 k hk, ⟨by rw [e 29 (by decide)]; exact h2, by rw [e 29 (by decide)]; exact h3, by rw [e 29 (by decide)]; exact h4⟩, by rw [e 104 (by decide)]; exact h5, fun s hs => by rw [e _ (by omega), e _ (by omega)]; exact h6 s hs, by rw [e 33 (by decide)]; exact h7, by rw [e 40 (by decide)]; exact h8, ?_⟩
  unfold xt_ok at h9 ⊢
  rw [e _ (by decide), e _ (by decide)]
  exact h9
theorem i10_row {mi : im_MI} {k : Nat} (h0 : k ≠ 110) (h1 : k ≠ 114) (h2 : k ≠ 119) (h3 : k ≠ 122) (h4 : k ≠ 123) : i10_ mi k = mi k := by
  unfold i10_
  rw [im_u_ne _ _ _ _ h0, tp_row h1, stw_row h4, stw_row h3, im_u_ne _ _ _ _ h2, im_u_ne _ _ _ _ h2, im_u_ne _ _ _ _ h2, im_u_ne _ _ _ _ h2]
theorem ri_B {mA m1 : im_MI} {mr : im_MR} (hz : nz_ 110 mA mr) (hu : ru_ 0 (i10_ mA) m1) (hg : rg_ 0 m1 lw_l) : rr_ok h0_ g0_ (im_u (im_u m1 110 6 (nI 0)) 110 9 (nI 1)) ∧ rh_ok h0_ k0_ (im_u (im_u m1 110 6 (nI 0)) 110 9 (nI 1)) := by
  have e : ∀ k, 111 ≤ k → k ≠ 115 → k ≠ 116 → k ≠ 124 → (im_u (im_u m1 110 6 (nI 0)) 110 9 (nI 1)) k = i10_ mA k := fun k q1 q2 q3 q4 => by
    rw [im_u_row' (by omega), im_u_row' (by omega), hu.1 k (by omega) q2 q3 q4]
  have z : ∀ k, 111 ≤ k → k ≠ 114 → k ≠ 119 → k ≠ 122 → k ≠ 123 → ∀ j, i10_ mA k j = 0 := fun k q1 q2 q3 q4 q5 j => by
    rw [i10_row (by omega) q2 q3 q4 q5, hz.1 k (by omega)]
  have z0 : ∀ j, j ≠ 6 → i10_ mA 110 j = 0 := fun j hj => by
    unfold i10_
    rw [im_u_j _ _ _ _ hj, tp_row (by decide), stw_row (by decide), stw_row (by decide), im_u_k _ _ _ _ (by decide), im_u_k _ _ _ _ (by decide), im_u_k _ _ _ _ (by decide), im_u_k _ _ _ _ (by decide), hz.1 110 (by decide)]
  have e0 : ∀ j, j < 18 → j ≠ 6 → j ≠ 9 → (im_u (im_u m1 110 6 (nI 0)) 110 9 (nI 1)) 110 j = 0 := fun j q1 q2 q3 => by
    rw [im_u_j _ _ _ _ q3, im_u_j _ _ _ _ q2, hu.2.1 j q1, z0 j q2]
  have hrt := rg_rt hg (G := g0_) (fun p _ => if_pos rfl)
  have hrt2 : rt_ok (im_u (im_u m1 110 6 (nI 0)) 110 9 (nI 1)) g0_ 0 := rt_row hrt (by rw [im_u_row' (by decide), im_u_row' (by decide)]) (by rw [im_u_row' (by decide), im_u_row' (by decide)])
  refine ⟨⟨e0 0 (by decide) (by decide) (by decide), e0 4 (by decide) (by decide) (by decide), im_u_s _ _ _ _, e0 10 (by decide) (by decide) (by decide), fun m hm => ?_, fun m k hm hk => ?_, fun t ht => ?_, h0_bd, fun t ht => ?_⟩, ⟨?_, fun j hj => absurd hj (Nat.not_lt_zero _), e0 11 (by decide) (by decide) (by decide), fun q => absurd q (by decide), fun s hs => ⟨?_, ?_, fun j hj => ?_⟩, fun j hj => ?_, h0_hb⟩⟩
  · rw [e 111 (by decide) (by decide) (by decide) (by decide), e 112 (by decide) (by decide) (by decide) (by decide), z 111 (by decide) (by decide) (by decide) (by decide) (by decide), z 112 (by decide) (by decide) (by decide) (by decide) (by decide), h0_0 (Or.inl (by decide)), h0_0 (Or.inl (by decide))]
    exact ⟨rfl, rfl⟩
  · rw [e 113 (by decide) (by decide) (by decide) (by decide), z 113 (by decide) (by decide) (by decide) (by decide) (by decide), h0_0 (Or.inl (by omega))]
    rfl
  · obtain rfl : t = 0 := by
      have : t < 1 := ht
      omega
    exact hrt2.1
  · obtain rfl : t = 0 := by
      have : t < 1 := ht
      omega
    exact hrt2.2
  · rw [im_u_j _ _ _ _ (by decide), im_u_s]; rfl
  · rw [e 119 (by decide) (by decide) (by decide) (by decide)]
    unfold i10_
    rw [im_u_k _ _ _ _ (by decide), tp_row (by decide), stw_row (by decide), stw_row (by decide)]
    rcases (show s = 0 ∨ s = 1 ∨ s = 2 ∨ s = 3 by omega) with rfl | rfl | rfl | rfl
    · rw [im_u_j _ _ _ _ (by decide), im_u_j _ _ _ _ (by decide), im_u_j _ _ _ _ (by decide), im_u_s]; decide
    · rw [im_u_j _ _ _ _ (by decide), im_u_j _ _ _ _ (by decide), im_u_s]; decide
    · rw [im_u_j _ _ _ _ (by decide), im_u_s]; decide
    · rw [im_u_s]; decide
  · rw [e 120 (by decide) (by decide) (by decide) (by decide), z 120 (by decide) (by decide) (by decide) (by decide) (by decide)]; rfl
  · rw [e 121 (by decide) (by decide) (by decide) (by decide), z 121 (by decide) (by decide) (by decide) (by decide) (by decide)]; rfl
  · rw [e 123 (by decide) (by decide) (by decide) (by decide)]
    unfold i10_
    rw [im_u_k _ _ _ _ (by decide), tp_row (by decide)]
    have := stw_at (c := 123) wd_l 0 (stw_ 122 lb_l 0 (im_u (im_u (im_u (im_u mA 119 0 (-1)) 119 1 (-1)) 119 2 (-1)) 119 3 (-1))) j hj
    rw [Nat.zero_add] at this
    exact this
