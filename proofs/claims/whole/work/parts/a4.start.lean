/-! ===== PURE: the cells behind the two constructors; what holds of them ===== -/
def bm_ (f : im_MR) : Prop := ∀ k j, f k j = f (min k 133) (min j 40)
theorem bm_u {f : im_MR} {k j : Nat} {v : Option Nat} (h : bm_ f) (hk : k < 133) (hj : j < 40) : bm_ (im_u f k j v) := by
  intro a b
  show (if a = k ∧ b = j then v else f a b) = (if min a 133 = k ∧ min b 40 = j then v else f (min a 133) (min b 40))
  by_cases c : a = k ∧ b = j
  · rw [if_pos c, if_pos ⟨by omega, by omega⟩]
  · rw [if_neg c, if_neg (by omega), h a b]
theorem bm_x : bm_ im_xr := by
  intro a b
  unfold im_xr
  by_cases c : 3 ≤ a ∧ a < 16 ∧ b = 0
  · rw [if_pos c, if_pos (by omega), show min a 133 = a by omega]
  · rw [if_neg c, if_neg (by omega)]
theorem bm_im {mr : im_MR} (h : bm_ mr) : ∀ i, i ≤ 6 → bm_ (rl_im i mr)
  | 0, _ => h
  | i + 1, hi => bm_u (bm_u (bm_im h i (by omega)) (by omega) (by omega)) (by omega) (by omega)
theorem bm_men {mr : im_MR} (h : bm_ mr) : ∀ i, i ≤ 6 → bm_ (rl_men i mr)
  | 0, _ => h
  | i + 1, hi => bm_u (bm_u (bm_u (bm_u (bm_men h i (by omega)) (by omega) (by omega)) (by omega) (by omega)) (by omega) (by omega)) (by omega) (by omega)
theorem bm_txt {mr : im_MR} (h : bm_ mr) : ∀ i, i ≤ 6 → bm_ (rl_txt i mr)
  | 0, _ => h
  | i + 1, hi => bm_u (bm_u (bm_u (bm_txt h i (by omega)) (by omega) (by omega)) (by omega) (by omega)) (by omega) (by omega)
theorem bm_sh {mr : im_MR} (h : bm_ mr) : ∀ i, i ≤ 4 → bm_ (rl_sh i mr)
  | 0, _ => h
  | i + 1, hi => bm_u (bm_u (bm_sh h i (by omega)) (by omega) (by omega)) (by omega) (by omega)
theorem bm_r10 : bm_ (r10_ r9_2) := by
  unfold r10_ r10_e r10_c r10_a r9_2 r9_1 r9_0
  repeat (first | exact bm_x | refine bm_sh ?_ 4 (by decide) | refine bm_txt ?_ 6 (by decide) | refine bm_men ?_ 6 (by decide) | refine bm_im ?_ 6 (by decide) | refine bm_u ?_ (by decide) (by decide))
theorem bk_1 {k c : Nat} (h : c ≤ 133) : Nat.blt (min k 133) c = Nat.blt k c := by
  rw [Bool.eq_iff_iff, Nat.blt_eq, Nat.blt_eq]
  omega
theorem bk_2 {k c : Nat} (h : c ≤ 40) : Nat.blt (min k 40) c = Nat.blt k c := by
  rw [Bool.eq_iff_iff, Nat.blt_eq, Nat.blt_eq]
  omega
set_option maxRecDepth 100000 in
theorem bm_r0 : bm_ im_r0 := by
  intro k j
  unfold im_r0
  simp (disch := decide) only [bk_1, bk_2]
set_option maxRecDepth 100000 in
theorem r10_in : ∀ k, k < 134 → ∀ j, j < 41 → im_mut k j = false → r10_ r9_2 k j = im_r0 k j := by decide +kernel
theorem pu_C0 (LL : Nat) : pu_C (sf_ LL 133) (r10_ r9_2) := by
  refine ⟨fun k hk => ?_, sf_len (by decide), fun k j h => ?_⟩
  · rw [Bool.and_eq_true, Nat.blt_eq, Nat.blt_eq] at hk
    exact sf_get hk.1 hk.2 (by decide)
  · rw [bm_r10 k j, bm_r0 k j]
    refine r10_in _ (by omega) _ (by omega) ?_
    by_cases c : k < 133
    · rw [show min k 133 = k by omega]
      by_cases c2 : j < 40
      · rw [show min j 40 = j by omega]; exact h
      · rw [show min j 40 = 40 by omega]
        unfold im_mut
        rw [show Nat.blt 40 2 = false from rfl, show Nat.beq 40 0 = false from rfl, Bool.and_false, Bool.and_false]
        rfl
    · rw [show min k 133 = 133 by omega]
      rfl
