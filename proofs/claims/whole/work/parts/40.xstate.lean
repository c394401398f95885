/-! ===== PURE, the class: its cells ===== -/
theorem pu_T {sh : im_Sh} {mr : im_MR} (hC : pu_C sh mr) {t : Nat} (ht : t < 6) : sh[78 + 3 * t]? = some (6, 3) ∧ sh[79 + 3 * t]? = some (100, 160) ∧ sh[80 + 3 * t]? = some (100, 3) ∧ mr (78 + 3 * t) 0 = some (79 + 3 * t) ∧ mr (78 + 3 * t) 1 = some (80 + 3 * t) := by
  rcases (show t = 0 ∨ t = 1 ∨ t = 2 ∨ t = 3 ∨ t = 4 ∨ t = 5 by omega) with rfl | rfl | rfl | rfl | rfl | rfl <;> exact ⟨pu_s hC _ rfl rfl, pu_s hC _ rfl rfl, pu_s hC _ rfl rfl, pu_r hC _ _ rfl rfl, pu_r hC _ _ rfl rfl⟩
def xr_R (R : Nat) : Prop := R = 104 ∨ R = 107
theorem pu_R {sh : im_Sh} {mr : im_MR} (hC : pu_C sh mr) {R : Nat} (h : xr_R R) : sh[R]? = some (3, 4) ∧ sh[R + 1]? = some (100, 6) ∧ sh[R + 2]? = some (100, 32) ∧ mr R 2 = some (R + 1) ∧ mr R 3 = some (R + 2) := by
  rcases h with rfl | rfl <;> exact ⟨pu_s hC _ rfl rfl, pu_s hC _ rfl rfl, pu_s hC _ rfl rfl, pu_r hC _ _ rfl rfl, pu_r hC _ _ rfl rfl⟩
/-- a cell that is a man -/
def xm_M (k : Nat) : Prop := ∃ i, i < 6 ∧ (k = 54 + 4 * i ∨ k = 56 + 4 * i ∨ k = 42 + 2 * i)
theorem xm_M_cases {P : Nat → Prop} {k : Nat} (h : xm_M k) (h1 : ∀ i, i < 6 → P (54 + 4 * i)) (h2 : ∀ i, i < 6 → P (56 + 4 * i)) (h3 : ∀ i, i < 6 → P (42 + 2 * i)) : P k := by
  obtain ⟨i, hi, rfl | rfl | rfl⟩ := h
  · exact h1 i hi
  · exact h2 i hi
  · exact h3 i hi
theorem lo_6 {P : Nat → Prop} (h0 : P 0) (h1 : P 1) (h2 : P 2) (h3 : P 3) (h4 : P 4) (h5 : P 5) : ∀ i, i < 6 → P i := by
  intro i hi
  rcases (show i = 0 ∨ i = 1 ∨ i = 2 ∨ i = 3 ∨ i = 4 ∨ i = 5 by omega) with rfl | rfl | rfl | rfl | rfl | rfl <;> assumption
theorem pu_M {sh : im_Sh} {mr : im_MR} (hC : pu_C sh mr) {k : Nat} (h : xm_M k) : sh[k]? = some (1, 5) ∧ sh[k + 1]? = some (100, 12) ∧ mr k 4 = some (k + 1) := by
  refine xm_M_cases (P := fun k => sh[k]? = some (1, 5) ∧ sh[k + 1]? = some (100, 12) ∧ mr k 4 = some (k + 1)) h (lo_6 ?_ ?_ ?_ ?_ ?_ ?_) (lo_6 ?_ ?_ ?_ ?_ ?_ ?_) (lo_6 ?_ ?_ ?_ ?_ ?_ ?_) <;> exact ⟨pu_s hC _ rfl rfl, pu_s hC _ rfl rfl, pu_r hC _ _ rfl rfl⟩
theorem xm_M_ne {k : Nat} (h : xm_M k) : 42 ≤ k ∧ k + 1 ≤ 77 := by
  obtain ⟨i, hi, rfl | rfl | rfl⟩ := h <;> omega
/-- a man's cell holds a: 0 .. 11 doings, 12 term, 13 place, 14 kind, 15 more -/
def xm_ok (mi : im_MI) (k : Nat) (a : Nat → Nat) : Prop := mi k 0 = nI (a 14) ∧ mi k 1 = nI (a 15) ∧ mi k 2 = nI (a 12) ∧ mi k 3 = nI (a 13) ∧ (∀ h, h < 12 → mi (k + 1) h = nI (a h)) ∧ a 14 < 6 ∧ a 15 < 10 ∧ a 12 ≤ 9999 ∧ a 13 < 1000 ∧ ∀ h, h < 12 → a h < 6
def te_enc (c : Nat) : Nat := if 100000 ≤ c then (c - 100000) * 64 + 2 else if c < 11 then c * 64 + 3 else if c = 11 then 7 else if c = 12 then 8 else if c = 13 then 9 else if c = 19 then 10 else if c = 14 then 60 else if c = 15 then 61 else if c = 16 then 43 else if c = 17 then 45 else 42
def xt_ok (mi : im_MI) (G : ho_G) (t : Nat) : Prop := (∀ p, p < 3 → mi (80 + 3 * t) p = nI (te_at G t (p + 1))) ∧ (∀ p k, p < 3 → k < (G t p).length → mi (79 + 3 * t) (te_at G t p + k) = nI (te_enc ((G t p).getD k 0))) ∧ (∀ p, p < 3 → te_ok 0 (G t p) = true) ∧ te_at G t 3 ≤ 160
theorem nI_and63 {a : Nat} (h : a < 2 ^ 32) : nI a &&& nI 63 = nI (a % 64) := pk_andN h 6 (by decide)
theorem nI_shr6 {a : Nat} (h : a < 2 ^ 31) : nI a >>> (nI 6 &&& 31) = nI (a / 64) := nI_shr h (by decide)
