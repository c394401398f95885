/-! ===== PURE, the class: what a law says of two men ===== -/
theorem xm_row {mi mi2 : im_MI} {k : Nat} {a : Nat → Nat} (h : xm_ok mi k a) (h1 : mi2 k = mi k) (h2 : mi2 (k + 1) = mi (k + 1)) : xm_ok mi2 k a := by
  unfold xm_ok at h ⊢
  rw [h1, h2]
  exact h
theorem xt_row {mi mi2 : im_MI} {G : ho_G} {t : Nat} (h : xt_ok mi G t) (h1 : mi2 (79 + 3 * t) = mi (79 + 3 * t)) (h2 : mi2 (80 + 3 * t) = mi (80 + 3 * t)) : xt_ok mi2 G t := by
  unfold xt_ok at h ⊢
  rw [h1, h2]
  exact h
theorem im_u_row' {mi : im_MI} {c j : Nat} {v : Int32} {k : Nat} (h : k ≠ c) : im_u mi c j v k = mi k := im_u_ne _ _ _ _ h
/-- rules R hold the law t (of the codes G t), watched w -/
def xr_ok (mi : im_MI) (mr : im_MR) (R : Nat) (G : ho_G) (t w : Nat) : Prop := xr_R R ∧ mr R 0 = some (78 + 3 * t) ∧ t < 6 ∧ xt_ok mi G t ∧ mi R 1 = nI w ∧ w < 4096
def xS (R k : Nat) : Bool := Nat.beq k (R + 1) || Nat.beq k (R + 2)
theorem xS_f {R k : Nat} (h1 : k ≠ R + 1) (h2 : k ≠ R + 2) : xS R k = false := by
  unfold xS
  have e1 : Nat.beq k (R + 1) = false := by
    cases e : Nat.beq k (R + 1) with
    | false => rfl
    | true => exact absurd (Nat.eq_of_beq_eq_true e) h1
  have e2 : Nat.beq k (R + 2) = false := by
    cases e : Nat.beq k (R + 2) with
    | false => rfl
    | true => exact absurd (Nat.eq_of_beq_eq_true e) h2
  rw [e1, e2]; rfl
theorem xS_1 (R : Nat) : xS R (R + 1) = true := by unfold xS; rw [Nat.beq_refl]; rfl
theorem xS_2 {R k : Nat} (h : xS R k = false) : Nat.beq k (R + 2) = false := by unfold xS at h; rw [Bool.or_eq_false_iff] at h; exact h.2
theorem xr_sc {mi mi2 : im_MI} {mr : im_MR} {R : Nat} {G : ho_G} {t w : Nat} (h : xr_ok mi mr R G t w) {R2 : Nat} (hR2 : xr_R R2) (hs : sc_ (xS R2) mi mi2) : xr_ok mi2 mr R G t w := by
  obtain ⟨h1, h2, h3, h4, h5, h6⟩ := h
  have hb : 104 ≤ R2 ∧ R2 ≤ 107 := by rcases hR2 with rfl | rfl <;> omega
  refine ⟨h1, h2, h3, xt_row h4 (hs _ (xS_f (by omega) (by omega))) (hs _ (xS_f (by omega) (by omega))), ?_, h6⟩
  rw [hs R (by rcases h1 with rfl | rfl <;> rcases hR2 with rfl | rfl <;> rfl)]
  exact h5
theorem xm_sc {mi mi2 : im_MI} {k : Nat} {a : Nat → Nat} (hk : xm_M k) (h : xm_ok mi k a) {R : Nat} (hR : xr_R R) (hs : sc_ (xS R) mi mi2) : xm_ok mi2 k a := by
  have hb : 104 ≤ R ∧ R ≤ 107 := by rcases hR with rfl | rfl <;> omega
  have := xm_M_ne hk
  exact xm_row h (hs _ (xS_f (by omega) (by omega))) (hs _ (xS_f (by omega) (by omega)))
/-- company and days of a man with a mate -/
def md_say (g : List Nat) (hi w : Nat) (a b : Nat → Nat) (h : Nat) : Nat := ho_say g hi (a h) (kd_signs (b 14) (b h)) h (a 12) (a 15) (w / 2 ^ h % 2)
def md_comp (G : ho_G) (t w : Nat) (a b : Nat → Nat) (h : Nat) : Nat := kd_minds (a 14) (a 15) (md_say (G t 0) 99 w a b h)
def md_days (G : ho_G) (t w : Nat) (a b : Nat → Nat) (h : Nat) : Nat := if w / 2 ^ h % 2 = 0 ∨ md_comp G t w a b h = 0 then 0 else kd_serves (a 14) (a 15) (md_say (G t 1) 99 w a b h)
def md_day (G : ho_G) (t w : Nat) (a b : Nat → Nat) : Nat := lo_sum (fun h => md_days G t w a b h) 12
theorem pu_clamp (v : Int32) (hi : Nat) (hh : hi < 2 ^ 31) : (if nI 0 < (if v < nI hi then v else nI hi) then (if v < nI hi then v else nI hi) else nI 0) = nI (te_clamp hi v) := by
  unfold te_clamp
  by_cases h0 : v < 0
  · rw [if_pos h0]
    have h1 : v < nI hi := Int32.lt_of_lt_of_le h0 (nI_pos' hh)
    rw [if_pos h1, if_neg (show ¬ nI 0 < v from fun q => absurd (Int32.lt_trans q h0) (Int32.lt_irrefl))]
  · rw [if_neg h0]
    obtain ⟨j, hj, rfl⟩ := nI_of h0
    rw [nI_clamp hj]
    by_cases h1 : hi < j
    · rw [if_pos ((nI_ltI hh hj).mpr h1), if_neg (nI_nlt (by omega) hj)]
      split
      · rfl
      · rename_i h2
        have := mt (nI_ltI (a := 0) (by decide) hh).mpr h2
        rw [show hi = 0 by omega]
    · rw [if_neg (nI_nlt (by omega) hh)]
      by_cases h2 : j < hi
      · rw [if_pos ((nI_ltI hj hh).mpr h2)]
        split
        · rfl
        · rename_i h3
          have := mt (nI_ltI (a := 0) (by decide) hj).mpr h3
          rw [show j = 0 by omega]
      · rw [if_neg (nI_nlt (by omega) hj), show hi = j by omega]
        split
        · rfl
        · rename_i h3
          have := mt (nI_ltI (a := 0) (by decide) hj).mpr h3
          rw [show j = 0 by omega]
theorem md_say_le (g : List Nat) (hi w : Nat) (a b : Nat → Nat) (h : Nat) (hh : hi < 2 ^ 31) : md_say g hi w a b h ≤ hi := te_clamp_le _ hh
