/-! ===== PURE: answers, and what is so afterwards ===== -/
def ho_rng (lo v hi : Int32) : Bool := decide (lo ≤ v ∧ v ≤ hi)
def ho_isM (H : ho_T) (m : Int32) : Bool := ho_rng (nI 0) m (nI (H 0 0) - nI 1)
def jn (v : Int32) : Nat := v.toNatClampNeg
theorem jn_n {j : Nat} (h : j < 2 ^ 31) : jn (nI j) = j := nI_clamp h
theorem ho_rng_n {lo hi : Nat} {v : Int32} (h : ho_rng (nI lo) v (nI hi) = true) (hl : lo < 2 ^ 31) (hh : hi < 2 ^ 31) : ∃ j, v = nI j ∧ lo ≤ j ∧ j ≤ hi ∧ jn (nI j) = j := by
  obtain ⟨j, e, h1, h2⟩ := pu_rng (of_decide_eq_true h) hl hh
  exact ⟨j, e, h1, h2, jn_n (by omega)⟩
theorem ho_rng_t {lo hi j : Nat} (h1 : lo ≤ j) (h2 : j ≤ hi) (hh : hi < 2 ^ 31) : ho_rng (nI lo) (nI j) (nI hi) = true := decide_eq_true ⟨nI_le h1 (by omega), nI_le h2 hh⟩
theorem ho_isM_n {H : ho_T} {v : Int32} (hn : H 0 0 ≤ 6) (h : ho_isM H v = true) : ∃ j, v = nI j ∧ j < H 0 0 ∧ jn (nI j) = j := by
  obtain ⟨j, e, h1⟩ := pu_man (by omega) (of_decide_eq_true h)
  exact ⟨j, e, h1, jn_n (by omega)⟩
theorem ho_isM_t {H : ho_T} {j : Nat} (hn : H 0 0 ≤ 6) (h : j < H 0 0) : ho_isM H (nI j) = true := decide_eq_true (pu_man' (by omega) h)
theorem pu_b_c {p q : Prop} [Decidable p] [Decidable q] (h : p ↔ q) : pu_b p = pu_b q := by unfold pu_b; by_cases e : p <;> simp [e, ← h]
theorem pu_b_c' {p q : Prop} [Decidable p] [Decidable q] (h : p ↔ q) : Value.int (pu_b p) = Value.int (pu_b q) := congrArg Value.int (pu_b_c h)
def ho_set (H : ho_T) (i j v : Nat) : ho_T := fun a b => if a = i ∧ b = j then v else H a b
theorem ho_set_s (H : ho_T) (i j v : Nat) : ho_set H i j v i j = v := if_pos ⟨rfl, rfl⟩
theorem ho_set_i (H : ho_T) (i j v : Nat) {a : Nat} (h : a ≠ i) (b : Nat) : ho_set H i j v a b = H a b := if_neg fun q => h q.1
theorem ho_set_j (H : ho_T) (i j v : Nat) {b : Nat} (h : b ≠ j) (a : Nat) : ho_set H i j v a b = H a b := if_neg fun q => h q.2
def an_count (H : ho_T) (w : Int32) : Int32 := if w = nI 0 then nI (H 0 0) else if w = nI 1 then nI (H 0 1) else if w = nI 2 then nI (H 0 2) else if w = nI 3 then nI (H 0 3) else if w = nI 4 then nI (H 0 4) else -2
def an_watches (H : ho_T) (s : Int32) : Int32 := if ho_rng (nI 0) s (nI 4095) = true then nI (H 0 1) else -2
def st_watches (H : ho_T) (s : Int32) : ho_T := if ho_rng (nI 0) s (nI 4095) = true then ho_set H 0 1 (jn s) else H
def an_asks (H : ho_T) (G : ho_G) (p m h : Int32) : Int32 := if ho_rng (nI 0) p (nI 2) = true then (if ho_isM H m = true then (if ho_rng (nI 0) h (nI 11) = true then nI (ho_asks H G (jn p) (jn m) (jn h)) else -2) else -2) else -2
def an_man (H : ho_T) (v : Int32) : Int32 := if ho_rng (nI 0) v (nI 59) = true then (if 6 ≤ H 0 0 then -4 else nI (H 0 0)) else -2
def st_come (H : ho_T) (v : Nat) : ho_T := fun a b => if a = 0 ∧ b = 0 then H 0 0 + 1 else if a = 1 ∧ b = H 0 0 then v / 10 else if a = 2 ∧ b = H 0 0 then v % 10 else if a = 10 + H 0 0 then (if b = 13 then H 0 0 else 0) else H a b
def st_man (H : ho_T) (v : Int32) : ho_T := if ho_rng (nI 0) v (nI 59) = true then (if 6 ≤ H 0 0 then H else st_come H (jn v)) else H
def an_put (H : ho_T) (m w v : Int32) : Int32 := if ho_isM H m = true then (if ho_rng (nI 0) w (nI 12) = true then (if ho_rng (nI 0) v (if w = nI 12 then nI 9999 else nI 5) = true then nI (H (10 + jn m) (jn w)) else -7) else -7) else -5
def st_put (H : ho_T) (m w v : Int32) : ho_T := if ho_isM H m = true then (if ho_rng (nI 0) w (nI 12) = true then (if ho_rng (nI 0) v (if w = nI 12 then nI 9999 else nI 5) = true then ho_set H (10 + jn m) (jn w) (jn v) else H) else H) else H
def an_told (H : ho_T) (m w : Int32) : Int32 := if ho_isM H m = true then (if ho_rng (nI 0) w (nI 12) = true then nI (H (10 + jn m) (jn w)) else if w = nI 13 then nI (H 1 (jn m)) else if w = nI 14 then nI (H 2 (jn m)) else if w = nI 15 then nI (H (10 + jn m) 13) else if w = nI 16 then pu_o (ho_mate H (jn m)) else -7) else -5
def st_swap (H : ho_T) (a b : Nat) : ho_T := ho_set (ho_set H (10 + a) 13 (H (10 + b) 13)) (10 + b) 13 (H (10 + a) 13)
def an_move (H : ho_T) (a b : Int32) : Int32 := if ho_isM H a = true then (if ho_isM H b = true then nI (H (10 + jn b) 13) else -5) else -5
def st_move (H : ho_T) (a b : Int32) : ho_T := if ho_isM H a = true then (if ho_isM H b = true then st_swap H (jn a) (jn b) else H) else H
def an_hour (H : ho_T) (G : ho_G) (m h w : Int32) : Int32 := if ho_isM H m = true then (if ho_rng (nI 0) h (nI 11) = true then (if w = nI 0 then nI (ho_sign H (jn m) (jn h)) else if w = nI 1 then nI (ho_comp H G (jn m) (jn h)) else if w = nI 2 then nI (ho_days H G (jn m) (jn h)) else -7) else -7) else -5
def an_day (H : ho_T) (G : ho_G) (m w : Int32) : Int32 := if ho_isM H m = true then (if w = nI 0 then nI (ho_day H G (jn m)) else if w = nI 1 then nI (lo_one (fun h => decide (0 < ho_comp H G (jn m) h)) 12) else if w = nI 2 then pu_o (lo_find (fun h => decide (0 < ho_comp H G (jn m) h)) 12 0) else if w = nI 3 then nI (lo_max (fun h => ho_comp H G (jn m) h) 12) else -7) else -5
def st_live (H : ho_T) (G : ho_G) : ho_T := fun a b => if 10 ≤ a ∧ a < 10 + H 0 0 ∧ b = 12 then Nat.min 9999 (H a 12 + ho_day H G (a - 10)) else H a b
/-! what a change keeps -/
theorem ho_bd_put {H : ho_T} (h : ho_bd H) {m w v : Nat} (hw : (w < 12 ∧ v < 6) ∨ (w = 12 ∧ v ≤ 9999) ∨ (w = 13 ∧ v < 1000)) : ho_bd (ho_set H (10 + m) w v) := by
  obtain ⟨h1, h2, h3, h4, h5, h6, h7, h8, h9, h10⟩ := h
  have e : ∀ i j, i < 10 → ho_set H (10 + m) w v i j = H i j := fun i j hi => ho_set_i _ _ _ _ (by omega) _
  refine ⟨by rw [e 0 0 (by decide)]; exact h1, by rw [e 0 1 (by decide)]; exact h2, by rw [e 0 2 (by decide)]; exact h3, by rw [e 0 3 (by decide), e 0 2 (by decide)]; exact h4, by rw [e 0 4 (by decide)]; exact h5, fun m => by rw [e 1 m (by decide)]; exact h6 m, fun m => by rw [e 2 m (by decide)]; exact h7 m, fun q k hk => ?_, fun q => ?_, fun q => ?_⟩
  · unfold ho_set
    split
    · omega
    · exact h8 q k hk
  · unfold ho_set
    split
    · omega
    · exact h9 q
  · unfold ho_set
    split
    · omega
    · exact h10 q
theorem ho_iv_put {H : ho_T} (h : ho_iv H) {m w v : Nat} (hw : w ≠ 13) : ho_iv (ho_set H (10 + m) w v) := by
  have e : ho_set H (10 + m) w v 0 0 = H 0 0 := ho_set_i _ _ _ _ (by omega) _
  have e2 : ∀ q, ho_set H (10 + m) w v q 13 = H q 13 := fun q => ho_set_j _ _ _ _ (by omega) _
  unfold ho_iv
  rw [e]
  refine ⟨fun q hq => by rw [e2]; exact h.1 q hq, fun q o hq ho he => ?_⟩
  rw [e2, e2] at he
  exact h.2 q o hq ho he
theorem st_swap_at (H : ho_T) (a b : Nat) (q : Nat) : st_swap H a b (10 + q) 13 = if q = b then H (10 + a) 13 else if q = a then H (10 + b) 13 else H (10 + q) 13 := by
  unfold st_swap ho_set
  by_cases h1 : q = b
  · rw [if_pos ⟨by omega, rfl⟩, if_pos h1]
  · rw [if_neg (by omega), if_neg h1]
    by_cases h2 : q = a
    · rw [if_pos ⟨by omega, rfl⟩, if_pos h2]
    · rw [if_neg (by omega), if_neg h2]
theorem st_swap_lo (H : ho_T) (a b : Nat) {i : Nat} (h : i < 10) (j : Nat) : st_swap H a b i j = H i j := by
  unfold st_swap
  rw [ho_set_i _ _ _ _ (by omega), ho_set_i _ _ _ _ (by omega)]
theorem st_swap_j (H : ho_T) (a b : Nat) {j : Nat} (h : j ≠ 13) (i : Nat) : st_swap H a b i j = H i j := by
  unfold st_swap
  rw [ho_set_j _ _ _ _ h, ho_set_j _ _ _ _ h]
theorem ho_iv_swap {H : ho_T} (h : ho_iv H) {a b : Nat} (ha : a < H 0 0) (hb : b < H 0 0) : ho_iv (st_swap H a b) := by
  unfold ho_iv
  rw [st_swap_lo H a b (by decide)]
  refine ⟨fun q hq => ?_, fun q o hq ho he => ?_⟩
  · rw [st_swap_at]
    split
    · exact h.1 a ha
    · split
      · exact h.1 b hb
      · exact h.1 q hq
  · rw [st_swap_at, st_swap_at] at he
    have k1 := fun e => h.2 q o hq ho e
    have k2 := fun e => h.2 a b ha hb e
    have k3 := fun e => h.2 a o ha ho e
    have k4 := fun e => h.2 b o hb ho e
    have k5 := fun e => h.2 q a hq ha e
    have k6 := fun e => h.2 q b hq hb e
    split at he <;> split at he <;> (try split at he) <;> (try split at he) <;> first
      | omega
      | (have := k1 he; omega)
      | (have := k2 he; omega)
      | (have := k3 he; omega)
      | (have := k4 he; omega)
      | (have := k5 he; omega)
      | (have := k6 he; omega)
      | (have := k2 he.symm; omega)
      | (have := k3 he.symm; omega)
      | (have := k4 he.symm; omega)
      | (have := k5 he.symm; omega)
      | (have := k6 he.symm; omega)
theorem ho_bd_swap {H : ho_T} (h : ho_bd H) (a b : Nat) : ho_bd (st_swap H a b) := ho_bd_put (ho_bd_put h (Or.inr (Or.inr ⟨rfl, h.2.2.2.2.2.2.2.2.2 b⟩))) (Or.inr (Or.inr ⟨rfl, h.2.2.2.2.2.2.2.2.2 a⟩))
/-- the class's side of a change of one man -/
theorem xa_upd {H H' : ho_T} {G : ho_G} {mi mi' : im_MI} {mr : im_MR} {m : Nat} (hx : xa_ok H G mi mr) (hm : m < H 0 0) (hH : ∀ i j, i ≠ 10 + m → H' i j = H i j) (hs : sc_ (xM2 (54 + 4 * m)) mi mi') (hok : xm_ok mi' (54 + 4 * m) (ho_row H' m)) (hbd : ho_bd H') (hiv : ho_iv H') : xa_ok H' G mi' mr := by
  have hn := xa_n hx
  have hb := xa_bd hx
  have e : ∀ k, k ≠ 54 + 4 * m → k ≠ 55 + 4 * m → mi' k = mi k := fun k h1 h2 => hs k (decide_eq_false (by omega))
  have e0 : ∀ j, H' 0 j = H 0 j := fun j => hH 0 j (by omega)
  obtain ⟨h1, h2, h3, h4, h5, h6, h7, h8, h9⟩ := hx
  have ht := hb.2.2.1
  refine ⟨by rw [e 29 (by omega) (by omega), e0]; exact h1, by rw [e 29 (by omega) (by omega), e0]; exact h2, by rw [e 29 (by omega) (by omega), e0]; exact h3, by rw [e 104 (by omega) (by omega), e0]; exact h4, by rw [e0]; exact h5, fun q hq => ?_, fun t ht => ?_, hbd, hiv⟩
  · rw [e0] at hq
    by_cases hqm : q = m
    · subst hqm; exact hok
    · have er : ho_row H' q = ho_row H q := by
        funext j
        unfold ho_row
        rw [hH 1 q (by omega), hH 2 q (by omega), hH (10 + q) j (by omega)]
      rw [er]
      exact xm_row (h6 q hq) (e _ (by omega) (by omega)) (e _ (by omega) (by omega))
  · rw [e0] at ht
    exact xt_row (h7 t ht) (e _ (by omega) (by omega)) (e _ (by omega) (by omega))
theorem xh_upd {H H' K : ho_T} {mi mi' : im_MI} (h : xh_ok H K mi) (hn : H 0 0 ≤ 6) (h0 : ∀ j, H' 0 j = H 0 j) (h1 : ∀ j, H' 1 j = H 1 j) (h2 : ∀ j, H' 2 j = H 2 j) (hs : ∀ k, k = 33 ∨ k = 34 ∨ (40 ≤ k ∧ k ≤ 53) ∨ (96 ≤ k ∧ k ≤ 103) → mi' k = mi k) : xh_ok H' K mi' := by
  have h3 := xh_row h hs (xh_i6 h hn)
  have er : ∀ m, ho_irow H' K m = ho_irow H K m := fun m => by funext j; unfold ho_irow; rw [h1, h2]
  unfold xh_ok ho_hb at h3 ⊢
  simp only [h0, er]
  exact h3
theorem xm_term {mi : im_MI} {k v : Nat} {a : Nat → Nat} (ha : xm_ok mi k a) (hv : v ≤ 9999) : xm_ok (im_u mi k 2 (nI v)) k (ho_at a 12 v) := by
  obtain ⟨h1, h2, h3, h4, h5, h6, h7, h8, h9, h10⟩ := ha
  have e : ∀ j, j ≠ 2 → im_u mi k 2 (nI v) k j = mi k j := fun j hj => im_u_j _ _ _ _ hj
  have e1 : ∀ j, im_u mi k 2 (nI v) (k + 1) j = mi (k + 1) j := fun j => im_u_k _ _ _ _ (by omega)
  have e2 : ∀ j, j ≠ 12 → ho_at a 12 v j = a j := fun j hj => if_neg hj
  refine ⟨by rw [e 0 (by decide), e2 14 (by decide)]; exact h1, by rw [e 1 (by decide), e2 15 (by decide)]; exact h2, by rw [im_u_s]; rfl, by rw [e 3 (by decide), e2 13 (by decide)]; exact h4, fun j hj => by rw [e1, e2 j (by omega)]; exact h5 j hj, by rw [e2 14 (by decide)]; exact h6, by rw [e2 15 (by decide)]; exact h7, hv, by rw [e2 13 (by decide)]; exact h9, fun j hj => by rw [e2 j (by omega)]; exact h10 j hj⟩
theorem xm_place {mi : im_MI} {k v : Nat} {a : Nat → Nat} (ha : xm_ok mi k a) (hv : v < 1000) : xm_ok (im_u mi k 3 (nI v)) k (ho_at a 13 v) := by
  obtain ⟨h1, h2, h3, h4, h5, h6, h7, h8, h9, h10⟩ := ha
  have e : ∀ j, j ≠ 3 → im_u mi k 3 (nI v) k j = mi k j := fun j hj => im_u_j _ _ _ _ hj
  have e1 : ∀ j, im_u mi k 3 (nI v) (k + 1) j = mi (k + 1) j := fun j => im_u_k _ _ _ _ (by omega)
  have e2 : ∀ j, j ≠ 13 → ho_at a 13 v j = a j := fun j hj => if_neg hj
  refine ⟨by rw [e 0 (by decide), e2 14 (by decide)]; exact h1, by rw [e 1 (by decide), e2 15 (by decide)]; exact h2, by rw [e 2 (by decide), e2 12 (by decide)]; exact h3, by rw [im_u_s]; rfl, fun j hj => by rw [e1, e2 j (by omega)]; exact h5 j hj, by rw [e2 14 (by decide)]; exact h6, by rw [e2 15 (by decide)]; exact h7, by rw [e2 12 (by decide)]; exact h8, hv, fun j hj => by rw [e2 j (by omega)]; exact h10 j hj⟩
theorem ho_row_set (H : ho_T) (m : Nat) {w : Nat} (v : Nat) (hw : w < 14) : ho_row (ho_set H (10 + m) w v) m = ho_at (ho_row H m) w v := by
  funext j
  show (if j = 14 then _ else if j = 15 then _ else _) = (if j = w then v else (if j = 14 then H 1 m else if j = 15 then H 2 m else H (10 + m) j))
  by_cases h14 : j = 14
  · rw [if_pos h14, if_neg (by omega), if_pos h14, ho_set_i _ _ _ _ (by omega)]
  · rw [if_neg h14, if_neg h14]
    by_cases h15 : j = 15
    · rw [if_pos h15, if_neg (by omega), if_pos h15, ho_set_i _ _ _ _ (by omega)]
    · rw [if_neg h15, if_neg h15]
      unfold ho_set
      simp
theorem xM2_I {mi mi2 : im_MI} {m k j : Nat} {v : Int32} (h : sc_ (xM2 (54 + 4 * m)) mi mi2) (hk : k = 54 + 4 * m ∨ k = 54 + 4 * m + 1) : sc_ (xM2 (54 + 4 * m)) mi (im_u mi2 k j v) := h.u (decide_eq_true hk)
/-- what lies beyond a man's cells -/
theorem xM2_out {mi mi2 : im_MI} {m : Nat} (h : sc_ (xM2 (54 + 4 * m)) mi mi2) (hm : m < 6) : ∀ k, k = 33 ∨ k = 34 ∨ (40 ≤ k ∧ k ≤ 53) ∨ (96 ≤ k ∧ k ≤ 103) → mi2 k = mi k := fun k hk => h k (decide_eq_false (by omega))
def xAll (k : Nat) : Bool := decide (29 ≤ k ∧ k < 110)
theorem xM2_all {m : Nat} (hm : m < 6) (k : Nat) (h : xM2 (54 + 4 * m) k = true) : xAll k = true := by
  have := of_decide_eq_true h
  exact decide_eq_true (by omega)
