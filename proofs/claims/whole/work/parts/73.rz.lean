/-! ===== PURE, the reference: its whole state, what a call may write ===== -/
def wd_l : List Nat := [99, 111, 117, 110, 116, 115, 32, 32, 112, 97, 121, 115, 32, 32, 32, 32, 115, 101, 101, 115, 32, 32, 32, 32, 109, 105, 110, 101, 32, 32, 32, 32, 104, 105, 115, 32, 32, 32, 32, 32, 104, 111, 117, 114, 32, 32, 32, 32, 116, 101, 114, 109, 32, 32, 32, 32, 109, 111, 114, 101, 32, 32, 32, 32, 119, 97, 116, 99, 104, 101, 100, 32, 111, 114, 32, 32, 32, 32, 32, 32, 97, 110, 100, 32, 32, 32, 32, 32, 110, 111, 116, 32, 32, 32, 32, 32]
def wd_ (j : Nat) : Nat := wd_l.getD j 0
/-- the reference's sheets, tape, image, words -/
def rh_ok (H K : ho_T) (mi : im_MI) : Prop := mi 110 6 = nI (H 0 4) ∧ (∀ j, j < H 0 4 → mi 114 j = nI (K 6 j)) ∧ mi 110 11 = nI (K 0 0) ∧ (K 0 0 = 1 → mi 118 0 = nI (K 0 1) ∧ mi 118 1 = nI (K 0 2) ∧ mi 118 2 = nI (K 0 3) ∧ ∀ m k, m < 6 → k < 14 → mi 117 (14 * m + k) = nI (K (10 + m) k)) ∧ (∀ s, s < 4 → mi 119 s = nI (K 4 s) - 1 ∧ mi 120 s = nI (K 5 s) ∧ ∀ j, j < 40 → mi 121 (40 * s + j) = nI (K (20 + s) j)) ∧ (∀ j, j < 96 → mi 123 j = nI (wd_ j)) ∧ ho_hb H K
def rAll (k : Nat) : Bool := decide (110 ≤ k ∧ k < 133)
theorem rAll_t {k : Nat} (h : 110 ≤ k ∧ k < 133) : rAll k = true := decide_eq_true h
/-- the reference's cells, since a first memory -/
def rz_ (H K : ho_T) (G : ho_G) (m0 mi : im_MI) : Prop := rr_ok H G mi ∧ rh_ok H K mi ∧ sc_ rAll m0 mi
theorem rz_rf {H K : ho_T} {G : ho_G} {mi : im_MI} (h1 : rr_ok H G mi) (h2 : rh_ok H K mi) : rz_ H K G mi mi := ⟨h1, h2, sc_rf⟩
theorem rz_tr {H K H2 K2 : ho_T} {G G2 : ho_G} {m0 m1 m2 : im_MI} (h : rz_ H K G m0 m1) (h2 : rz_ H2 K2 G2 m1 m2) : rz_ H2 K2 G2 m0 m2 := ⟨h2.1, h2.2.1, h.2.2.trans h2.2.2⟩
theorem rh_row {H K : ho_T} {mi m2 : im_MI} (h : rh_ok H K mi) (e : ∀ k, (k = 114 ∨ (117 ≤ k ∧ k ≤ 121) ∨ k = 123) → m2 k = mi k) (e6 : m2 110 6 = mi 110 6) (e11 : m2 110 11 = mi 110 11) : rh_ok H K m2 := by
  unfold rh_ok at h ⊢
  rw [e6, e11, e 114 (by decide), e 117 (by decide), e 118 (by decide), e 119 (by decide), e 120 (by decide), e 121 (by decide), e 123 (by decide)]
  exact h
/-- scratch cells -/
theorem rz_s {H K : ho_T} {G : ho_G} {m0 mi : im_MI} (h : rz_ H K G m0 mi) {k j : Nat} {v : Int32} (hk : (124 ≤ k ∧ k ≤ 132) ∨ (k = 110 ∧ 18 ≤ j)) : rz_ H K G m0 (im_u mi k j v) := by
  have e : ∀ q, q ≠ k → im_u mi k j v q = mi q := fun q hq => im_u_row' hq
  have e0 : ∀ i, i < 18 → im_u mi k j v 110 i = mi 110 i := fun i hi => by
    rcases hk with q | ⟨rfl, q⟩
    · exact im_u_k _ _ _ _ (by omega)
    · exact im_u_j _ _ _ _ (by omega)
  refine ⟨?_, rh_row h.2.1 (fun q hq => e q (by omega)) (e0 6 (by decide)) (e0 11 (by decide)), h.2.2.u (rAll_t (by omega))⟩
  obtain ⟨h1, h2, h3, h4, h5, h6, h7, h8, h9⟩ := h.1
  refine ⟨by rw [e0 0 (by decide)]; exact h1, by rw [e0 4 (by decide)]; exact h2, by rw [e0 9 (by decide)]; exact h3, by rw [e0 10 (by decide)]; exact h4, fun m hm => by rw [e 111 (by omega), e 112 (by omega)]; exact h5 m hm, fun m k2 hm hk2 => by rw [e 113 (by omega)]; exact h6 m k2 hm hk2, fun t ht => ⟨fun p hp => by rw [e 116 (by omega)]; exact (h7 t ht).1 p hp, fun p k2 hp hk2 => by rw [e 115 (by omega)]; exact (h7 t ht).2 p k2 hp hk2⟩, h8, h9⟩
theorem nbeq_f {a b : Nat} (h : a ≠ b) : Nat.beq a b = false := by
  cases e : Nat.beq a b with
  | false => rfl
  | true => exact absurd (Nat.eq_of_beq_eq_true e) h
theorem rz_sS {H K : ho_T} {G : ho_G} {m0 mi m2 : im_MI} (h : rz_ H K G m0 mi) (hs : sc_ sS mi m2) : rz_ H K G m0 m2 := by
  have e : ∀ k, k ≠ 125 → k ≠ 126 → m2 k = mi k := fun k h1 h2 => hs k (by
    unfold sS
    rw [Bool.or_eq_false_iff]
    exact ⟨nbeq_f h1, nbeq_f h2⟩)
  exact ⟨rr_sS h.1 hs, rh_row h.2.1 (fun k hk => e k (by omega) (by omega)) (by rw [e 110 (by decide) (by decide)]) (by rw [e 110 (by decide) (by decide)]), h.2.2.trans (hs.mono (fun k hk => by
    unfold sS at hk
    rw [Bool.or_eq_true] at hk
    rcases hk with q | q
    · rw [Nat.eq_of_beq_eq_true q]; rfl
    · rw [Nat.eq_of_beq_eq_true q]; rfl))⟩
theorem rh_H {H H2 K : ho_T} {mi : im_MI} (h : rh_ok H K mi) (e4 : H2 0 4 = H 0 4) (hb : ho_hb H2 K) : rh_ok H2 K mi := by
  obtain ⟨h1, h2, h3, h4, h5, h6, h7⟩ := h
  exact ⟨by rw [e4]; exact h1, by rw [e4]; exact h2, h3, h4, h5, h6, hb⟩
theorem ho_hb_eq {H H2 K : ho_T} (h : ho_hb H K) (h00 : H 0 0 ≤ H2 0 0) (h02 : H 0 2 ≤ H2 0 2) : ho_hb H2 K := by
  obtain ⟨c1, c2, c3, c4, c5, c6⟩ := h
  refine ⟨c1, c2, c3, c4, c5, fun q => ?_⟩
  obtain ⟨d1, d2, d3, d4⟩ := c6 q
  exact ⟨Nat.le_trans d1 h00, d2, Nat.lt_of_lt_of_le d3 h02, d4⟩
/-- a man's row -/
theorem rz_row {H K : ho_T} {G : ho_G} {m0 mi : im_MI} (h : rz_ H K G m0 mi) {m w v : Nat} (hm : m < 6) (hw : w < 14) (hb : ho_bd (ho_set H (10 + m) w v)) : rz_ (ho_set H (10 + m) w v) K G m0 (im_u mi 113 (14 * m + w) (nI v)) := by
  have e : ∀ q, q ≠ 113 → im_u mi 113 (14 * m + w) (nI v) q = mi q := fun q hq => im_u_row' hq
  have eH : ∀ i j, i < 10 → ho_set H (10 + m) w v i j = H i j := fun i j hi => ho_set_i _ _ _ _ (by omega) _
  refine ⟨?_, rh_H (rh_row h.2.1 (fun q hq => e q (by omega)) (by rw [e 110 (by decide)]) (by rw [e 110 (by decide)])) (eH 0 4 (by decide)) (ho_hb_eq h.2.1.2.2.2.2.2.2 (Nat.le_of_eq (eH 0 0 (by decide)).symm) (Nat.le_of_eq (eH 0 2 (by decide)).symm)), h.2.2.u (by rfl)⟩
  obtain ⟨h1, h2, h3, h4, h5, h6, h7, h8, h9⟩ := h.1
  refine ⟨by rw [e 110 (by decide), eH 0 0 (by decide)]; exact h1, by rw [e 110 (by decide), eH 0 1 (by decide)]; exact h2, by rw [e 110 (by decide), eH 0 2 (by decide)]; exact h3, by rw [e 110 (by decide), eH 0 3 (by decide)]; exact h4, fun q hq => by rw [e 111 (by decide), e 112 (by decide), eH 1 q (by decide), eH 2 q (by decide)]; exact h5 q hq, fun q k hq hk => ?_, fun t ht => ?_, hb, fun t ht => ?_⟩
  · by_cases c : q = m ∧ k = w
    · obtain ⟨rfl, rfl⟩ := c
      rw [im_u_s, ho_set_s]
    · rw [im_u_j _ _ _ _ (by omega), h6 q k hq hk]
      congr 1
      unfold ho_set
      rw [if_neg (by omega)]
  · rw [eH 0 2 (by decide)] at ht
    rw [e 116 (by decide), e 115 (by decide)]
    exact h7 t ht
  · rw [eH 0 2 (by decide)] at ht
    exact h9 t ht
/-- a kind, or more -/
theorem rz_kd {H K : ho_T} {G : ho_G} {m0 mi : im_MI} (h : rz_ H K G m0 mi) {m v c : Nat} (hm : m < 6) (hc : (c = 1 ∧ v < 6) ∨ (c = 2 ∧ v < 10)) : rz_ (ho_set H c m v) K G m0 (im_u mi (110 + c) m (nI v)) := by
  have e : ∀ q, q ≠ 110 + c → im_u mi (110 + c) m (nI v) q = mi q := fun q hq => im_u_row' hq
  have e0 : ∀ i j, i ≠ c → ho_set H c m v i j = H i j := fun i j hi => ho_set_i _ _ _ _ hi _
  have hc2 : c = 1 ∨ c = 2 := hc.elim (fun q => Or.inl q.1) (fun q => Or.inr q.1)
  refine ⟨?_, rh_H (rh_row h.2.1 (fun q hq => e q (by omega)) (by rw [e 110 (by omega)]) (by rw [e 110 (by omega)])) (e0 0 4 (by omega)) (ho_hb_eq h.2.1.2.2.2.2.2.2 (Nat.le_of_eq (e0 0 0 (by omega)).symm) (Nat.le_of_eq (e0 0 2 (by omega)).symm)), h.2.2.u (rAll_t (by omega))⟩
  obtain ⟨h1, h2, h3, h4, h5, h6, h7, ⟨b1, b2, b3, b4, b5, b6, b7, b8, b9, b10⟩, h9⟩ := h.1
  refine ⟨by rw [e 110 (by omega), e0 0 0 (by omega)]; exact h1, by rw [e 110 (by omega), e0 0 1 (by omega)]; exact h2, by rw [e 110 (by omega), e0 0 2 (by omega)]; exact h3, by rw [e 110 (by omega), e0 0 3 (by omega)]; exact h4, fun q hq => ?_, fun q k hq hk => by rw [e 113 (by omega), e0 _ _ (by omega)]; exact h6 q k hq hk, fun t ht => ?_, ⟨by rw [e0 0 0 (by omega)]; exact b1, by rw [e0 0 1 (by omega)]; exact b2, by rw [e0 0 2 (by omega)]; exact b3, by rw [e0 0 3 (by omega), e0 0 2 (by omega)]; exact b4, by rw [e0 0 4 (by omega)]; exact b5, fun q => ?_, fun q => ?_, fun q k hk => by rw [e0 _ _ (by omega)]; exact b8 q k hk, fun q => by rw [e0 _ _ (by omega)]; exact b9 q, fun q => by rw [e0 _ _ (by omega)]; exact b10 q⟩, fun t ht => ?_⟩
  · rcases hc2 with rfl | rfl
    · rw [e 112 (by decide), e0 2 q (by decide)]
      refine ⟨?_, (h5 q hq).2⟩
      by_cases c2 : q = m
      · subst c2; rw [im_u_s, ho_set_s]
      · rw [im_u_j _ _ _ _ c2, ho_set_j _ _ _ _ c2]; exact (h5 q hq).1
    · rw [e 111 (by decide), e0 1 q (by decide)]
      refine ⟨(h5 q hq).1, ?_⟩
      by_cases c2 : q = m
      · subst c2; rw [im_u_s, ho_set_s]
      · rw [im_u_j _ _ _ _ c2, ho_set_j _ _ _ _ c2]; exact (h5 q hq).2
  · rw [e0 0 2 (by omega)] at ht
    rw [e 116 (by omega), e 115 (by omega)]
    exact h7 t ht
  · unfold ho_set
    split
    · rename_i z; rcases hc with y | y
      · exact y.2
      · omega
    · exact b6 q
  · unfold ho_set
    split
    · rename_i z; rcases hc with y | y
      · omega
      · exact y.2
    · exact b7 q
  · rw [e0 0 2 (by omega)] at ht
    exact h9 t ht
/-- what is watched -/
theorem rz_watch {H K : ho_T} {G : ho_G} {m0 mi : im_MI} (h : rz_ H K G m0 mi) {v : Nat} (hv : v < 4096) : rz_ (ho_set H 0 1 v) K G m0 (im_u mi 110 4 (nI v)) := by
  have e : ∀ q, q ≠ 110 → im_u mi 110 4 (nI v) q = mi q := fun q hq => im_u_row' hq
  have ej : ∀ j, j ≠ 4 → im_u mi 110 4 (nI v) 110 j = mi 110 j := fun j hj => im_u_j _ _ _ _ hj
  have e0 : ∀ i j, i ≠ 0 → ho_set H 0 1 v i j = H i j := fun i j hi => ho_set_i _ _ _ _ hi _
  have e1 : ∀ j, j ≠ 1 → ho_set H 0 1 v 0 j = H 0 j := fun j hj => ho_set_j _ _ _ _ hj _
  refine ⟨?_, rh_H (rh_row h.2.1 (fun q hq => e q (by omega)) (ej 6 (by decide)) (ej 11 (by decide))) (e1 4 (by decide)) (ho_hb_eq h.2.1.2.2.2.2.2.2 (Nat.le_of_eq (e1 0 (by decide)).symm) (Nat.le_of_eq (e1 2 (by decide)).symm)), h.2.2.u rfl⟩
  obtain ⟨h1, h2, h3, h4, h5, h6, h7, ⟨b1, b2, b3, b4, b5, b6, b7, b8, b9, b10⟩, h9⟩ := h.1
  refine ⟨by rw [ej 0 (by decide), e1 0 (by decide)]; exact h1, by rw [im_u_s, ho_set_s], by rw [ej 9 (by decide), e1 2 (by decide)]; exact h3, by rw [ej 10 (by decide), e1 3 (by decide)]; exact h4, fun q hq => by rw [e 111 (by decide), e 112 (by decide), e0 1 q (by decide), e0 2 q (by decide)]; exact h5 q hq, fun q k hq hk => by rw [e 113 (by decide), e0 _ _ (by omega)]; exact h6 q k hq hk, fun t ht => ?_, ⟨by rw [e1 0 (by decide)]; exact b1, by rw [ho_set_s]; exact hv, by rw [e1 2 (by decide)]; exact b3, by rw [e1 3 (by decide), e1 2 (by decide)]; exact b4, by rw [e1 4 (by decide)]; exact b5, fun m => by rw [e0 1 _ (by decide)]; exact b6 m, fun m => by rw [e0 2 _ (by decide)]; exact b7 m, fun m k hk => by rw [e0 _ _ (by omega)]; exact b8 m k hk, fun m => by rw [e0 _ _ (by omega)]; exact b9 m, fun m => by rw [e0 _ _ (by omega)]; exact b10 m⟩, fun t ht => ?_⟩
  · rw [e1 2 (by decide)] at ht
    rw [e 116 (by decide), e 115 (by decide)]
    exact h7 t ht
  · rw [e1 2 (by decide)] at ht
    exact h9 t ht
/-- the law -/
theorem rz_rule {H K : ho_T} {G : ho_G} {m0 mi : im_MI} (h : rz_ H K G m0 mi) {v : Nat} (hv : v < H 0 2) : rz_ (ho_set H 0 3 v) K G m0 (im_u mi 110 10 (nI v)) := by
  have e : ∀ q, q ≠ 110 → im_u mi 110 10 (nI v) q = mi q := fun q hq => im_u_row' hq
  have ej : ∀ j, j ≠ 10 → im_u mi 110 10 (nI v) 110 j = mi 110 j := fun j hj => im_u_j _ _ _ _ hj
  have e0 : ∀ i j, i ≠ 0 → ho_set H 0 3 v i j = H i j := fun i j hi => ho_set_i _ _ _ _ hi _
  have e1 : ∀ j, j ≠ 3 → ho_set H 0 3 v 0 j = H 0 j := fun j hj => ho_set_j _ _ _ _ hj _
  refine ⟨?_, rh_H (rh_row h.2.1 (fun q hq => e q (by omega)) (ej 6 (by decide)) (ej 11 (by decide))) (e1 4 (by decide)) (ho_hb_eq h.2.1.2.2.2.2.2.2 (Nat.le_of_eq (e1 0 (by decide)).symm) (Nat.le_of_eq (e1 2 (by decide)).symm)), h.2.2.u rfl⟩
  obtain ⟨h1, h2, h3, h4, h5, h6, h7, ⟨b1, b2, b3, b4, b5, b6, b7, b8, b9, b10⟩, h9⟩ := h.1
  refine ⟨by rw [ej 0 (by decide), e1 0 (by decide)]; exact h1, by rw [ej 4 (by decide), e1 1 (by decide)]; exact h2, by rw [ej 9 (by decide), e1 2 (by decide)]; exact h3, by rw [im_u_s, ho_set_s], fun q hq => by rw [e 111 (by decide), e 112 (by decide), e0 1 q (by decide), e0 2 q (by decide)]; exact h5 q hq, fun q k hq hk => by rw [e 113 (by decide), e0 _ _ (by omega)]; exact h6 q k hq hk, fun t ht => ?_, ⟨by rw [e1 0 (by decide)]; exact b1, by rw [e1 1 (by decide)]; exact b2, by rw [e1 2 (by decide)]; exact b3, by rw [ho_set_s, e1 2 (by decide)]; exact hv, by rw [e1 4 (by decide)]; exact b5, fun m => by rw [e0 1 _ (by decide)]; exact b6 m, fun m => by rw [e0 2 _ (by decide)]; exact b7 m, fun m k hk => by rw [e0 _ _ (by omega)]; exact b8 m k hk, fun m => by rw [e0 _ _ (by omega)]; exact b9 m, fun m => by rw [e0 _ _ (by omega)]; exact b10 m⟩, fun t ht => ?_⟩
  · rw [e1 2 (by decide)] at ht
    rw [e 116 (by decide), e 115 (by decide)]
    exact h7 t ht
  · rw [e1 2 (by decide)] at ht
    exact h9 t ht
theorem rz_n {H K : ho_T} {G : ho_G} {m0 mi : im_MI} (h : rz_ H K G m0 mi) : H 0 0 ≤ 6 := h.1.2.2.2.2.2.2.2.1.1
theorem rz_bd {H K : ho_T} {G : ho_G} {m0 mi : im_MI} (h : rz_ H K G m0 mi) : ho_bd H := h.1.2.2.2.2.2.2.2.1
theorem rz_hb {H K : ho_T} {G : ho_G} {m0 mi : im_MI} (h : rz_ H K G m0 mi) : ho_hb H K := h.2.1.2.2.2.2.2.2
theorem rz_at {H K : ho_T} {G : ho_G} {m0 mi : im_MI} (h : rz_ H K G m0 mi) {m w : Nat} (hm : m < 6) (hw : w < 14) : mi 113 (14 * m + w) = nI (H (10 + m) w) := h.1.2.2.2.2.2.1 m w hm hw
theorem rz_k {H K : ho_T} {G : ho_G} {m0 mi : im_MI} (h : rz_ H K G m0 mi) {m : Nat} (hm : m < 6) : mi 111 m = nI (H 1 m) := (h.1.2.2.2.2.1 m hm).1
theorem rz_m {H K : ho_T} {G : ho_G} {m0 mi : im_MI} (h : rz_ H K G m0 mi) {m : Nat} (hm : m < 6) : mi 112 m = nI (H 2 m) := (h.1.2.2.2.2.1 m hm).2
theorem rz_sort {H K : ho_T} {G : ho_G} {m0 mi : im_MI} (h : rz_ H K G m0 mi) {s : Nat} (hs : s < 4) : mi 119 s = nI (K 4 s) - 1 := (h.2.1.2.2.2.2.1 s hs).1
theorem rz_size {H K : ho_T} {G : ho_G} {m0 mi : im_MI} (h : rz_ H K G m0 mi) {s : Nat} (hs : s < 4) : mi 120 s = nI (K 5 s) := (h.2.1.2.2.2.2.1 s hs).2.1
theorem rz_cell {H K : ho_T} {G : ho_G} {m0 mi : im_MI} (h : rz_ H K G m0 mi) {s j : Nat} (hs : s < 4) (hj : j < 40) : mi 121 (40 * s + j) = nI (K (20 + s) j) := (h.2.1.2.2.2.2.1 s hs).2.2 j hj
/-- put in and laid back: the same house -/
theorem ho_set_set (H : ho_T) (i j u v : Nat) : ho_set (ho_set H i j u) i j v = ho_set H i j v := by
  funext a b
  unfold ho_set
  split <;> rfl
theorem ho_set_bk (H : ho_T) (i j u : Nat) : ho_set (ho_set H i j u) i j (H i j) = H := by rw [ho_set_set, ho_set_same]
