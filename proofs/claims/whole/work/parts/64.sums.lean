/-! ===== PURE: sums; all by another doing, by others' places ===== -/
theorem lo_sum_add (f g : Nat → Nat) : ∀ n, lo_sum (fun i => f i + g i) n = lo_sum f n + lo_sum g n
  | 0 => rfl
  | n + 1 => by rw [lo_sum_s, lo_sum_s, lo_sum_s, lo_sum_add f g n]; omega
theorem lo_sum_0 : ∀ n, lo_sum (fun _ => 0) n = 0
  | 0 => rfl
  | n + 1 => by rw [lo_sum_s, lo_sum_0 n]
theorem lo_sum_z {f : Nat → Nat} (n : Nat) (h : ∀ i, i < n → f i = 0) : lo_sum f n = 0 := by rw [lo_sum_eq n h, lo_sum_0]
theorem lo_sum_sw (f : Nat → Nat → Nat) (b : Nat) : ∀ a, lo_sum (fun i => lo_sum (fun j => f i j) b) a = lo_sum (fun j => lo_sum (fun i => f i j) a) b
  | 0 => (lo_sum_0 b).symm
  | a + 1 => by
    rw [lo_sum_s, lo_sum_sw f b a, ← lo_sum_add]
    rfl
/-- two sums that differ at one place -/
theorem lo_sum_1 {f g : Nat → Nat} {m : Nat} : ∀ n, m < n → (∀ i, i < n → i ≠ m → f i = g i) → lo_sum f n + g m = lo_sum g n + f m
  | 0, h, _ => by omega
  | n + 1, h, e => by
    rw [lo_sum_s, lo_sum_s]
    rcases Nat.eq_or_lt_of_le (Nat.le_of_lt_succ h) with q | q
    · subst q
      rw [lo_sum_eq m (fun i hi => e i (by omega) (by omega))]
      omega
    · have := lo_sum_1 n q (fun i hi hm => e i (by omega) hm)
      rw [e n (by omega) (by omega)]
      omega
theorem lo_sum_2 {f g : Nat → Nat} {m o n : Nat} (hm : m < n) (ho : o < n) (hne : o ≠ m) (e : ∀ i, i < n → i ≠ m → i ≠ o → f i = g i) : lo_sum f n + (g m + g o) = lo_sum g n + (f m + f o) := by
  have h1 := lo_sum_1 (f := f) (g := fun i => if i = m then g m else f i) n hm (fun i _ h => (if_neg h).symm)
  have h2 := lo_sum_1 (f := fun i => if i = m then g m else f i) (g := g) n ho (fun i hi h => by
    show (if i = m then g m else f i) = g i
    by_cases q : i = m
    · rw [if_pos q, q]
    · rw [if_neg q]; exact e i hi q h)
  rw [if_pos rfl] at h1
  rw [if_neg hne] at h2
  omega
/-- one alone is not 0 -/
theorem lo_sum_one {f : Nat → Nat} {m n : Nat} (hm : m < n) (h : ∀ i, i < n → i ≠ m → f i = 0) : lo_sum f n = f m := by
  have := lo_sum_1 (f := f) (g := fun _ => 0) n hm h
  rw [lo_sum_0] at this
  omega
def ho_col (H : ho_T) (G : ho_G) (h : Nat) : Nat := lo_sum (fun m => ho_days H G m h) (H 0 0)
theorem ho_all_col (H : ho_T) (G : ho_G) : ho_all H G = lo_sum (fun h => ho_col H G h) 12 := lo_sum_sw (fun m h => ho_days H G m h) 12 (H 0 0)
theorem ho_all_le {H : ho_T} (G : ho_G) (hn : H 0 0 ≤ 6) : ho_all H G ≤ 7128 := by
  have := lo_sum_le (f := fun m => ho_day H G m) (b := 1188) (H 0 0) (fun i _ => ho_day_le H G i)
  have h2 := Nat.mul_le_mul_right 1188 hn
  exact Nat.le_trans this h2
/-- days by what one does in this hour -/
theorem ho_days_d {H H' : ho_T} {G : ho_G} {w : Nat} {a : Nat → Nat} (e : ho_alt H H' w a) {q k : Nat} (hk : k < 12) (h1 : q = w → a k = ho_row H w k ∧ a 12 = ho_row H w 12 ∧ a 14 = ho_row H w 14 ∧ a 15 = ho_row H w 15) (h2 : ho_mate H q = some w → a k = ho_row H w k ∧ a 14 = ho_row H w 14) : ho_days H' G q k = ho_days H G q k := by
  obtain ⟨e0, e1, e3, e13, er, ea⟩ := e
  rw [ho_days_md H' G q k hk, ho_days_md H G q k hk, e1, e3, ho_mcell_eq e0 e13]
  have hr : ∀ j, (j = k ∨ j = 12 ∨ j = 14 ∨ j = 15) → ho_row H' q j = ho_row H q j := fun j hj => by
    by_cases hq : q = w
    · subst hq
      rw [ea]
      obtain ⟨f1, f2, f3, f4⟩ := h1 rfl
      rcases hj with rfl | rfl | rfl | rfl <;> assumption
    · rw [er q hq]
  unfold md_daysO ho_mcell
  cases hm : ho_mate H q with
  | none => rfl
  | some o =>
    have hs : ∀ j, (j = k ∨ j = 14) → ho_mrow H' q j = ho_mrow H q j := fun j hj => by
      unfold ho_mrow
      rw [ho_mate_eq e0 e13, hm]
      show ho_row H' o j = ho_row H o j
      by_cases ho : o = w
      · subst ho
        rw [ea]
        obtain ⟨f1, f2⟩ := h2 hm
        rcases hj with rfl | rfl <;> assumption
      · rw [er o ho]
    show md_days _ _ _ _ _ _ = md_days _ _ _ _ _ _
    unfold md_days md_comp md_say
    rw [hr k (Or.inl rfl), hr 12 (by simp), hr 14 (by simp), hr 15 (by simp), hs k (Or.inl rfl), hs 14 (Or.inr rfl)]
theorem ho_all_do {H : ho_T} (hv : ho_iv H) (G : ho_G) {m h : Nat} (d : Nat) (hm : m < H 0 0) (hh : h < 12) : ho_all (ho_set H (10 + m) h d) G + md_bothO G (H 0 3) (H 0 1) (ho_row H m) (ho_mcell H m) (ho_mrow H m) h = ho_all H G + md_bothO G (H 0 3) (H 0 1) (ho_at (ho_row H m) h d) (ho_mcell H m) (ho_mrow H m) h := by
  have ea := ho_alt_do H m d hh
  have e0 := ea.1
  have e1 := ea.2.1
  have e3 := ea.2.2.1
  have e13 := ea.2.2.2.1
  have er := ea.2.2.2.2.1
  have ew := ea.2.2.2.2.2
  rw [ho_all_col, ho_all_col]
  have hc : ∀ k, k < 12 → k ≠ h → ho_col (ho_set H (10 + m) h d) G k = ho_col H G k := fun k hk hkh => by
    unfold ho_col
    rw [e0]
    exact lo_sum_eq _ fun q _ => ho_days_d ea hk (fun _ => ⟨if_neg hkh, if_neg (by omega), if_neg (by omega), if_neg (by omega)⟩) (fun _ => ⟨if_neg hkh, if_neg (by omega)⟩)
  have h1 : lo_sum (fun k => ho_col (ho_set H (10 + m) h d) G k) 12 + ho_col H G h = lo_sum (fun k => ho_col H G k) 12 + ho_col (ho_set H (10 + m) h d) G h := lo_sum_1 12 hh hc
  have h2 : ho_col (ho_set H (10 + m) h d) G h + md_bothO G (H 0 3) (H 0 1) (ho_row H m) (ho_mcell H m) (ho_mrow H m) h = ho_col H G h + md_bothO G (H 0 3) (H 0 1) (ho_at (ho_row H m) h d) (ho_mcell H m) (ho_mrow H m) h := by
    unfold ho_col md_bothO ho_mcell ho_mrow
    rw [e0]
    cases e : ho_mate H m with
    | none =>
      show _ + 0 = _ + 0
      rw [lo_sum_eq _ (fun q (hq : q < H 0 0) => ?_)]
      by_cases hqm : q = m
      · rw [ho_days_md _ G q h hh, ho_days_md _ G q h hh, ho_mcell_eq e0 e13]
        unfold md_daysO ho_mcell
        rw [hqm, e]
        rfl
      · exact ho_days_d ea hh (fun q2 => absurd q2 hqm) (fun q2 => by
          have := ho_mate_sym hv hq q2
          rw [e] at this
          cases this)
    | some o =>
      have hne := ho_mate_ne e
      have hol := ho_mate_lt e
      have es := ho_mate_sym hv hm e
      have key := lo_sum_2 (f := fun q => ho_days (ho_set H (10 + m) h d) G q h) (g := fun q => ho_days H G q h) hm hol hne (fun q hq q1 q2 => ho_days_d ea hh (fun z => absurd z q1) (fun z => by
        have := ho_mate_sym hv hq z
        rw [e] at this
        exact absurd (Option.some.inj this).symm q2))
      have dm : ho_days H G m h = md_days G (H 0 3) (H 0 1) (ho_row H m) (ho_row H o) h := by rw [ho_days_md _ G m h hh]; unfold ho_mcell ho_mrow; rw [e]; rfl
      have dO : ho_days H G o h = md_days G (H 0 3) (H 0 1) (ho_row H o) (ho_row H m) h := by rw [ho_days_md _ G o h hh]; unfold ho_mcell ho_mrow; rw [es]; rfl
      have dm' : ho_days (ho_set H (10 + m) h d) G m h = md_days G (H 0 3) (H 0 1) (ho_at (ho_row H m) h d) (ho_row H o) h := by
        rw [ho_days_md _ G m h hh, ho_mcell_eq e0 e13, e1, e3, ew]; unfold ho_mcell ho_mrow; rw [ho_mate_eq e0 e13, e]
        show md_days _ _ _ _ (ho_row _ o) _ = _
        rw [er o hne]
      have dO' : ho_days (ho_set H (10 + m) h d) G o h = md_days G (H 0 3) (H 0 1) (ho_row H o) (ho_at (ho_row H m) h d) h := by
        rw [ho_days_md _ G o h hh, ho_mcell_eq e0 e13, e1, e3, er o hne]; unfold ho_mcell ho_mrow; rw [ho_mate_eq e0 e13, es]
        show md_days _ _ _ _ (ho_row _ m) _ = _
        rw [ew]
      show _ + (md_days G (H 0 3) (H 0 1) (ho_row H m) (ho_row H o) h + md_days G (H 0 3) (H 0 1) (ho_row H o) (ho_row H m) h) = _ + (md_days G (H 0 3) (H 0 1) (ho_at (ho_row H m) h d) (ho_row H o) h + md_days G (H 0 3) (H 0 1) (ho_row H o) (ho_at (ho_row H m) h d) h)
      rw [dm, dO, dm', dO'] at key
      exact key
  omega
theorem pu_diff {x b n c : Nat} (h : x + b = n + c) : nI n - nI b + nI c = nI x := by
  have h2 : nI x + nI b = nI n + nI c := by rw [nI_add, nI_add, h]
  have h3 : nI n - nI b + nI c = nI n + nI c - nI b := by
    rw [Int32.sub_eq_add_neg, Int32.sub_eq_add_neg, Int32.add_assoc, Int32.add_assoc, Int32.add_comm (-nI b)]
  rw [h3, ← h2, Int32.add_sub_cancel]
/-- best of several: the tag (of what was first), the value -/
def be_s (p : Int32 × Nat) (t v : Nat) : Int32 × Nat := if v < p.2 then (nI t, v) else p
theorem be_s_le (p : Int32 × Nat) (t v : Nat) : (be_s p t v).2 ≤ p.2 := by
  unfold be_s
  split
  · exact Nat.le_of_lt ‹_›
  · exact Nat.le_refl _
def be_d (H : ho_T) (G : ho_G) (m h : Nat) : Nat → Int32 × Nat → Int32 × Nat
  | 0, p => p
  | d + 1, p => be_s (be_d H G m h d p) (10 * h + d) (ho_all (ho_set H (10 + m) h d) G)
theorem be_d_le (H : ho_T) (G : ho_G) (m h : Nat) (p : Int32 × Nat) : ∀ d, (be_d H G m h d p).2 ≤ p.2
  | 0 => Nat.le_refl _
  | d + 1 => Nat.le_trans (be_s_le _ _ _) (be_d_le H G m h p d)
def be_h (H : ho_T) (G : ho_G) (m : Nat) : Nat → Int32 × Nat
  | 0 => (-1, ho_all H G)
  | h + 1 => be_d H G m h 6 (be_h H G m h)
theorem be_h_le (H : ho_T) (G : ho_G) (m : Nat) : ∀ h, (be_h H G m h).2 ≤ ho_all H G
  | 0 => Nat.le_refl _
  | h + 1 => Nat.le_trans (be_d_le _ _ _ _ _ _) (be_h_le H G m h)
def an_better (H : ho_T) (G : ho_G) (m w : Int32) : Int32 := if ho_isM H m = true then (if ho_rng (nI 0) w (nI 1) = true then (if w = nI 0 then (be_h H G (jn m) 12).1 else nI (be_h H G (jn m) 12).2) else -7) else -5
/-! pairs -/
def pw_ (H : ho_T) (G : ho_G) (a b : Nat) : Nat := md_day G (H 0 3) (H 0 1) (ho_row H a) (ho_row H b) + md_day G (H 0 3) (H 0 1) (ho_row H b) (ho_row H a)
theorem pw_sym (H : ho_T) (G : ho_G) (a b : Nat) : pw_ H G a b = pw_ H G b a := Nat.add_comm _ _
def pa_t (H P : ho_T) (G : ho_G) (i j : Nat) : Nat := if i < j ∧ P (10 + i) 13 = P (10 + j) 13 ^^^ 1 then pw_ H G i j else 0
theorem md_day_pl (G : ho_G) (t w : Nat) (a b : Nat → Nat) (u v : Nat) : md_day G t w (ho_at a 13 u) (ho_at b 13 v) = md_day G t w a b := by
  have e : ∀ (f : Nat → Nat) (z j : Nat), j ≠ 13 → ho_at f 13 z j = f j := fun f z j hj => if_neg hj
  refine lo_sum_eq 12 fun h hh => ?_
  show md_days _ _ _ _ _ _ = md_days _ _ _ _ _ _
  unfold md_days md_comp md_say
  rw [e a u h (by omega), e a u 12 (by decide), e a u 14 (by decide), e a u 15 (by decide), e b v h (by omega), e b v 14 (by decide)]
theorem xor1_sym {x y : Nat} (h : x = y ^^^ 1) : y = x ^^^ 1 := by rw [h, Nat.xor_assoc, Nat.xor_self, Nat.xor_zero]
/-- all, by pairs -/
theorem ho_all_pairs {P : ho_T} (G : ho_G) (hv : ho_iv P) : ho_all P G = lo_sum (fun i => lo_sum (fun j => pa_t P P G i j) (P 0 0)) (P 0 0) := by
  have h1 : ∀ i, i < P 0 0 → ho_day P G i = lo_sum (fun j => if P (10 + i) 13 = P (10 + j) 13 ^^^ 1 then md_day G (P 0 3) (P 0 1) (ho_row P i) (ho_row P j) else 0) (P 0 0) := fun i hi => by
    rw [ho_day_md]
    unfold md_dayO ho_mcell ho_mrow
    cases e : ho_mate P i with
    | none =>
      refine (lo_sum_z _ fun j hj => if_neg fun q => ?_).symm
      have := ho_mate_some hv hj (xor1_sym q)
      rw [e] at this
      cases this
    | some o =>
      have hol := ho_mate_lt e
      have hp := xor1_sym (ho_mate_pl1 e)
      rw [lo_sum_one hol (fun j hj hjo => if_neg fun q => hjo (by
        have := ho_mate_some hv hj (xor1_sym q)
        rw [e] at this
        exact (Option.some.inj this).symm)), if_pos hp]
      rfl
  have h2 : ho_all P G = lo_sum (fun i => lo_sum (fun j => if P (10 + i) 13 = P (10 + j) 13 ^^^ 1 then md_day G (P 0 3) (P 0 1) (ho_row P i) (ho_row P j) else 0) (P 0 0)) (P 0 0) := lo_sum_eq _ h1
  rw [h2]
  let D := fun i j => md_day G (P 0 3) (P 0 1) (ho_row P i) (ho_row P j)
  have h3 : ∀ i j, (if P (10 + i) 13 = P (10 + j) 13 ^^^ 1 then D i j else 0) = (if i < j ∧ P (10 + i) 13 = P (10 + j) 13 ^^^ 1 then D i j else 0) + (if j < i ∧ P (10 + j) 13 = P (10 + i) 13 ^^^ 1 then D i j else 0) := fun i j => by
    by_cases hq : P (10 + i) 13 = P (10 + j) 13 ^^^ 1
    · have hq2 := xor1_sym hq
      rw [if_pos hq]
      rcases Nat.lt_trichotomy i j with q | q | q
      · rw [if_pos ⟨q, hq⟩, if_neg (by omega)]; rfl
      · exact absurd (by rw [q] at hq; exact hq) (ho_xor1_ne _)
      · rw [if_neg (by omega), if_pos ⟨q, hq2⟩, Nat.zero_add]
    · rw [if_neg hq, if_neg (fun q => hq q.2), if_neg (fun q => hq (xor1_sym q.2))]
  have h4 : lo_sum (fun i => lo_sum (fun j => if j < i ∧ P (10 + j) 13 = P (10 + i) 13 ^^^ 1 then D i j else 0) (P 0 0)) (P 0 0) = lo_sum (fun i => lo_sum (fun j => if i < j ∧ P (10 + i) 13 = P (10 + j) 13 ^^^ 1 then D j i else 0) (P 0 0)) (P 0 0) := lo_sum_sw (fun i j => if j < i ∧ P (10 + j) 13 = P (10 + i) 13 ^^^ 1 then D i j else 0) (P 0 0) (P 0 0)
  rw [lo_sum_eq _ (fun i _ => lo_sum_eq _ (fun j _ => h3 i j)), lo_sum_eq _ (fun i _ => lo_sum_add _ _ _), lo_sum_add, h4, ← lo_sum_add]
  refine lo_sum_eq _ fun i _ => ?_
  rw [← lo_sum_add]
  refine lo_sum_eq _ fun j _ => ?_
  show _ = (if i < j ∧ P (10 + i) 13 = P (10 + j) 13 ^^^ 1 then D i j + D j i else 0)
  split <;> rfl
def pa_all (H P : ho_T) (G : ho_G) : Nat := lo_sum (fun i => lo_sum (fun j => pa_t H P G i j) (H 0 0)) (H 0 0)
theorem pw_swap (H : ho_T) (G : ho_G) (a b i j : Nat) : pw_ (st_swap H a b) G i j = pw_ H G i j := by
  unfold pw_
  rw [st_swap_lo H a b (by decide), st_swap_lo H a b (by decide), ho_row_at13, ho_row_at13, md_day_pl, md_day_pl]
theorem pa_swap {H : ho_T} (G : ho_G) (hv : ho_iv H) {a b : Nat} (ha : a < H 0 0) (hb : b < H 0 0) : pa_all H (st_swap H a b) G = ho_all (st_swap H a b) G := by
  rw [ho_all_pairs G (ho_iv_swap hv ha hb)]
  unfold pa_all
  rw [st_swap_lo H a b (by decide)]
  refine lo_sum_eq _ fun i _ => lo_sum_eq _ fun j _ => ?_
  unfold pa_t
  rw [pw_swap]
def sw_b (H : ho_T) (G : ho_G) (a : Nat) : Nat → Int32 × Nat → Int32 × Nat
  | 0, p => p
  | b + 1, p => if a < b then be_s (sw_b H G a b p) (10 * a + b) (ho_all (st_swap H a b) G) else p
theorem sw_b_le (H : ho_T) (G : ho_G) (a : Nat) (p : Int32 × Nat) : ∀ b, (sw_b H G a b p).2 ≤ p.2
  | 0 => Nat.le_refl _
  | b + 1 => by
    show (if a < b then be_s (sw_b H G a b p) (10 * a + b) (ho_all (st_swap H a b) G) else p).2 ≤ p.2
    split
    · exact Nat.le_trans (be_s_le _ _ _) (sw_b_le H G a p b)
    · exact Nat.le_refl _
theorem sw_b_0 (H : ho_T) (G : ho_G) {a b : Nat} (p : Int32 × Nat) (h : b ≤ a + 1) : sw_b H G a b p = p := by
  match b, h with
  | 0, _ => rfl
  | b + 1, h => exact if_neg (by omega)
def sw_a (H : ho_T) (G : ho_G) (n : Nat) : Nat → Int32 × Nat
  | 0 => (-1, ho_all H G)
  | a + 1 => sw_b H G a n (sw_a H G n a)
theorem sw_a_le (H : ho_T) (G : ho_G) (n : Nat) : ∀ a, (sw_a H G n a).2 ≤ ho_all H G
  | 0 => Nat.le_refl _
  | a + 1 => Nat.le_trans (sw_b_le _ _ _ _ _) (sw_a_le H G n a)
def an_swap (H : ho_T) (G : ho_G) (w : Int32) : Int32 := if ho_rng (nI 0) w (nI 1) = true then (if w = nI 0 then (sw_a H G (H 0 0) (H 0 0)).1 else nI (sw_a H G (H 0 0) (H 0 0)).2) else -2
