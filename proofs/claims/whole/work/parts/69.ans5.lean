/-! ===== PURE: which hours to watch; coughs by lots ===== -/
theorem ho_days_w (H : ho_T) (G : ho_G) (w m h : Nat) (hh : h < 12) : ho_days (ho_set H 0 1 w) G m h = md_daysO G (H 0 3) w (ho_row H m) (ho_mcell H m) (ho_mrow H m) h := by
  have e0 : ho_set H 0 1 w 0 0 = H 0 0 := ho_set_j _ _ _ _ (by decide) _
  have e13 : ∀ q, ho_set H 0 1 w (10 + q) 13 = H (10 + q) 13 := fun q => ho_set_i _ _ _ _ (by omega) _
  have er : ∀ q, ho_row (ho_set H 0 1 w) q = ho_row H q := fun q => by
    funext j
    unfold ho_row
    rw [ho_set_i _ _ _ _ (by decide), ho_set_i _ _ _ _ (by decide), ho_set_i _ _ _ _ (by omega)]
  rw [ho_days_md _ G m h hh, ho_set_s, ho_set_j _ _ _ _ (by decide), er, ho_mcell_eq e0 e13]
  unfold ho_mrow
  rw [ho_mate_eq e0 e13, er]
def gd_c (H : ho_T) (G : ho_G) (h : Nat) : Nat := ho_col (ho_set H 0 1 4095) G h
theorem gd_c_s (H : ho_T) (G : ho_G) {h : Nat} (hh : h < 12) : gd_c H G h = lo_sum (fun m => md_daysO G (H 0 3) 4095 (ho_row H m) (ho_mcell H m) (ho_mrow H m) h) (H 0 0) := by
  unfold gd_c ho_col
  rw [ho_set_j _ _ _ _ (by decide)]
  exact lo_sum_eq _ fun m _ => ho_days_w H G 4095 m h hh
def gd_v (H : ho_T) (G : ho_G) (s : Nat) : Nat := lo_sum (fun h => if s / 2 ^ h % 2 = 1 then gd_c H G h else 0) 12
theorem gd_c_le {H : ho_T} (G : ho_G) (h : Nat) (hn : H 0 0 ≤ 6) : gd_c H G h ≤ 594 := by
  unfold gd_c ho_col
  rw [ho_set_j _ _ _ _ (by decide)]
  have := lo_sum_le (f := fun m => ho_days (ho_set H 0 1 4095) G m h) (b := 99) (H 0 0) (fun i _ => ho_days_le _ _ _ _)
  omega
theorem gd_v_le {H : ho_T} (G : ho_G) (s : Nat) (hn : H 0 0 ≤ 6) : gd_v H G s ≤ 7128 := lo_sum_le (b := 594) 12 fun h _ => by
  have := gd_c_le G h hn
  show (if s / 2 ^ h % 2 = 1 then gd_c H G h else 0) ≤ 594
  split <;> omega
def gd_f (H : ho_T) (G : ho_G) (n s : Nat) (p : Option (Nat × Nat)) : Option (Nat × Nat) := if on_ s = n then (match p with
  | none => some (s, gd_v H G s)
  | some q => if q.2 < gd_v H G s then some (s, gd_v H G s) else some q) else p
def gd_b (p : Option (Nat × Nat)) : Nat × Nat := p.getD (0, 0)
theorem gd_f_some (H : ho_T) (G : ho_G) (n s : Nat) (q : Nat × Nat) : ∃ q2, gd_f H G n s (some q) = some q2 := by
  unfold gd_f
  split
  · dsimp only
    split
    · exact ⟨_, rfl⟩
    · exact ⟨_, rfl⟩
  · exact ⟨_, rfl⟩
theorem gd_some (H : ho_T) (G : ho_G) {n s : Nat} (hs : on_ s = n) : ∀ N, s < N → ∃ q, lo_fold (gd_f H G n) N none = some q
  | 0, h => by omega
  | N + 1, h => by
    rw [lo_fold]
    rcases Nat.eq_or_lt_of_le (Nat.le_of_lt_succ h) with q | q
    · subst q
      cases lo_fold (gd_f H G n) s none with
      | none => exact ⟨_, by unfold gd_f; rw [if_pos hs]⟩
      | some q => exact gd_f_some H G n s q
    · obtain ⟨q2, e⟩ := gd_some H G hs N q
      rw [e]
      exact gd_f_some H G n N q2
theorem gd_some' (H : ho_T) (G : ho_G) {n : Nat} (hn : n ≤ 3) : ∃ q, lo_fold (gd_f H G n) 4096 none = some q := by
  rcases (show n = 0 ∨ n = 1 ∨ n = 2 ∨ n = 3 by omega) with rfl | rfl | rfl | rfl
  · exact gd_some H G (s := 0) (by decide) 4096 (by decide)
  · exact gd_some H G (s := 1) (by decide) 4096 (by decide)
  · exact gd_some H G (s := 3) (by decide) 4096 (by decide)
  · exact gd_some H G (s := 7) (by decide) 4096 (by decide)
def gd_all (H : ho_T) (G : ho_G) (n : Nat) : Nat × Nat := gd_b (lo_fold (gd_f H G n) 4096 none)
def an_guard (H : ho_T) (G : ho_G) (n w : Int32) : Int32 := if ho_rng (nI 0) n (nI 3) = true then (if ho_rng (nI 0) w (nI 1) = true then (if w = nI 0 then nI (gd_all H G (jn n)).1 else nI (gd_all H G (jn n)).2) else -2) else -2
/-! lots -/
def lt_ (s : Nat) : Nat → Nat
  | 0 => s + 1
  | i + 1 => lt_ s i * 48271 % 2147483647
theorem lt_le {s : Nat} (hs : s ≤ 200000) : ∀ i, lt_ s i < 2147483647
  | 0 => by show s + 1 < 2147483647; omega
  | i + 1 => Nat.mod_lt _ (by decide)
/-- the house behind so many lots -/
def ct_ (H : ho_T) (s o k : Nat) : ho_T := fun a b => if 10 ≤ a ∧ a < 10 + H 0 0 ∧ b < 12 ∧ b * H 0 0 + (a - 10) < k ∧ lt_ s (b * H 0 0 + (a - 10) + 1) % 10 < o then 4 else H a b
def cg_ (H : ho_T) (s o : Nat) : ho_T := ct_ H s o (12 * H 0 0)
theorem ct_lo (H : ho_T) (s o k : Nat) {i : Nat} (h : i < 10) (j : Nat) : ct_ H s o k i j = H i j := if_neg (by omega)
theorem ct_hi (H : ho_T) (s o k : Nat) (i : Nat) {j : Nat} (h : 12 ≤ j) : ct_ H s o k i j = H i j := if_neg (by omega)
theorem ct_0 (H : ho_T) (s o : Nat) : ct_ H s o 0 = H := by
  funext a b
  exact if_neg (by omega)
theorem ct_row (H : ho_T) (s o k m j : Nat) : ho_row (ct_ H s o k) m j = if j = 14 then H 1 m else if j = 15 then H 2 m else ct_ H s o k (10 + m) j := by
  unfold ho_row
  rw [ct_lo H s o k (by decide), ct_lo H s o k (by decide)]
theorem ct_idx {n h i q j : Nat} (hi : i < n) (hq : q < n) (hne : ¬ (q = i ∧ j = h)) : (j * n + q < h * n + i + 1) ↔ (j * n + q < h * n + i) := by
  constructor
  · intro h1
    rcases Nat.lt_or_eq_of_le (Nat.le_of_lt_succ h1) with h2 | h2
    · exact h2
    · exfalso
      rcases Nat.lt_trichotomy j h with c | c | c
      · have : (j + 1) * n ≤ h * n := Nat.mul_le_mul_right n c
        rw [Nat.add_mul, Nat.one_mul] at this
        omega
      · subst c; exact hne ⟨by omega, rfl⟩
      · have : (h + 1) * n ≤ j * n := Nat.mul_le_mul_right n c
        rw [Nat.add_mul, Nat.one_mul] at this
        omega
  · intro h1; omega
theorem ct_step (H : ho_T) (s o : Nat) {h i : Nat} (hh : h < 12) (hi : i < H 0 0) (q : Nat) (hq : q < H 0 0) : ho_row (ct_ H s o (h * H 0 0 + i + 1)) q = if q = i ∧ lt_ s (h * H 0 0 + i + 1) % 10 < o then ho_at (ho_row (ct_ H s o (h * H 0 0 + i)) q) h 4 else ho_row (ct_ H s o (h * H 0 0 + i)) q := by
  funext j
  rw [show (if q = i ∧ lt_ s (h * H 0 0 + i + 1) % 10 < o then ho_at (ho_row (ct_ H s o (h * H 0 0 + i)) q) h 4 else ho_row (ct_ H s o (h * H 0 0 + i)) q) j = if (q = i ∧ lt_ s (h * H 0 0 + i + 1) % 10 < o) ∧ j = h then 4 else ho_row (ct_ H s o (h * H 0 0 + i)) q j by
    by_cases c : q = i ∧ lt_ s (h * H 0 0 + i + 1) % 10 < o
    · rw [if_pos c]; unfold ho_at; by_cases c2 : j = h
      · rw [if_pos c2, if_pos ⟨c, c2⟩]
      · rw [if_neg c2, if_neg (fun z => c2 z.2)]
    · rw [if_neg c, if_neg (fun z => c z.1)]]
  rw [ct_row, ct_row]
  by_cases h14 : j = 14
  · rw [if_pos h14, if_pos h14, if_neg (by omega)]
  · rw [if_neg h14, if_neg h14]
    by_cases h15 : j = 15
    · rw [if_pos h15, if_pos h15, if_neg (by omega)]
    · rw [if_neg h15, if_neg h15]
      by_cases hj : q = i ∧ j = h
      · obtain ⟨rfl, rfl⟩ := hj
        unfold ct_
        rw [show 10 + q - 10 = q by omega]
        by_cases c : lt_ s (j * H 0 0 + q + 1) % 10 < o
        · rw [if_pos ⟨by omega, by omega, hh, by omega, c⟩, if_pos ⟨⟨rfl, c⟩, rfl⟩]
        · rw [if_neg (fun z => c z.2.2.2.2), if_neg (fun z => c z.1.2), if_neg (fun z => c z.2.2.2.2)]
      · rw [if_neg (fun z => hj ⟨z.1.1, z.2⟩)]
        unfold ct_
        rw [show 10 + q - 10 = q by omega]
        have := ct_idx (n := H 0 0) (h := h) hi hq hj
        by_cases c : j * H 0 0 + q < h * H 0 0 + i
        · have c2 := this.mpr c
          by_cases c3 : 10 ≤ 10 + q ∧ 10 + q < 10 + H 0 0 ∧ j < 12 ∧ lt_ s (j * H 0 0 + q + 1) % 10 < o
          · rw [if_pos ⟨c3.1, c3.2.1, c3.2.2.1, c2, c3.2.2.2⟩, if_pos ⟨c3.1, c3.2.1, c3.2.2.1, c, c3.2.2.2⟩]
          · rw [if_neg (fun z => c3 ⟨z.1, z.2.1, z.2.2.1, z.2.2.2.2⟩), if_neg (fun z => c3 ⟨z.1, z.2.1, z.2.2.1, z.2.2.2.2⟩)]
        · rw [if_neg (fun z => c (this.mp z.2.2.2.1)), if_neg (fun z => c z.2.2.2.1)]
/-- the doings of an hour are told once its lots are drawn -/
theorem ct_done (H : ho_T) (s o : Nat) {h q k : Nat} (hh : h < 12) (hq : q < H 0 0) (hk : (h + 1) * H 0 0 ≤ k) : ct_ H s o k (10 + q) h = cg_ H s o (10 + q) h := by
  unfold cg_ ct_
  rw [show 10 + q - 10 = q by omega]
  have h1 : (h + 1) * H 0 0 = h * H 0 0 + H 0 0 := by rw [Nat.add_mul, Nat.one_mul]
  have h2 : h * H 0 0 ≤ 11 * H 0 0 := Nat.mul_le_mul_right _ (by omega)
  by_cases c : lt_ s (h * H 0 0 + q + 1) % 10 < o
  · rw [if_pos ⟨by omega, by omega, hh, by omega, c⟩, if_pos ⟨by omega, by omega, hh, by omega, c⟩]
  · rw [if_neg (fun z => c z.2.2.2.2), if_neg (fun z => c z.2.2.2.2)]
theorem md_days_h {G : ho_G} {t w h : Nat} {a a2 b b2 : Nat → Nat} (h1 : a h = a2 h) (h2 : a 12 = a2 12) (h3 : a 14 = a2 14) (h4 : a 15 = a2 15) (h5 : b h = b2 h) (h6 : b 14 = b2 14) : md_days G t w a b h = md_days G t w a2 b2 h := by
  unfold md_days md_comp md_say
  rw [h1, h2, h3, h4, h5, h6]
theorem cg_mate (H : ho_T) (s o m : Nat) : ho_mate (cg_ H s o) m = ho_mate H m := ho_mate_eq (ct_lo H s o _ (by decide) _) (fun q => ct_hi H s o _ _ (by decide)) m
theorem cg_days (H : ho_T) (G : ho_G) (s o : Nat) {h m k : Nat} (hh : h < 12) (hm : m < H 0 0) (hk : (h + 1) * H 0 0 ≤ k) : ho_days (cg_ H s o) G m h = match ho_mate H m with
    | none => 0
    | some q => md_days G (H 0 3) (H 0 1) (ho_row (ct_ H s o k) m) (ho_row (ct_ H s o k) q) h := by
  have e : ∀ q, q < H 0 0 → ∀ j, (j = h ∨ j = 12 ∨ j = 14 ∨ j = 15) → ho_row (cg_ H s o) q j = ho_row (ct_ H s o k) q j := fun q hq j hj => by
    show ho_row (ct_ H s o (12 * H 0 0)) q j = _
    rw [ct_row, ct_row]
    split
    · rfl
    · split
      · rfl
      · rcases hj with rfl | rfl | rfl | rfl
        · exact (ct_done H s o hh hq hk).symm
        · rw [ct_hi H s o _ _ (by decide), ct_hi H s o _ _ (by decide)]
        · contradiction
        · contradiction
  rw [ho_days_md _ G m h hh]
  unfold md_daysO ho_mcell ho_mrow
  rw [cg_mate]
  cases em : ho_mate H m with
  | none => rfl
  | some q =>
    have hq := ho_mate_lt em
    show md_days G (ct_ H s o _ 0 3) (ct_ H s o _ 0 1) (ho_row (cg_ H s o) m) (ho_row (cg_ H s o) q) h = _
    rw [ct_lo H s o _ (by decide), ct_lo H s o _ (by decide)]
    exact md_days_h (e m hm h (Or.inl rfl)) (e m hm 12 (by simp)) (e m hm 14 (by simp)) (e m hm 15 (by simp)) (e q hq h (Or.inl rfl)) (e q hq 14 (by simp))
def an_drawn (H : ho_T) (G : ho_G) (s o : Int32) : Int32 := if ho_rng (nI 0) s (nI 99999) = true then (if ho_rng (nI 0) o (nI 10) = true then nI (ho_all (cg_ H (jn s) (jn o)) G) else -2) else -2
def od_n (H : ho_T) (G : ho_G) (s o d : Nat) : Nat → Nat := lo_sum fun i => if ho_all (cg_ H (s + i) o) G ≤ d then 1 else 0
def an_odds (H : ho_T) (G : ho_G) (s n o d p : Int32) : Int64 := if ho_rng (nI 0) s (nI 99999) = true then (if ho_rng (nI 1) n (nI 40) = true then (if ho_rng (nI 0) o (nI 10) = true then (if ho_rng (nI 0) d (nI 9999) = true then (if ho_rng (nI 0) p (nI 1) = true then lN (lw_ (od_n H G (jn s) (jn o) (jn d) (jn n)) (jn n) (jn p)) else ho_NO) else ho_NO) else ho_NO) else ho_NO) else ho_NO
