/-! ===== PURE, the reference: places told anew, numbers of ways ===== -/
def pl_ (H : ho_T) (f : Nat → Nat) : ho_T := fun i j => if 10 ≤ i ∧ i < 10 + H 0 0 ∧ j = 13 then f (i - 10) else H i j
theorem pl_lo (H : ho_T) (f : Nat → Nat) {i : Nat} (h : i < 10) (j : Nat) : pl_ H f i j = H i j := if_neg (by omega)
theorem pl_at (H : ho_T) (f : Nat → Nat) {m : Nat} (h : m < H 0 0) : pl_ H f (10 + m) 13 = f m := by
  unfold pl_
  rw [if_pos ⟨by omega, by omega, rfl⟩, show 10 + m - 10 = m by omega]
theorem pl_j (H : ho_T) (f : Nat → Nat) (i : Nat) {j : Nat} (h : j ≠ 13) : pl_ H f i j = H i j := if_neg (by omega)
theorem pl_own (H : ho_T) : pl_ H (fun m => H (10 + m) 13) = H := by
  funext i j
  unfold pl_
  split
  · rename_i h
    show H (10 + (i - 10)) 13 = H i j
    rw [h.2.2, show 10 + (i - 10) = i by omega]
  · rfl
theorem pl_eq {H : ho_T} {f g : Nat → Nat} (h : ∀ m, m < H 0 0 → f m = g m) : pl_ H f = pl_ H g := by
  funext i j
  unfold pl_
  split
  · exact h _ (by omega)
  · rfl
theorem pl_set (H : ho_T) (f : Nat → Nat) {m : Nat} (hm : m < H 0 0) (v : Nat) : ho_set (pl_ H f) (10 + m) 13 v = pl_ H (fun q => if q = m then v else f q) := by
  funext i j
  show (if i = 10 + m ∧ j = 13 then v else (if 10 ≤ i ∧ i < 10 + H 0 0 ∧ j = 13 then f (i - 10) else H i j)) = (if 10 ≤ i ∧ i < 10 + H 0 0 ∧ j = 13 then (if i - 10 = m then v else f (i - 10)) else H i j)
  by_cases c : i = 10 + m ∧ j = 13
  · rw [if_pos c, if_pos (by omega), if_pos (by omega)]
  · rw [if_neg c]
    by_cases c2 : 10 ≤ i ∧ i < 10 + H 0 0 ∧ j = 13
    · rw [if_pos c2, if_pos c2, if_neg (by omega)]
    · rw [if_neg c2, if_neg c2]
def tg_ (a b q : Nat) : Nat := if q = a then 0 else if q = b then 1 else 100 + 2 * q
theorem tg_lt {a b q : Nat} (h : q < 6) : tg_ a b q < 1000 := by
  unfold tg_
  split
  · omega
  · split <;> omega
theorem pl_row (H : ho_T) (f : Nat → Nat) {m : Nat} (hm : m < H 0 0) : ho_row (pl_ H f) m = ho_at (ho_row H m) 13 (f m) := by
  funext j
  unfold ho_row ho_at
  rw [pl_lo H f (by decide), pl_lo H f (by decide)]
  by_cases h13 : j = 13
  · subst h13
    rw [if_neg (by decide), if_neg (by decide), pl_at H f hm, if_pos rfl]
  · rw [pl_j H f _ h13, if_neg h13]
theorem tg_mate {H : ho_T} {a b : Nat} (ha : a < H 0 0) (hb : b < H 0 0) (hab : a ≠ b) : ho_mate (pl_ H (tg_ a b)) a = some b ∧ ho_mate (pl_ H (tg_ a b)) b = some a := by
  have h00 : pl_ H (tg_ a b) 0 0 = H 0 0 := pl_lo H _ (by decide) _
  have ta : pl_ H (tg_ a b) (10 + a) 13 = 0 := by rw [pl_at H _ ha]; exact if_pos rfl
  have tb : pl_ H (tg_ a b) (10 + b) 13 = 1 := by rw [pl_at H _ hb]; unfold tg_; rw [if_neg (Ne.symm hab), if_pos rfl]
  have tq : ∀ q, q < H 0 0 → q ≠ a → q ≠ b → pl_ H (tg_ a b) (10 + q) 13 = 100 + 2 * q := fun q hq q1 q2 => by rw [pl_at H _ hq]; unfold tg_; rw [if_neg q1, if_neg q2]
  constructor
  · cases e : ho_mate (pl_ H (tg_ a b)) a with
    | none =>
      have := lo_find_none e b (Nat.zero_le _) (by rw [h00]; omega)
      exact absurd (show pl_ H (tg_ a b) (10 + b) 13 = pl_ H (tg_ a b) (10 + a) 13 ^^^ 1 by rw [ta, tb]; rfl) (of_decide_eq_false this)
    | some q =>
      have h1 := ho_mate_pl1 e
      have h2 := ho_mate_lt e
      rw [h00] at h2
      rw [ta] at h1
      by_cases c1 : q = a
      · rw [c1, ta] at h1; exact absurd h1 (by decide)
      · by_cases c2 : q = b
        · rw [c2]
        · rw [tq q h2 c1 c2] at h1
          have : (0 : Nat) ^^^ 1 = 1 := by decide
          omega
  · cases e : ho_mate (pl_ H (tg_ a b)) b with
    | none =>
      have := lo_find_none e a (Nat.zero_le _) (by rw [h00]; omega)
      exact absurd (show pl_ H (tg_ a b) (10 + a) 13 = pl_ H (tg_ a b) (10 + b) 13 ^^^ 1 by rw [ta, tb]; rfl) (of_decide_eq_false this)
    | some q =>
      have h1 := ho_mate_pl1 e
      have h2 := ho_mate_lt e
      rw [h00] at h2
      rw [tb] at h1
      by_cases c1 : q = a
      · rw [c1]
      · by_cases c2 : q = b
        · rw [c2, tb] at h1; exact absurd h1 (by decide)
        · rw [tq q h2 c1 c2] at h1
          have : (1 : Nat) ^^^ 1 = 0 := by decide
          omega
theorem tg_day {H : ho_T} (G : ho_G) {a b : Nat} (ha : a < H 0 0) (hb : b < H 0 0) (hab : a ≠ b) : ho_day (pl_ H (tg_ a b)) G a + ho_day (pl_ H (tg_ a b)) G b = pw_ H G a b := by
  obtain ⟨m1, m2⟩ := tg_mate ha hb hab
  rw [ho_day_md, ho_day_md]
  unfold md_dayO ho_mcell ho_mrow pw_
  rw [m1, m2, pl_lo H _ (by decide), pl_lo H _ (by decide)]
  show md_day _ _ _ (ho_row _ a) (ho_row _ b) + md_day _ _ _ (ho_row _ b) (ho_row _ a) = _
  rw [pl_row H _ ha, pl_row H _ hb, md_day_pl, md_day_pl]
/-- weighed pairs of the reference -/
def pq_ (H : ho_T) (G : ho_G) (mi : im_MI) : Prop := ∀ x y, x < H 0 0 → y < H 0 0 → x ≠ y → mi 128 (6 * x + y) = nI (pw_ H G x y)
/-- the number of a way: digits from the lowest on -/
def tl_d (n a c : Nat) : Nat := a / n ^ c % n
def tl_s (n a : Nat) : Nat → Nat
  | 0 => 0
  | c + 1 => tl_s n a c ||| 2 ^ tl_d n a c
def tl_g (n a : Nat) : Nat → Nat
  | 0 => 0
  | c + 1 => tl_g n a c + 10 ^ c * (tl_d n a c + 1)
def tl_p (pw : Nat → Nat → Nat) (x y : Nat) : Nat := if x = y then 0 else pw x y
def tl_m (pw : Nat → Nat → Nat) (n a : Nat) : Nat → Nat
  | 0 => 0
  | t + 1 => tl_m pw n a t + tl_p pw (tl_d n a (n - 1 - 2 * t)) (tl_d n a (n - 2 - 2 * t))
theorem tl_d_lt {n : Nat} (a c : Nat) (h : 0 < n) : tl_d n a c < n := Nat.mod_lt _ h
theorem tl_g_lt {n : Nat} (a : Nat) (hn : 0 < n) (hn6 : n ≤ 6) : ∀ c, tl_g n a c < 10 ^ c
  | 0 => Nat.one_pos
  | c + 1 => by
    have h1 := tl_g_lt a hn hn6 c
    have h2 := tl_d_lt a c hn
    show tl_g n a c + 10 ^ c * (tl_d n a c + 1) < 10 ^ (c + 1)
    have h3 : 10 ^ c * (tl_d n a c + 1) ≤ 10 ^ c * 9 := Nat.mul_le_mul_left _ (by omega)
    rw [Nat.pow_succ]
    omega
theorem tl_m_le {pw : Nat → Nat → Nat} (hp : ∀ x y, pw x y ≤ 2376) (n a : Nat) : ∀ t, tl_m pw n a t ≤ 2376 * t
  | 0 => Nat.le_refl _
  | t + 1 => by
    have h1 := tl_m_le hp n a t
    have h2 := hp (tl_d n a (n - 1 - 2 * t)) (tl_d n a (n - 2 - 2 * t))
    show tl_m pw n a t + tl_p pw _ _ ≤ _
    unfold tl_p
    split <;> omega
def tl_ok (n a : Nat) : Bool := decide (tl_s n a n = 2 ^ n - 1)
/-- best so far: digits (0: none yet), the sum -/
def bs_f (pw : Nat → Nat → Nat) (n a : Nat) (p : Nat × Nat) : Nat × Nat := if tl_ok n a = true then (if p.1 = 0 ∨ tl_m pw n a (n / 2) < p.2 then (tl_g n a n, tl_m pw n a (n / 2)) else p) else p
theorem tl_div (n a c : Nat) : a / n ^ c / n = a / n ^ (c + 1) := by rw [Nat.div_div_eq_div_mul, Nat.pow_succ]
theorem tl_s_lt {n : Nat} (a : Nat) (hn : 0 < n) (hn6 : n ≤ 6) : ∀ c, tl_s n a c < 64
  | 0 => (by decide : (0 : Nat) < 64)
  | c + 1 => ly_lt (tl_s_lt a hn hn6 c) (Nat.lt_of_lt_of_le (tl_d_lt a c hn) hn6)
