/-! ===== PURE: the way found number by number is the way found place by place ===== -/
/-- bits that are there -/
def pc_ (s : Nat) : Nat := lo_sum (fun h => s / 2 ^ h % 2) 6
theorem bt_ (s h : Nat) : s / 2 ^ h % 2 = if s.testBit h = true then 1 else 0 := by
  rw [Nat.testBit_eq_decide_div_mod_eq]
  have := Nat.mod_lt (s / 2 ^ h) (show 0 < 2 by decide)
  by_cases c : s / 2 ^ h % 2 = 1
  · rw [if_pos (decide_eq_true c), c]
  · rw [if_neg (fun q => c (of_decide_eq_true q))]; omega
theorem bt_or (s m h : Nat) (hne : h ≠ m) : (s ||| 2 ^ m) / 2 ^ h % 2 = s / 2 ^ h % 2 := by
  rw [bt_, bt_, Nat.testBit_or, Nat.testBit_two_pow_of_ne (Ne.symm hne), Bool.or_false]
theorem pc_or {s m : Nat} (hm : m < 6) : pc_ (s ||| 2 ^ m) = pc_ s + (if s / 2 ^ m % 2 = 1 then 0 else 1) := by
  have h := lo_sum_1 (f := fun h => (s ||| 2 ^ m) / 2 ^ h % 2) (g := fun h => s / 2 ^ h % 2) 6 hm (fun i _ hne => bt_or s m i hne)
  rw [ly_bit] at h
  have := Nat.mod_lt (s / 2 ^ m) (show 0 < 2 by decide)
  unfold pc_
  split <;> omega
theorem pc_full : ∀ n, n < 7 → pc_ (2 ^ n - 1) = n := by decide
theorem pc_eq : ∀ n, n < 7 → ∀ s, s < 2 ^ n → pc_ s = n → s = 2 ^ n - 1 := by decide
/-- what the first places' digits tell, from the highest on -/
def T_ly (n : Nat) : Nat → Nat → Nat
  | 0, _ => 0
  | p + 1, A => T_ly n p (A / n) ||| 2 ^ (A % n)
def T_dg (n : Nat) : Nat → Nat → Nat
  | 0, _ => 0
  | p + 1, A => 10 * T_dg n p (A / n) + A % n + 1
def T_sm (pw : Nat → Nat → Nat) (n : Nat) : Nat → Nat → Nat
  | 0, _ => 0
  | p + 1, A => T_sm pw n p (A / n) + (if p % 2 = 1 then pw (A / n % n) (A % n) else 0)
theorem tl_d_s (n a c : Nat) : tl_d n a (c + 1) = tl_d n (a / n) c := by unfold tl_d; rw [Nat.pow_succ, Nat.mul_comm, ← Nat.div_div_eq_div_mul]
theorem tl_d_0 (n a : Nat) : tl_d n a 0 = a % n := by unfold tl_d; rw [Nat.pow_zero, Nat.div_one]
theorem tl_s_s (n a : Nat) : ∀ c, tl_s n a (c + 1) = tl_s n (a / n) c ||| 2 ^ (a % n)
  | 0 => by show 0 ||| 2 ^ tl_d n a 0 = 0 ||| 2 ^ (a % n); rw [tl_d_0]
  | c + 1 => by
    show tl_s n a (c + 1) ||| 2 ^ tl_d n a (c + 1) = (tl_s n (a / n) c ||| 2 ^ tl_d n (a / n) c) ||| 2 ^ (a % n)
    rw [tl_s_s n a c, tl_d_s, Nat.or_assoc, Nat.or_assoc, Nat.or_comm (2 ^ (a % n))]
theorem tl_s_T (n : Nat) : ∀ p a, tl_s n a p = T_ly n p a
  | 0, _ => rfl
  | p + 1, a => by rw [tl_s_s, tl_s_T n p (a / n)]; rfl
theorem tl_g_s (n a : Nat) : ∀ c, tl_g n a (c + 1) = 10 * tl_g n (a / n) c + a % n + 1
  | 0 => by show 0 + 10 ^ 0 * (tl_d n a 0 + 1) = 10 * 0 + a % n + 1; rw [tl_d_0]; omega
  | c + 1 => by
    show tl_g n a (c + 1) + 10 ^ (c + 1) * (tl_d n a (c + 1) + 1) = 10 * (tl_g n (a / n) c + 10 ^ c * (tl_d n (a / n) c + 1)) + a % n + 1
    rw [tl_g_s n a c, tl_d_s, show 10 ^ (c + 1) * (tl_d n (a / n) c + 1) = 10 * (10 ^ c * (tl_d n (a / n) c + 1)) by rw [Nat.pow_succ, Nat.mul_comm (10 ^ c) 10, Nat.mul_assoc], Nat.mul_add 10 (tl_g n (a / n) c)]
    omega
theorem tl_g_T (n : Nat) : ∀ p a, tl_g n a p = T_dg n p a
  | 0, _ => rfl
  | p + 1, a => by rw [tl_g_s, tl_g_T n p (a / n)]; rfl
theorem T_ly_lt {n : Nat} (h0 : 0 < n) (hn : n ≤ 6) : ∀ p A, T_ly n p A < 2 ^ n
  | 0, _ => Nat.two_pow_pos n
  | p + 1, A => Nat.or_lt_two_pow (T_ly_lt h0 hn p _) (Nat.pow_lt_pow_right (by decide) (Nat.mod_lt _ h0))
theorem T_pc_le {n : Nat} (h0 : 0 < n) (hn : n ≤ 6) : ∀ p A, pc_ (T_ly n p A) ≤ p
  | 0, _ => by show pc_ 0 ≤ 0; decide
  | p + 1, A => by
    have h1 := T_pc_le h0 hn p (A / n)
    have h2 := Nat.mod_lt A h0
    show pc_ (T_ly n p (A / n) ||| 2 ^ (A % n)) ≤ p + 1
    rw [pc_or (by omega)]
    split <;> omega
/-- no digit twice -/
theorem nd_s {n : Nat} (h0 : 0 < n) (hn : n ≤ 6) {p A : Nat} (h : pc_ (T_ly n (p + 1) A) = p + 1) : pc_ (T_ly n p (A / n)) = p ∧ ¬ T_ly n p (A / n) / 2 ^ (A % n) % 2 = 1 := by
  have h1 := T_pc_le h0 hn p (A / n)
  have h2 := Nat.mod_lt A h0
  have h3 : pc_ (T_ly n p (A / n) ||| 2 ^ (A % n)) = p + 1 := h
  rw [pc_or (by omega)] at h3
  split at h3
  · omega
  · exact ⟨by omega, ‹_›⟩
theorem nd_ne {n : Nat} (h0 : 0 < n) (hn : n ≤ 6) {p A : Nat} (h : pc_ (T_ly n (p + 2) A) = p + 2) : A / n % n ≠ A % n := fun e => by
  obtain ⟨_, h2⟩ := nd_s h0 hn h
  apply h2
  rw [← e]
  exact ly_bit _ _
def T_s2 (pw : Nat → Nat → Nat) (n : Nat) : Nat → Nat → Nat
  | 0, _ => 0
  | p + 1, A => T_s2 pw n p (A / n) + (if p % 2 = 1 then tl_p pw (A / n % n) (A % n) else 0)
theorem T_s2_eq {n : Nat} (h0 : 0 < n) (hn : n ≤ 6) (pw : Nat → Nat → Nat) : ∀ p A, pc_ (T_ly n p A) = p → T_s2 pw n p A = T_sm pw n p A
  | 0, _, _ => rfl
  | p + 1, A, h => by
    show T_s2 pw n p (A / n) + _ = T_sm pw n p (A / n) + _
    rw [T_s2_eq h0 hn pw p (A / n) (nd_s h0 hn h).1]
    by_cases c : p % 2 = 1
    · rw [if_pos c, if_pos c]
      obtain ⟨q, rfl⟩ : ∃ q, p = q + 1 := ⟨p - 1, by omega⟩
      have := nd_ne h0 hn h
      unfold tl_p
      rw [if_neg this]
    · rw [if_neg c, if_neg c]
theorem tl_m_T (pw : Nat → Nat → Nat) : ∀ n, n < 7 → ∀ a, tl_m pw n a (n / 2) = T_s2 pw n n a := by
  intro n hn a
  rcases (show n = 0 ∨ n = 1 ∨ n = 2 ∨ n = 3 ∨ n = 4 ∨ n = 5 ∨ n = 6 by omega) with rfl | rfl | rfl | rfl | rfl | rfl | rfl <;> simp [tl_m, T_s2, tl_d, Nat.div_div_eq_div_mul]
/-! folds over a stretch of numbers -/
def lo_fr {α : Type} (f : Nat → α → α) (s n : Nat) (p : α) : α := lo_fold (fun i => f (s + i)) n p
theorem lo_fr_add {α : Type} (f : Nat → α → α) (s x : Nat) (p : α) : ∀ y, lo_fr f s (x + y) p = lo_fr f (s + x) y (lo_fr f s x p)
  | 0 => rfl
  | y + 1 => by
    show f (s + (x + y)) (lo_fr f s (x + y) p) = f (s + x + y) (lo_fr f (s + x) y (lo_fr f s x p))
    rw [lo_fr_add f s x p y, Nat.add_assoc]
theorem lo_fr_mul {α : Type} (f : Nat → α → α) (s b : Nat) (p : α) : ∀ n, lo_fr f s (n * b) p = lo_fold (fun m q => lo_fr f (s + m * b) b q) n p
  | 0 => by rw [Nat.zero_mul]; rfl
  | n + 1 => by rw [Nat.add_mul, Nat.one_mul, lo_fr_add, lo_fr_mul f s b p n]; rfl
theorem lo_fr_id {α : Type} {f : Nat → α → α} {s n : Nat} {p : α} (h : ∀ i, i < n → f (s + i) p = p) : lo_fr f s n p = p := lo_fold_id n h
/-- (least, digits) beside (digits, the sum) -/
def St_ (p q : Nat × Nat) : Prop := (q.1 = 0 ∧ p = (10000, 0)) ∨ (q.1 ≠ 0 ∧ p = (q.2, q.1))
theorem T_sm_le {pw : Nat → Nat → Nat} (hp : ∀ x y, pw x y ≤ 2376) (n : Nat) : ∀ p A, T_sm pw n p A ≤ 1188 * p + 1188 * (p % 2 * 0) + (if p % 2 = 1 then 0 else 0)
  | 0, _ => Nat.le_refl _
  | 1, _ => by show 0 + (if 0 % 2 = 1 then _ else 0) ≤ _; rw [if_neg (by decide)]; omega
  | p + 2, A => by
    have h1 := T_sm_le hp n p (A / n / n)
    have h2 := hp (A / n / n % n) (A / n % n)
    have h3 := hp (A / n % n) (A % n)
    show (T_sm pw n p (A / n / n) + (if p % 2 = 1 then pw (A / n / n % n) (A / n % n) else 0)) + (if (p + 1) % 2 = 1 then pw (A / n % n) (A % n) else 0) ≤ _
    by_cases c : p % 2 = 1
    · rw [if_pos c, if_neg (by omega)]
      rw [if_pos c] at h1
      split <;> omega
    · rw [if_neg c, if_pos (by omega)]
      rw [if_neg c] at h1
      split <;> omega
theorem T_dg_pos (n p A : Nat) : 0 < T_dg n (p + 1) A := Nat.succ_pos _
theorem T_ly_add {n m A p : Nat} (hm : m < n) : T_ly n (p + 1) (A * n + m) = T_ly n p A ||| 2 ^ m := by
  show T_ly n p ((A * n + m) / n) ||| 2 ^ ((A * n + m) % n) = _
  rw [Nat.mul_comm, Nat.mul_add_div (by omega), Nat.div_eq_of_lt hm, Nat.add_zero, Nat.mul_add_mod, Nat.mod_eq_of_lt hm]
theorem nm_div {n m A : Nat} (hm : m < n) : (A * n + m) / n = A := by rw [Nat.mul_comm, Nat.mul_add_div (by omega), Nat.div_eq_of_lt hm, Nat.add_zero]
theorem nm_mod {n m A : Nat} (hm : m < n) : (A * n + m) % n = m := by rw [Nat.mul_comm, Nat.mul_add_mod, Nat.mod_eq_of_lt hm]
section BEDS
variable {pw : Nat → Nat → Nat} {n : Nat}
theorem bs_dup (h0 : 0 < n) (hn : n ≤ 6) : ∀ (r p A : Nat) (q : Nat × Nat), p + r = n → pc_ (T_ly n p A) < p → lo_fr (bs_f pw n) (A * n ^ r) (n ^ r) q = q
  | 0, p, A, q, hp, hd => by
    refine lo_fr_id fun i hi => ?_
    rw [Nat.pow_zero] at hi
    rw [Nat.pow_zero, Nat.mul_one, show i = 0 by omega, Nat.add_zero]
    have hp' : p = n := by omega
    subst hp'
    unfold bs_f
    rw [if_neg]
    intro h
    have h2 : tl_s p A p = 2 ^ p - 1 := of_decide_eq_true h
    rw [tl_s_T] at h2
    rw [h2, pc_full p (by omega)] at hd
    omega
  | r + 1, p, A, q, hp, hd => by
    rw [Nat.pow_succ, Nat.mul_comm (n ^ r) n, lo_fr_mul]
    refine lo_fold_id n fun m hm => ?_
    have e : A * (n * n ^ r) + m * n ^ r = (A * n + m) * n ^ r := by rw [Nat.add_mul, Nat.mul_assoc]
    show lo_fr (bs_f pw n) (A * (n * n ^ r) + m * n ^ r) (n ^ r) q = q
    rw [e]
    refine bs_dup h0 hn r (p + 1) (A * n + m) q (by omega) ?_
    rw [T_ly_add hm, pc_or (by omega)]
    split <;> omega
theorem bs_bd (h0 : 0 < n) (hn : n ≤ 6) (hpw : ∀ x y, pw x y ≤ 2376) : ∀ (r p A : Nat) (P Q : Nat × Nat), p + r = n → pc_ (T_ly n p A) = p → St_ P Q → St_ (bd_ pw n r p (T_ly n p A) (A % n) (T_sm pw n p A) (T_dg n p A) P) (lo_fr (bs_f pw n) (A * n ^ r) (n ^ r) Q)
  | 0, p, A, P, Q, hp, hd, hst => by
    have hp' : p = n := by omega
    subst hp'
    have e1 : lo_fr (bs_f pw p) (A * p ^ 0) (p ^ 0) Q = bs_f pw p A Q := by
      show bs_f pw p (A * p ^ 0 + 0) Q = _
      rw [Nat.pow_zero, Nat.mul_one, Nat.add_zero]
    rw [e1]
    have hok : tl_ok p A = true := decide_eq_true (by rw [tl_s_T]; exact pc_eq p (by omega) _ (T_ly_lt h0 hn p A) hd)
    have hm : tl_m pw p A (p / 2) = T_sm pw p p A := by rw [tl_m_T pw p (by omega) A, T_s2_eq h0 hn pw p A hd]
    have hg : tl_g p A p = T_dg p p A := tl_g_T p p A
    have hgp : 0 < T_dg p p A := by
      obtain ⟨u, rfl⟩ : ∃ u, p = u + 1 := ⟨p - 1, by omega⟩
      exact T_dg_pos _ _ _
    have hsl := T_sm_le hpw p p A
    have hsl2 : T_sm pw p p A < 10000 := by split at hsl <;> omega
    unfold bs_f
    rw [if_pos hok, hm, hg]
    show St_ (if T_sm pw p p A < P.1 then (T_sm pw p p A, T_dg p p A) else P) _
    rcases hst with ⟨hq, rfl⟩ | ⟨hq, rfl⟩
    · rw [if_pos (show T_sm pw p p A < 10000 from hsl2), if_pos (Or.inl hq)]
      exact Or.inr ⟨Nat.pos_iff_ne_zero.mp hgp, rfl⟩
    · by_cases c : T_sm pw p p A < Q.2
      · rw [if_pos c, if_pos (Or.inr c)]
        exact Or.inr ⟨Nat.pos_iff_ne_zero.mp hgp, rfl⟩
      · rw [if_neg c, if_neg (fun z => z.elim hq c)]
        exact Or.inr ⟨hq, rfl⟩
  | r + 1, p, A, P, Q, hp, hd, hst => by
    rw [Nat.pow_succ, Nat.mul_comm (n ^ r) n, lo_fr_mul]
    have key : ∀ k, k ≤ n → St_ (lo_fold (fun m q => if T_ly n p A / 2 ^ m % 2 = 1 then q else bd_ pw n r (p + 1) (T_ly n p A ||| 2 ^ m) m (T_sm pw n p A + (if p % 2 = 1 then pw (A % n) m else 0)) (10 * T_dg n p A + m + 1) q) k P) (lo_fold (fun m q => lo_fr (bs_f pw n) (A * (n * n ^ r) + m * n ^ r) (n ^ r) q) k Q) := by
      intro k
      induction k with
      | zero => intro _; exact hst
      | succ k ih =>
        intro hk
        have ih := ih (by omega)
        have hm : k < n := by omega
        have e : A * (n * n ^ r) + k * n ^ r = (A * n + k) * n ^ r := by rw [Nat.add_mul, Nat.mul_assoc]
        rw [lo_fold, lo_fold, e]
        by_cases c : T_ly n p A / 2 ^ k % 2 = 1
        · rw [if_pos c, bs_dup h0 hn r (p + 1) (A * n + k) _ (by omega) (by rw [T_ly_add hm, pc_or (by omega), if_pos c]; omega)]
          exact ih
        · rw [if_neg c]
          have := bs_bd h0 hn hpw r (p + 1) (A * n + k) _ _ (by omega) (by rw [T_ly_add hm, pc_or (by omega), if_neg c]; omega) ih
          rw [T_ly_add hm, nm_mod hm, show T_sm pw n (p + 1) (A * n + k) = T_sm pw n p A + (if p % 2 = 1 then pw (A % n) k else 0) by show T_sm pw n p ((A * n + k) / n) + (if p % 2 = 1 then pw ((A * n + k) / n % n) ((A * n + k) % n) else 0) = _; rw [nm_div hm, nm_mod hm], show T_dg n (p + 1) (A * n + k) = 10 * T_dg n p A + k + 1 by show 10 * T_dg n p ((A * n + k) / n) + (A * n + k) % n + 1 = _; rw [nm_div hm, nm_mod hm]] at this
          exact this
    exact key n (Nat.le_refl _)
theorem bs_all (h0 : 0 < n) (hn : n ≤ 6) (hpw : ∀ x y, pw x y ≤ 2376) : St_ (bd_ pw n n 0 0 0 0 0 (10000, 0)) (lo_fold (bs_f pw n) (n ^ n) (0, 0)) := by
  have := bs_bd h0 hn hpw n 0 0 (10000, 0) (0, 0) (by omega) (by show pc_ 0 = 0; decide) (Or.inl ⟨rfl, rfl⟩)
  rw [Nat.zero_mul, Nat.zero_mod] at this
  have e : lo_fr (bs_f pw n) 0 (n ^ n) (0, 0) = lo_fold (bs_f pw n) (n ^ n) (0, 0) := lo_fold_eq _ _ (fun m q _ => by rw [Nat.zero_add])
  rw [e] at this
  exact this
end BEDS
