/-! ===== PURE: bits counted, least ones; answers of codes, code, still, knows, unseen ===== -/
def bc_u (x k : Int32) : Int32 := (x.toUInt32 >>> (k.toUInt32 &&& Int32.toUInt32 31)).toInt32
def bc_1 (x : Int32) : Int32 := x - (bc_u x (nI 1) &&& nI 1431655765)
def bc_2 (x : Int32) : Int32 := (x &&& nI 858993459) + (bc_u x (nI 2) &&& nI 858993459)
def bc_3 (x : Int32) : Int32 := (x + bc_u x (nI 4)) &&& nI 252645135
def bc_4 (x : Int32) : Int32 := x + bc_u x (nI 8)
def bc_5 (x : Int32) : Int32 := x + bc_u x (nI 16)
def bc_ (x : Int32) : Int32 := bc_5 (bc_4 (bc_3 (bc_2 (bc_1 x)))) &&& nI 63
def on_ (s : Nat) : Nat := lo_sum (fun h => s / 2 ^ h % 2) 12
theorem bc_all : ∀ a, a < 64 → ∀ b, b < 64 → bc_ (nI (64 * a + b)) = nI (on_ (64 * a + b)) := by decide +kernel
theorem bc_on {s : Nat} (h : s < 4096) : bc_ (nI s) = nI (on_ s) := by
  have := bc_all (s / 64) (by omega) (s % 64) (by omega)
  rw [show 64 * (s / 64) + s % 64 = s by omega] at this
  exact this
def ls_ (s : Nat) : Option Nat := lo_find (fun i => decide (s / 2 ^ i % 2 = 1)) 6 0
theorem ls_lt {s k : Nat} (h : ls_ s = some k) : k < 6 := by have := (lo_find_lt h).1; omega
theorem lo_bits_at (p : Nat → Bool) : ∀ (n i : Nat), i < n → (lo_bits p n / 2 ^ i % 2 = 1 ↔ p i = true)
  | 0, _, h => by omega
  | n + 1, i, h => by
    rw [lo_bits_s]
    have hb := lo_bits_lt p n
    rcases Nat.eq_or_lt_of_le (Nat.le_of_lt_succ h) with q | q
    · subst q
      by_cases hp : p i = true
      · rw [if_pos hp, Nat.add_div_right _ (Nat.two_pow_pos i), Nat.div_eq_of_lt hb]
        simp [hp]
      · rw [if_neg hp, Nat.add_zero, Nat.div_eq_of_lt hb]
        simp [hp]
    · have ih := lo_bits_at p n i q
      by_cases hp : p n = true
      · rw [if_pos hp]
        have e : 2 ^ n = 2 ^ i * (2 * 2 ^ (n - i - 1)) := by
          rw [← Nat.mul_assoc, ← Nat.pow_succ, ← Nat.pow_add]
          congr 1
          omega
        rw [e, Nat.add_mul_div_left _ _ (Nat.two_pow_pos i), Nat.add_mul_mod_self_left]
        exact ih
      · rw [if_neg hp, Nat.add_zero]
        exact ih
theorem lo_find_none {p : Nat → Bool} : ∀ {j i : Nat}, lo_find p j i = none → ∀ k, i ≤ k → k < i + j → p k = false
  | 0, _, _, k, h1, h2 => by omega
  | j + 1, i, hn, k, h1, h2 => by
    rw [lo_find] at hn
    cases hp : p i with
    | true => rw [hp] at hn; cases hn
    | false =>
      rw [hp] at hn
      rcases Nat.eq_or_lt_of_le h1 with q | q
      · rw [← q]; exact hp
      · exact lo_find_none (j := j) (i := i + 1) hn k q (by omega)
theorem pu_n1 {l : Nat} (h : l < 2 ^ 31) : ¬ nI l = -1 := fun q => by
  have := congrArg Int32.toInt q
  rw [nI_toInt h] at this
  have h3 : (-1 : Int32).toInt = -1 := by decide
  omega
def lo_prod (f : Nat → Nat) : Nat → Nat
  | 0 => 1
  | n + 1 => lo_prod f n * f n
abbrev ho_NO : Int64 := -4611686018427387904
def an_codes (H : ho_T) (G : ho_G) (m n : Int32) : Int64 := if ho_isM H m = true then (if ho_rng (nI 0) n (nI 12) = true then lN (lo_prod (fun h => on_ (ho_qb H G (jn m) h)) (jn n)) else ho_NO) else ho_NO
def cd_run (f : Nat → Option Nat) : Nat → Option Nat
  | 0 => some 0
  | n + 1 => match cd_run f n with
    | none => none
    | some v => match f n with
      | none => none
      | some l => some (10 * v + l + 1)
theorem cd_none {f : Nat → Option Nat} {i : Nat} (h : cd_run f i = none) : ∀ n, i ≤ n → cd_run f n = none := by
  intro n
  induction n with
  | zero => intro hi; rw [show i = 0 by omega] at h; exact h
  | succ n ih =>
    intro hi
    rcases Nat.eq_or_lt_of_le hi with q | q
    · rw [← q]; exact h
    · rw [cd_run, ih (by omega)]
def an_code (H : ho_T) (G : ho_G) (m n : Int32) : Int32 := if ho_isM H m = true then (if ho_rng (nI 0) n (nI 9) = true then pu_o (cd_run (fun h => ls_ (ho_qb H G (jn m) h)) (jn n)) else -7) else -5
def sl_run (f : Nat → Option Nat) : Nat → Option Nat
  | 0 => some 0
  | n + 1 => match sl_run f n with
    | none => none
    | some v => match f n with
      | none => none
      | some l => some (v + l)
theorem sl_none {f : Nat → Option Nat} {i : Nat} (h : sl_run f i = none) : ∀ n, i ≤ n → sl_run f n = none := by
  intro n
  induction n with
  | zero => intro hi; rw [show i = 0 by omega] at h; exact h
  | succ n ih =>
    intro hi
    rcases Nat.eq_or_lt_of_le hi with q | q
    · rw [← q]; exact h
    · rw [sl_run, ih (by omega)]
def sl_f (H : ho_T) (G : ho_G) (m h : Nat) : Option Nat := if ho_qb H G m h = 0 then none else some (if ho_quiet H G m h = true then 0 else 1)
def an_still (H : ho_T) (G : ho_G) (m : Int32) : Int32 := if ho_isM H m = true then pu_o (sl_run (sl_f H G (jn m)) 12) else -5
def kw_b (H : ho_T) (G : ho_G) (m o h : Nat) : Nat := lo_bits (fun d => decide (ho_sign (ho_set H (10 + o) h d) m h = ho_sign H m h ∧ ho_comp (ho_set H (10 + o) h d) G m h = ho_comp H G m h)) 6
def an_knows (H : ho_T) (G : ho_G) (m h : Int32) : Int32 := if ho_isM H m = true then (if ho_rng (nI 0) h (nI 11) = true then (match ho_mate H (jn m) with
  | none => nI 0
  | some o => nI (kw_b H G (jn m) o (jn h))) else -7) else -5
theorem ho_qb_md {H : ho_T} (hv : ho_iv H) (G : ho_G) {m h : Nat} (hm : m < H 0 0) (hh : h < 12) : lo_bits (fun d => md_quietO G (H 0 3) (H 0 1) (ho_at (ho_row H m) h d) (ho_mcell H m) (ho_mrow H m) h) 6 = ho_qb H G m h := lo_bits_eq 6 fun d _ => (ho_qd_md hv G d hm hh).symm
theorem ho_qb_lt (H : ho_T) (G : ho_G) (m h : Nat) : ho_qb H G m h < 64 := lo_bits_lt _ 6
theorem ho_qb_at (H : ho_T) (G : ho_G) (m h : Nat) {d : Nat} (hd : d < 6) : ho_qb H G m h / 2 ^ d % 2 = 1 ↔ ho_qd H G m h d = true := lo_bits_at _ 6 d hd
theorem ho_sign_o {H : ho_T} {m o h : Nat} (e : ho_mate H m = some o) (hh : h < 12) : ho_sign H m h = kd_signs (ho_row H o 14) (ho_row H o h) := by
  unfold ho_sign ho_row
  rw [e]
  simp [show h ≠ 14 by omega, show h ≠ 15 by omega]
theorem ho_comp_o {H : ho_T} {G : ho_G} {m o h : Nat} (e : ho_mate H m = some o) (hh : h < 12) : ho_comp H G m h = md_comp G (H 0 3) (H 0 1) (ho_row H m) (ho_row H o) h := by
  rw [ho_comp_md H G m h hh]
  unfold ho_mcell ho_mrow
  rw [e]
  rfl
theorem ho_alt_sign {H H' : ho_T} {m w h : Nat} {a : Nat → Nat} (e : ho_alt H H' w a) (hm : ho_mate H m = some w) (hh : h < 12) : ho_sign H' m h = kd_signs (a 14) (a h) := by
  have e2 : ho_mate H' m = some w := by rw [ho_mate_eq e.1 e.2.2.2.1]; exact hm
  rw [ho_sign_o e2 hh, e.2.2.2.2.2]
/-! lowest terms -/
def lw_ (a b : Nat) (part : Nat) : Nat := (if part = 0 then a else b) / Nat.gcd a b
def us_ (H : ho_T) (G : ho_G) (m h : Nat) : Nat := if ho_comp H G m h = 0 then 1 else 100 - ho_asks H G 2 m h
def us2_ (H : ho_T) (G : ho_G) (m h : Nat) : Nat := if ho_comp H G m h = 0 then 1 else 100
def an_unseen (H : ho_T) (G : ho_G) (m n part : Int32) : Int64 := if ho_isM H m = true then (if ho_rng (nI 0) n (nI 8) = true then (if ho_rng (nI 0) part (nI 1) = true then lN (lw_ (lo_prod (us_ H G (jn m)) (jn n)) (lo_prod (us2_ H G (jn m)) (jn n)) (jn part)) else ho_NO) else ho_NO) else ho_NO
theorem lo_prod_le {f : Nat → Nat} {b : Nat} : ∀ n, (∀ i, i < n → f i ≤ b) → lo_prod f n ≤ b ^ n
  | 0, _ => Nat.le_refl _
  | n + 1, h => Nat.mul_le_mul (lo_prod_le n fun i hi => h i (by omega)) (h n (by omega))
theorem lo_prod_pos {f : Nat → Nat} : ∀ n, (∀ i, i < n → 0 < f i) → 0 < lo_prod f n
  | 0, _ => Nat.one_pos
  | n + 1, h => Nat.mul_pos (lo_prod_pos n fun i hi => h i (by omega)) (h n (by omega))
/-- a step of the common divisor's loop: so many halve a number -/
def gc_ok : Nat → Nat → Nat → Prop
  | 0, _, b => b = 0
  | n + 1, a, b => b = 0 ∨ gc_ok n b (a % b)
theorem gc_okz : ∀ (n a : Nat), gc_ok n a 0
  | 0, _ => rfl
  | _ + 1, _ => Or.inl rfl
theorem gc_pow : ∀ (k a b : Nat), b < 2 ^ k → gc_ok (2 * k) a b
  | 0, _, b, h => by show b = 0; omega
  | k + 1, a, b, h => by
    show b = 0 ∨ (a % b = 0 ∨ gc_ok (2 * k) (a % b) (b % (a % b)))
    rcases Nat.eq_zero_or_pos b with q | q
    · exact Or.inl q
    · refine Or.inr ?_
      rcases Nat.eq_zero_or_pos (a % b) with q2 | q2
      · exact Or.inl q2
      · refine Or.inr (gc_pow k _ _ ?_)
        have h1 := Nat.mod_lt a q
        have h2 := Nat.mod_lt b q2
        have h3 : b = (a % b) * (b / (a % b)) + b % (a % b) := (Nat.div_add_mod _ _).symm
        have h4 : 1 ≤ b / (a % b) := (Nat.one_le_div_iff q2).mpr (Nat.le_of_lt h1)
        have h5 : (a % b) * 1 ≤ (a % b) * (b / (a % b)) := Nat.mul_le_mul_left _ h4
        rw [Nat.pow_succ] at h
        omega
