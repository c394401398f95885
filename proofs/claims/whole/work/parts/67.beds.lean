/-! ===== PURE: how all had best lie ===== -/
theorem nI_or (a b : Nat) : nI a ||| nI b = nI (a ||| b) := by
  apply Int32.toBitVec_inj.mp
  show BitVec.ofNat 32 a ||| BitVec.ofNat 32 b = BitVec.ofNat 32 (a ||| b)
  rw [BitVec.ofNat_or]
def lo_fold {α : Type} (f : Nat → α → α) : Nat → α → α
  | 0, p => p
  | m + 1, p => f m (lo_fold f m p)
theorem lo_fold_id {α : Type} {f : Nat → α → α} {p : α} : ∀ n, (∀ m, m < n → f m p = p) → lo_fold f n p = p
  | 0, _ => rfl
  | n + 1, h => by rw [lo_fold, lo_fold_id n (fun m hm => h m (by omega)), h n (by omega)]
theorem lo_fold_eq {α : Type} {f g : Nat → α → α} : ∀ (n : Nat) (p : α), (∀ m q, m < n → f m q = g m q) → lo_fold f n p = lo_fold g n p
  | 0, _, _ => rfl
  | n + 1, p, h => by rw [lo_fold, lo_fold, lo_fold_eq n p (fun m q hm => h m q (by omega)), h n _ (by omega)]
theorem lo_fold_P {α : Type} {P : α → Prop} {f : Nat → α → α} : ∀ (n : Nat) (p : α), P p → (∀ m q, m < n → P q → P (f m q)) → P (lo_fold f n p)
  | 0, _, h, _ => h
  | n + 1, p, h, hf => hf n _ (by omega) (lo_fold_P n p h (fun m q hm hq => hf m q (by omega) hq))
/-- all ways from here on: so many places left, the place, who lie (bits), who lies at the one before, the sum, the digits; (least, digits) -/
def bd_ (pw : Nat → Nat → Nat) (n : Nat) : Nat → Nat → Nat → Nat → Nat → Nat → Nat × Nat → Nat × Nat
  | 0, _, _, _, sum, dg, p => if sum < p.1 then (sum, dg) else p
  | r + 1, pl, ly, l, sum, dg, p => lo_fold (fun m q => if ly / 2 ^ m % 2 = 1 then q else bd_ pw n r (pl + 1) (ly ||| 2 ^ m) m (sum + (if pl % 2 = 1 then pw l m else 0)) (10 * dg + m + 1) q) n p
theorem bd_no (pw : Nat → Nat → Nat) (n : Nat) : ∀ (r pl ly l sum dg : Nat) (p : Nat × Nat), p.1 ≤ sum → bd_ pw n r pl ly l sum dg p = p
  | 0, _, _, _, sum, dg, p, h => if_neg (by omega)
  | r + 1, pl, ly, l, sum, dg, p, h => by
    refine lo_fold_id n fun m hm => ?_
    split
    · rfl
    · exact bd_no pw n r _ _ _ _ _ p (by omega)
theorem bd_le (pw : Nat → Nat → Nat) (n : Nat) : ∀ (r pl ly l sum dg : Nat) (p : Nat × Nat) (b : Nat), p.1 ≤ b → (bd_ pw n r pl ly l sum dg p).1 ≤ b
  | 0, _, _, _, sum, dg, p, b, h => by
    show (if sum < p.1 then (sum, dg) else p).1 ≤ b
    split
    · show sum ≤ b; omega
    · exact h
  | r + 1, pl, ly, l, sum, dg, p, b, h => by
    refine lo_fold_P (P := fun q => q.1 ≤ b) n p h fun m q hm hq => ?_
    split
    · exact hq
    · exact bd_le pw n r _ _ _ _ _ q b hq
def bd_all (H : ho_T) (G : ho_G) : Nat × Nat := bd_ (pw_ H G) (H 0 0) (H 0 0) 0 0 0 0 0 (10000, 0)
def an_beds (H : ho_T) (G : ho_G) (w : Int32) : Int32 := if ho_rng (nI 0) w (nI 1) = true then (if w = nI 0 then nI (bd_all H G).2 else nI (bd_all H G).1) else -2
theorem md_day_le (G : ho_G) (t w : Nat) (a b : Nat → Nat) : md_day G t w a b ≤ 1188 := lo_sum_le (b := 99) 12 fun i _ => md_days_le _ _ _ _ _ _
theorem pw_le (H : ho_T) (G : ho_G) (a b : Nat) : pw_ H G a b ≤ 2376 := Nat.add_le_add (md_day_le _ _ _ _ _) (md_day_le _ _ _ _ _)
/-- the class's cells while it looks for it -/
def lk_ (mi ma : im_MI) (n : Nat) (p : Nat × Nat) : Prop := (∀ k, k ≠ 36 → ma k = mi k) ∧ ma 36 1 = nI n ∧ ma 36 2 = nI p.1 ∧ ma 36 3 = nI p.2 ∧ p.1 ≤ 10000
theorem ly_lt {ly m : Nat} (h : ly < 64) (hm : m < 6) : ly ||| 2 ^ m < 64 := Nat.or_lt_two_pow (n := 6) h (Nat.pow_lt_pow_right (by decide) hm)
theorem ly_bit (ly m : Nat) : (ly ||| 2 ^ m) / 2 ^ m % 2 = 1 := by
  have h : (ly ||| 2 ^ m).testBit m = true := by rw [Nat.testBit_or, Nat.testBit_two_pow_self, Bool.or_true]
  rw [Nat.testBit_eq_decide_div_mod_eq] at h
  exact of_decide_eq_true h
