/-! ===== PURE: tokens of the tape ===== -/
def lx_run (g : Nat → Bool) : Nat → Nat → Nat
  | 0, i => i
  | n + 1, i => if g i = true then lx_run g n (i + 1) else i
/-- on to the first place where it isn't so -/
def lx_to (g : Nat → Bool) (i : Nat) : Nat := lx_run g (160 - i) i
theorem lx_to_t {g : Nat → Bool} {i : Nat} (h : i < 160) (hg : g i = true) : lx_to g i = lx_to g (i + 1) := by
  unfold lx_to
  rw [show 160 - i = (160 - (i + 1)) + 1 by omega, lx_run, if_pos hg]
theorem lx_to_f {g : Nat → Bool} {i : Nat} (hg : g i = false) : lx_to g i = i := by
  unfold lx_to
  cases 160 - i with
  | zero => rfl
  | succ n => rw [lx_run, if_neg (by rw [hg]; decide)]
theorem lx_to_e {g : Nat → Bool} {i : Nat} (h : 160 ≤ i) : lx_to g i = i := by
  unfold lx_to
  rw [show 160 - i = 0 by omega]; rfl
theorem lx_run_le (g : Nat → Bool) : ∀ n i, i ≤ lx_run g n i
  | 0, i => Nat.le_refl _
  | n + 1, i => by
    rw [lx_run]
    split
    · have := lx_run_le g n (i + 1); omega
    · exact Nat.le_refl _
theorem lx_to_le (g : Nat → Bool) (i : Nat) : i ≤ lx_to g i := lx_run_le g _ i
theorem lx_run_z {g : Nat → Bool} {z : Nat} (hg : ∀ i, g i = true → i < z) : ∀ n i, i ≤ z → lx_run g n i ≤ z
  | 0, i, h => h
  | n + 1, i, h => by
    rw [lx_run]
    split
    · exact lx_run_z hg n (i + 1) (hg i ‹_›)
    · exact h
theorem lx_to_z {g : Nat → Bool} {z i : Nat} (hg : ∀ i, g i = true → i < z) (h : i ≤ z) : lx_to g i ≤ z := lx_run_z hg _ i h
theorem lx_run_in {g : Nat → Bool} : ∀ n i k, i ≤ k → k < lx_run g n i → g k = true
  | 0, i, k, h1, h2 => by rw [lx_run] at h2; omega
  | n + 1, i, k, h1, h2 => by
    rw [lx_run] at h2
    split at h2
    · rename_i hg
      rcases Nat.eq_or_lt_of_le h1 with q | q
      · rw [← q]; exact hg
      · exact lx_run_in n (i + 1) k q h2
    · omega
theorem lx_to_in {g : Nat → Bool} {i k : Nat} (h1 : i ≤ k) (h2 : k < lx_to g i) : g k = true := lx_run_in _ i k h1 h2
theorem lx_run_stop {g : Nat → Bool} : ∀ n i, lx_run g n i < i + n → g (lx_run g n i) = false
  | 0, i, h => by rw [lx_run] at h; omega
  | n + 1, i, h => by
    rw [lx_run] at h ⊢
    split
    · rename_i hg
      rw [if_pos hg] at h
      exact lx_run_stop n (i + 1) (by omega)
    · rename_i hg
      exact Bool.eq_false_iff.mpr hg
theorem lx_to_stop {g : Nat → Bool} {i : Nat} (h : lx_to g i < 160) (hi : i ≤ 160) : g (lx_to g i) = false := lx_run_stop _ i (by unfold lx_to at h; omega)
section LX
variable (tb : Nat → Nat) (z : Nat)
def lx_bl (i : Nat) : Bool := decide (i < z ∧ (tb i = 32 ∨ tb i = 10))
def lx_lt (i : Nat) : Bool := decide (i < z ∧ 97 ≤ tb i ∧ tb i ≤ 122)
def lx_dg (i : Nat) : Bool := decide (i < z ∧ 48 ≤ tb i ∧ tb i ≤ 57)
def lx_sg (c : Nat) : Bool := decide (c = 40 ∨ c = 41 ∨ c = 59 ∨ c = 43 ∨ c = 45 ∨ c = 42 ∨ c = 60 ∨ c = 61)
def wl_l : List (List Nat) := [[99, 111, 117, 110, 116, 115], [112, 97, 121, 115], [115, 101, 101, 115], [111, 114], [97, 110, 100], [110, 111, 116], [109, 105, 110, 101], [104, 105, 115], [104, 111, 117, 114], [116, 101, 114, 109], [109, 111, 114, 101], [119, 97, 116, 99, 104, 101, 100]]
def wl_ (w : Nat) : List Nat := wl_l.getD w []
/-- the word w stands from f to t -/
def wm_ (f t w : Nat) : Bool := decide (t = f + (wl_ w).length ∧ ∀ j, j < (wl_ w).length → tb (f + j) = (wl_ w).getD j 0)
def wi_ (f t : Nat) : Nat := (lo_find (wm_ tb f t) 12 0).getD 12
def wk_ (w : Nat) : Nat := if w < 6 then 4 + w else if w < 12 then 3 else 1
def wv_ (w : Nat) : Nat := if w < 6 then 0 else if w < 12 then w - 6 else 0
def lx_num (f : Nat) : Nat → Nat
  | 0 => 0
  | n + 1 => 10 * lx_num f n + (tb (f + n) - 48)
def tk_f (i : Nat) : Nat := lx_to (lx_bl tb z) i
def tk_t (i : Nat) : Nat := if z ≤ tk_f tb z i then tk_f tb z i else if lx_lt tb z (tk_f tb z i) = true then lx_to (lx_lt tb z) (tk_f tb z i) else if lx_dg tb z (tk_f tb z i) = true then lx_to (lx_dg tb z) (tk_f tb z i) else tk_f tb z i + 1
def tk_k (i : Nat) : Nat := if z ≤ tk_f tb z i then 0 else if lx_lt tb z (tk_f tb z i) = true then wk_ (wi_ tb (tk_f tb z i) (tk_t tb z i)) else if lx_dg tb z (tk_f tb z i) = true then (if 4 < tk_t tb z i - tk_f tb z i then 1 else 2) else if lx_sg (tb (tk_f tb z i)) = true then tb (tk_f tb z i) else 1
def tk_v (i : Nat) : Nat := if z ≤ tk_f tb z i then 0 else if lx_lt tb z (tk_f tb z i) = true then wv_ (wi_ tb (tk_f tb z i) (tk_t tb z i)) else if lx_dg tb z (tk_f tb z i) = true then lx_num tb (tk_f tb z i) (Nat.min 4 (tk_t tb z i - tk_f tb z i)) else 0
end LX
section LY
variable {tb : Nat → Nat} {z : Nat}
theorem lx_bl_z {i : Nat} (h : lx_bl tb z i = true) : i < z := (of_decide_eq_true h).1
theorem lx_lt_z {i : Nat} (h : lx_lt tb z i = true) : i < z := (of_decide_eq_true h).1
theorem lx_dg_z {i : Nat} (h : lx_dg tb z i = true) : i < z := (of_decide_eq_true h).1
theorem wk_ne (w : Nat) : wk_ w ≠ 0 ∧ wk_ w ≠ 2 := by unfold wk_; split <;> (try split) <;> omega
theorem tk_f_z {p : Nat} (hp : p ≤ z) : tk_f tb z p ≤ z := lx_to_z (fun _ h => lx_bl_z h) hp
theorem tk_f_le (p : Nat) : p ≤ tk_f tb z p := lx_to_le _ _
theorem tk_T (hz : z ≤ 160) : ya_T (tk_k tb z) (tk_t tb z) z := by
  intro p hp hk
  have h1 := tk_f_le (tb := tb) (z := z) p
  have h2 := tk_f_z (tb := tb) hp
  unfold tk_k at hk
  unfold tk_t
  by_cases c : z ≤ tk_f tb z p
  · rw [if_pos c] at hk; exact absurd rfl hk
  · rw [if_neg c]
    by_cases c1 : lx_lt tb z (tk_f tb z p) = true
    · rw [if_pos c1, lx_to_t (by omega) c1]
      have h3 := lx_to_le (lx_lt tb z) (tk_f tb z p + 1)
      exact ⟨by omega, lx_to_z (fun _ h => lx_lt_z h) (by omega)⟩
    · rw [if_neg c1]
      by_cases c2 : lx_dg tb z (tk_f tb z p) = true
      · rw [if_pos c2, lx_to_t (by omega) c2]
        have h3 := lx_to_le (lx_dg tb z) (tk_f tb z p + 1)
        exact ⟨by omega, lx_to_z (fun _ h => lx_dg_z h) (by omega)⟩
      · rw [if_neg c2]
        exact ⟨by omega, by omega⟩
theorem lx_num_lt {f n : Nat} (h : ∀ j, j < n → tb (f + j) ≤ 57) : lx_num tb f n < 10 ^ n := by
  induction n with
  | zero => exact Nat.one_pos
  | succ n ih =>
    have h1 := ih (fun j hj => h j (by omega))
    have h2 := h n (by omega)
    show 10 * lx_num tb f n + (tb (f + n) - 48) < 10 ^ (n + 1)
    rw [Nat.pow_succ]
    omega
theorem lx_sg_k {c : Nat} (h : lx_sg c = true) : 40 ≤ c := by have := of_decide_eq_true h; omega
theorem tk_V : ya_V (tk_k tb z) (tk_v tb z) := by
  constructor
  · intro p hk
    unfold tk_k at hk
    unfold tk_v
    by_cases c : z ≤ tk_f tb z p
    · rw [if_pos c] at hk; cases hk
    · rw [if_neg c] at hk ⊢
      by_cases c1 : lx_lt tb z (tk_f tb z p) = true
      · rw [if_pos c1] at hk; exact absurd hk (wk_ne _).2
      · rw [if_neg c1] at hk ⊢
        by_cases c2 : lx_dg tb z (tk_f tb z p) = true
        · rw [if_pos c2]
          have hm : Nat.min 4 (tk_t tb z p - tk_f tb z p) ≤ 4 := Nat.min_le_left _ _
          have hm2 : Nat.min 4 (tk_t tb z p - tk_f tb z p) ≤ tk_t tb z p - tk_f tb z p := Nat.min_le_right _ _
          have hl := lx_num_lt (tb := tb) (f := tk_f tb z p) (n := Nat.min 4 (tk_t tb z p - tk_f tb z p)) (fun j hj => by
            have ht : tk_t tb z p = lx_to (lx_dg tb z) (tk_f tb z p) := by unfold tk_t; rw [if_neg c, if_neg c1, if_pos c2]
            have h5 : j < tk_t tb z p - tk_f tb z p := by omega
            rw [ht] at h5
            have := lx_to_in (g := lx_dg tb z) (i := tk_f tb z p) (k := tk_f tb z p + j) (by omega) (by omega)
            exact (of_decide_eq_true this).2.2)
          have h4 : 10 ^ Nat.min 4 (tk_t tb z p - tk_f tb z p) ≤ 10 ^ 4 := Nat.pow_le_pow_right (by decide) hm
          exact Nat.lt_of_lt_of_le hl h4
        · rw [if_neg c2] at hk ⊢
          by_cases c3 : lx_sg (tb (tk_f tb z p)) = true
          · rw [if_pos c3] at hk; have := lx_sg_k c3; omega
          · rw [if_neg c3] at hk; cases hk
  · intro p hk
    unfold tk_k at hk
    unfold tk_v
    by_cases c : z ≤ tk_f tb z p
    · rw [if_pos c] at hk; cases hk
    · rw [if_neg c] at hk ⊢
      by_cases c1 : lx_lt tb z (tk_f tb z p) = true
      · rw [if_pos c1]
        unfold wv_
        split
        · decide
        · split <;> omega
      · rw [if_neg c1] at hk
        by_cases c2 : lx_dg tb z (tk_f tb z p) = true
        · rw [if_pos c2] at hk; split at hk <;> cases hk
        · rw [if_neg c2] at hk
          by_cases c3 : lx_sg (tb (tk_f tb z p)) = true
          · rw [if_pos c3] at hk; have := lx_sg_k c3; omega
          · rw [if_neg c3] at hk; cases hk
theorem wl_inj : ∀ a, a < 12 → ∀ b, b < 12 → wl_ a = wl_ b → a = b := by decide
theorem wm_one {f t a b : Nat} (ha : a < 12) (hb : b < 12) (h1 : wm_ tb f t a = true) (h2 : wm_ tb f t b = true) : a = b := by
  have e1 := of_decide_eq_true h1
  have e2 := of_decide_eq_true h2
  have hl : (wl_ a).length = (wl_ b).length := by omega
  refine wl_inj a ha b hb (List.ext_getElem hl fun j g1 g2 => ?_)
  have q1 := e1.2 j g1
  have q2 := e2.2 j g2
  rw [List.getD_eq_getElem?_getD, List.getElem?_eq_getElem g1] at q1
  rw [List.getD_eq_getElem?_getD, List.getElem?_eq_getElem g2] at q2
  exact q1.symm.trans q2
theorem wi_of {f t a : Nat} (ha : a < 12) (h : wm_ tb f t a = true) : wi_ tb f t = a := by
  unfold wi_
  cases e : lo_find (wm_ tb f t) 12 0 with
  | none =>
    have := lo_find_none e a (Nat.zero_le _) (by omega)
    rw [h] at this
    cases this
  | some q =>
    have hq := lo_find_lt e
    show q = a
    exact wm_one (by have := hq.1; omega) ha hq.2 h
theorem wi_none {f t : Nat} (h : ∀ a, a < 12 → wm_ tb f t a = false) : wi_ tb f t = 12 := by
  unfold wi_
  cases e : lo_find (wm_ tb f t) 12 0 with
  | none => rfl
  | some q =>
    have hq := lo_find_lt e
    rw [h q (by omega)] at hq
    exact absurd hq.2 (by decide)
theorem wi_le (f t : Nat) : wi_ tb f t ≤ 12 := by
  unfold wi_
  cases e : lo_find (wm_ tb f t) 12 0 with
  | none => exact Nat.le_refl _
  | some q => have hq := (lo_find_lt e).1; show q ≤ 12; omega
theorem wi_wm {f t : Nat} (h : wi_ tb f t < 12) : wm_ tb f t (wi_ tb f t) = true := by
  unfold wi_ at h ⊢
  cases e : lo_find (wm_ tb f t) 12 0 with
  | none => rw [e] at h; exact absurd h (by decide)
  | some q => exact (lo_find_lt e).2
end LY
