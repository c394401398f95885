/-! ===== PURE: tests, choices, sets of bits ===== -/
section
variable {d y pc nx tg b0 c0 : Nat} {L st : List Value} {sh : im_Sh} {mi : im_MI} {mr : im_MR} {Q : ev_Q} {o : Int}
theorem ev_ifB_eq {p : Prop} [Decidable p] (hi : im_ins y pc = some (nx, .ifCond .eq o, tg, b0, c0)) (kt : ¬ p → Ev d y tg L st sh mi mr Q) (kf : p → Ev d y nx L st sh mi mr Q) : Ev d y pc L (.int (pu_b p) :: st) sh mi mr Q := by
  by_cases h : p
  · rw [pu_b, if_pos h]
    exact ev_ifN_eq hi (by decide) (fun q => absurd q (by decide)) (fun _ => kf h)
  · rw [pu_b, if_neg h]
    exact ev_ifN_eq hi (by decide) (fun _ => kt h) (fun q => absurd rfl q)
theorem ev_ifB_ne {p : Prop} [Decidable p] (hi : im_ins y pc = some (nx, .ifCond .ne o, tg, b0, c0)) (kt : p → Ev d y tg L st sh mi mr Q) (kf : ¬ p → Ev d y nx L st sh mi mr Q) : Ev d y pc L (.int (pu_b p) :: st) sh mi mr Q := by
  by_cases h : p
  · rw [pu_b, if_pos h]
    exact ev_ifN_ne hi (by decide) (fun _ => kt h) (fun q => absurd q (by decide))
  · rw [pu_b, if_neg h]
    exact ev_ifN_ne hi (by decide) (fun q => absurd rfl q) (fun _ => kf h)
theorem is_tswD {a b c : Nat} {dd lo hh : Int} {offs : Array Int} {x : Int32} (t : Nat) (hi : im_ins y pc = some (nx, .tableswitch dd lo hh offs, a, b, c)) (hx : x.toInt < lo ∨ hh < x.toInt) (ht : (if 0 ≤ (pc : Int) + dd then some ((pc : Int) + dd).toNat else none) = some t) : im_step y pc L (.int x :: st) sh mi mr = im_nx t L st sh mi mr :=
  is_tsw t hi (by unfold im_ts; rw [if_pos hx]; exact ht)
end
theorem pu_ne_toInt {x : Int32} {j : Nat} (h : x ≠ nI j) (hj : j < 2 ^ 31) : x.toInt ≠ j := fun q => h (Int32.toInt_inj.mp (q.trans (nI_toInt hj).symm))
theorem pu_rng {v : Int32} {lo hi : Nat} (h : nI lo ≤ v ∧ v ≤ nI hi) (hl : lo < 2 ^ 31) (hh : hi < 2 ^ 31) : ∃ j, v = nI j ∧ lo ≤ j ∧ j ≤ hi := by
  have h0 : ¬ v < 0 := by
    intro q
    have := Int32.le_iff_toInt_le.mp h.1
    have h2 := Int32.lt_iff_toInt_lt.mp q
    rw [nI_toInt hl] at this
    have : (0 : Int32).toInt = 0 := by decide
    omega
  obtain ⟨j, hj, rfl⟩ := nI_of h0
  exact ⟨j, rfl, (nI_leI hl hj).mp h.1, (nI_leI hj hh).mp h.2⟩
theorem pu_rngI {j lo hi : Nat} (hj : j < 2 ^ 31) (hh : hi < 2 ^ 31) : (nI lo ≤ nI j ∧ nI j ≤ nI hi) ↔ (nI lo ≤ nI j ∧ j ≤ hi) := by rw [nI_leI hj hh]
theorem pu_man {v : Int32} {n : Nat} (hn : n ≤ 1000) (h : nI 0 ≤ v ∧ v ≤ nI n - nI 1) : ∃ j, v = nI j ∧ j < n := by
  cases n with
  | zero =>
    exfalso
    have := Int32.le_trans h.1 h.2
    exact absurd this (by decide)
  | succ n =>
    rw [show nI (n + 1) - nI 1 = nI n from pk_sub (by omega)] at h
    obtain ⟨j, e, _, h2⟩ := pu_rng h (by decide) (by omega)
    exact ⟨j, e, by omega⟩
theorem pu_man' {j n : Nat} (hn : n ≤ 1000) (h : j < n) : nI 0 ≤ nI j ∧ nI j ≤ nI n - nI 1 := by
  cases n with
  | zero => omega
  | succ n =>
    rw [show nI (n + 1) - nI 1 = nI n from pk_sub (by omega)]
    exact ⟨nI_le (by omega) (by omega), nI_le (by omega) (by omega)⟩
/-- the set of those below n for which p holds, as bits -/
def lo_bits (p : Nat → Bool) (n : Nat) : Nat := lo_sum (fun i => if p i = true then 2 ^ i else 0) n
theorem lo_bits_lt (p : Nat → Bool) : ∀ n, lo_bits p n < 2 ^ n
  | 0 => by show 0 < 1; decide
  | n + 1 => by
    have := lo_bits_lt p n
    show lo_bits p n + (if p n = true then 2 ^ n else 0) < 2 ^ (n + 1)
    have h2 : 2 ^ (n + 1) = 2 ^ n + 2 ^ n := by rw [Nat.pow_succ]; omega
    split <;> omega
theorem pu_or {s i : Nat} (h : s < 2 ^ i) : nI s ||| nI (2 ^ i) = nI (s + 2 ^ i) := by
  apply Int32.toBitVec_inj.mp
  show BitVec.ofNat 32 s ||| BitVec.ofNat 32 (2 ^ i) = BitVec.ofNat 32 (s + 2 ^ i)
  rw [← BitVec.ofNat_or]
  have : s ||| 2 ^ i = 2 ^ i + s := by
    have := Nat.two_pow_add_eq_or_of_lt h 1
    rw [Nat.mul_one] at this
    rw [this, Nat.or_comm]
  rw [this, Nat.add_comm]
theorem pu_shl1 {i : Nat} (h : i < 32) : nI 1 <<< (nI i &&& 31) = nI (2 ^ i) := by
  have := pk_shlN (n := 1) (nI i &&& 31) i (nI_sh31 i h) (by rw [Nat.one_mul]; exact Nat.pow_lt_pow_right (by decide) h)
  rw [this, Nat.one_mul]
theorem pu_inj {a b : Nat} (h : a = b) : Value.int (nI a) = Value.int (nI b) := by rw [h]
theorem lo_sum_s (f : Nat → Nat) (n : Nat) : lo_sum f (n + 1) = lo_sum f n + f n := rfl
theorem lo_sum_le {f : Nat → Nat} {b : Nat} : ∀ n, (∀ i, i < n → f i ≤ b) → lo_sum f n ≤ n * b
  | 0, _ => by show 0 ≤ _; omega
  | n + 1, h => by
    have h1 := lo_sum_le n (fun i hi => h i (by omega))
    have h2 := h n (by omega)
    rw [lo_sum_s, Nat.add_mul]
    omega
theorem lo_sum_eq {f g : Nat → Nat} : ∀ n, (∀ i, i < n → f i = g i) → lo_sum f n = lo_sum g n
  | 0, _ => rfl
  | n + 1, h => by rw [lo_sum_s, lo_sum_s, lo_sum_eq n (fun i hi => h i (by omega)), h n (by omega)]
theorem lo_bits_s (p : Nat → Bool) (n : Nat) : lo_bits p (n + 1) = lo_bits p n + (if p n = true then 2 ^ n else 0) := rfl
theorem lo_bits_eq {p q : Nat → Bool} (n : Nat) (h : ∀ i, i < n → p i = q i) : lo_bits p n = lo_bits q n := lo_sum_eq n fun i hi => by rw [h i hi]
/-! ===== PURE, the class: the state ===== -/
/-- a man's row: 0 .. 11 doings, 12 term, 13 place, 14 kind, 15 more -/
def ho_row (H : ho_T) (m j : Nat) : Nat := if j = 14 then H 1 m else if j = 15 then H 2 m else H (10 + m) j
def ho_at (a : Nat → Nat) (h v : Nat) : Nat → Nat := fun j => if j = h then v else a j
def xoc : Option Nat → Value
  | none => .null
  | some k => .ref k
theorem xoc_nL (o : Option Nat) : im_isL (xoc o) = false := by cases o <;> rfl
theorem is_aloadO {y pc nx a b c : Nat} {L st : List Value} {sh : im_Sh} {mi : im_MI} {mr : im_MR} {i : Nat} {o : Option Nat} (hi : im_ins y pc = some (nx, .aload i, a, b, c)) (hx : L[i]? = some (xoc o)) : im_step y pc L st sh mi mr = im_nx nx L (xoc o :: st) sh mi mr := by
  cases o with
  | none => exact is_aloadN hi hx
  | some q => exact is_aload hi hx
theorem is_aload_nO {y pc nx a b c : Nat} {L st : List Value} {sh : im_Sh} {mi : im_MI} {mr : im_MR} {i : Fin 4} {o : Option Nat} (hi : im_ins y pc = some (nx, .aload_n i, a, b, c)) (hx : L[i.val]? = some (xoc o)) : im_step y pc L st sh mi mr = im_nx nx L (xoc o :: st) sh mi mr := by
  cases o with
  | none => exact is_aload_nN hi hx
  | some q => exact is_aload_n hi hx
theorem st_astoreO_1 {y pc nx a b c : Nat} {a0 a1 : Value} {r st : List Value} {sh : im_Sh} {mi : im_MI} {mr : im_MR} {o : Option Nat} (hi : im_ins y pc = some (nx, .astore 1, a, b, c)) (hp : im_isL a0 = false) : im_step y pc (a0 :: a1 :: r) (xoc o :: st) sh mi mr = im_nx nx (a0 :: xoc o :: r) st sh mi mr := by
  cases o with
  | none => exact st_astoreN_1 hi hp
  | some q => exact st_astore_1 hi hp
theorem st_astoreO_2 {y pc nx a b c : Nat} {a0 a1 a2 : Value} {r st : List Value} {sh : im_Sh} {mi : im_MI} {mr : im_MR} {o : Option Nat} (hi : im_ins y pc = some (nx, .astore 2, a, b, c)) (hp : im_isL a1 = false) : im_step y pc (a0 :: a1 :: a2 :: r) (xoc o :: st) sh mi mr = im_nx nx (a0 :: a1 :: xoc o :: r) st sh mi mr := by
  cases o with
  | none => exact st_astoreN_2 hi hp
  | some q => exact st_astore_2 hi hp
theorem st_astoreO_3 {y pc nx a b c : Nat} {a0 a1 a2 a3 : Value} {r st : List Value} {sh : im_Sh} {mi : im_MI} {mr : im_MR} {o : Option Nat} (hi : im_ins y pc = some (nx, .astore 3, a, b, c)) (hp : im_isL a2 = false) : im_step y pc (a0 :: a1 :: a2 :: a3 :: r) (xoc o :: st) sh mi mr = im_nx nx (a0 :: a1 :: a2 :: xoc o :: r) st sh mi mr := by
  cases o with
  | none => exact st_astoreN_3 hi hp
  | some q => exact st_astore_3 hi hp
theorem st_astoreO_4 {y pc nx a b c : Nat} {a0 a1 a2 a3 a4 : Value} {r st : List Value} {sh : im_Sh} {mi : im_MI} {mr : im_MR} {o : Option Nat} (hi : im_ins y pc = some (nx, .astore 4, a, b, c)) (hp : im_isL a3 = false) : im_step y pc (a0 :: a1 :: a2 :: a3 :: a4 :: r) (xoc o :: st) sh mi mr = im_nx nx (a0 :: a1 :: a2 :: a3 :: xoc o :: r) st sh mi mr := by
  cases o with
  | none => exact st_astoreN_4 hi hp
  | some q => exact st_astore_4 hi hp
theorem st_astoreO_5 {y pc nx a b c : Nat} {a0 a1 a2 a3 a4 a5 : Value} {r st : List Value} {sh : im_Sh} {mi : im_MI} {mr : im_MR} {o : Option Nat} (hi : im_ins y pc = some (nx, .astore 5, a, b, c)) (hp : im_isL a4 = false) : im_step y pc (a0 :: a1 :: a2 :: a3 :: a4 :: a5 :: r) (xoc o :: st) sh mi mr = im_nx nx (a0 :: a1 :: a2 :: a3 :: a4 :: xoc o :: r) st sh mi mr := by
  cases o with
  | none => exact st_astoreN_5 hi hp
  | some q => exact st_astore_5 hi hp
theorem st_astoreO_6 {y pc nx a b c : Nat} {a0 a1 a2 a3 a4 a5 a6 : Value} {r st : List Value} {sh : im_Sh} {mi : im_MI} {mr : im_MR} {o : Option Nat} (hi : im_ins y pc = some (nx, .astore 6, a, b, c)) (hp : im_isL a5 = false) : im_step y pc (a0 :: a1 :: a2 :: a3 :: a4 :: a5 :: a6 :: r) (xoc o :: st) sh mi mr = im_nx nx (a0 :: a1 :: a2 :: a3 :: a4 :: a5 :: xoc o :: r) st sh mi mr := by
  cases o with
  | none => exact st_astoreN_6 hi hp
  | some q => exact st_astore_6 hi hp
theorem st_astoreO_7 {y pc nx a b c : Nat} {a0 a1 a2 a3 a4 a5 a6 a7 : Value} {r st : List Value} {sh : im_Sh} {mi : im_MI} {mr : im_MR} {o : Option Nat} (hi : im_ins y pc = some (nx, .astore 7, a, b, c)) (hp : im_isL a6 = false) : im_step y pc (a0 :: a1 :: a2 :: a3 :: a4 :: a5 :: a6 :: a7 :: r) (xoc o :: st) sh mi mr = im_nx nx (a0 :: a1 :: a2 :: a3 :: a4 :: a5 :: a6 :: xoc o :: r) st sh mi mr := by
  cases o with
  | none => exact st_astoreN_7 hi hp
  | some q => exact st_astore_7 hi hp
theorem st_astore_nO_1 {y pc nx a b c : Nat} {a0 a1 : Value} {r st : List Value} {sh : im_Sh} {mi : im_MI} {mr : im_MR} {o : Option Nat} (hi : im_ins y pc = some (nx, .astore_n 1, a, b, c)) (hp : im_isL a0 = false) : im_step y pc (a0 :: a1 :: r) (xoc o :: st) sh mi mr = im_nx nx (a0 :: xoc o :: r) st sh mi mr := by
  cases o with
  | none => exact st_astore_nN_1 hi hp
  | some q => exact st_astore_n_1 hi hp
theorem st_astore_nO_2 {y pc nx a b c : Nat} {a0 a1 a2 : Value} {r st : List Value} {sh : im_Sh} {mi : im_MI} {mr : im_MR} {o : Option Nat} (hi : im_ins y pc = some (nx, .astore_n 2, a, b, c)) (hp : im_isL a1 = false) : im_step y pc (a0 :: a1 :: a2 :: r) (xoc o :: st) sh mi mr = im_nx nx (a0 :: a1 :: xoc o :: r) st sh mi mr := by
  cases o with
  | none => exact st_astore_nN_2 hi hp
  | some q => exact st_astore_n_2 hi hp
theorem st_astore_nO_3 {y pc nx a b c : Nat} {a0 a1 a2 a3 : Value} {r st : List Value} {sh : im_Sh} {mi : im_MI} {mr : im_MR} {o : Option Nat} (hi : im_ins y pc = some (nx, .astore_n 3, a, b, c)) (hp : im_isL a2 = false) : im_step y pc (a0 :: a1 :: a2 :: a3 :: r) (xoc o :: st) sh mi mr = im_nx nx (a0 :: a1 :: a2 :: xoc o :: r) st sh mi mr := by
  cases o with
  | none => exact st_astore_nN_3 hi hp
  | some q => exact st_astore_n_3 hi hp
def ho_mcell (H : ho_T) (m : Nat) : Option Nat := (ho_mate H m).map fun o => 54 + 4 * o
def ho_mrow (H : ho_T) (m : Nat) : Nat → Nat := ho_row H ((ho_mate H m).getD 0)
def md_compO (G : ho_G) (t w : Nat) (a : Nat → Nat) (o : Option Nat) (b : Nat → Nat) (h : Nat) : Nat := match o with
  | none => 0
  | some _ => md_comp G t w a b h
def md_daysO (G : ho_G) (t w : Nat) (a : Nat → Nat) (o : Option Nat) (b : Nat → Nat) (h : Nat) : Nat := match o with
  | none => 0
  | some _ => md_days G t w a b h
def md_dayO (G : ho_G) (t w : Nat) (a : Nat → Nat) (o : Option Nat) (b : Nat → Nat) : Nat := match o with
  | none => 0
  | some _ => md_day G t w a b
theorem ho_comp_md (H : ho_T) (G : ho_G) (m h : Nat) (hh : h < 12) : ho_comp H G m h = md_compO G (H 0 3) (H 0 1) (ho_row H m) (ho_mcell H m) (ho_mrow H m) h := by
  have h1 : h ≠ 14 := by omega
  have h2 : h ≠ 15 := by omega
  unfold ho_comp md_compO ho_mcell md_comp md_say ho_asks ho_sign ho_mrow
  cases ho_mate H m with
  | none => rfl
  | some o => simp [ho_row, ho_w, h1, h2]
theorem ho_days_md (H : ho_T) (G : ho_G) (m h : Nat) (hh : h < 12) : ho_days H G m h = md_daysO G (H 0 3) (H 0 1) (ho_row H m) (ho_mcell H m) (ho_mrow H m) h := by
  have h1 : h ≠ 14 := by omega
  have h2 : h ≠ 15 := by omega
  have hc := ho_comp_md H G m h hh
  unfold ho_days
  rw [hc]
  unfold md_daysO md_compO ho_mcell md_days md_say ho_asks ho_sign ho_mrow
  cases ho_mate H m with
  | none => simp
  | some o => simp [ho_row, ho_w, h1, h2]
theorem ho_day_md (H : ho_T) (G : ho_G) (m : Nat) : ho_day H G m = md_dayO G (H 0 3) (H 0 1) (ho_row H m) (ho_mcell H m) (ho_mrow H m) := by
  unfold ho_day
  rw [lo_sum_eq 12 (fun h hh => ho_days_md H G m h hh)]
  unfold md_dayO md_daysO ho_mcell
  cases ho_mate H m with
  | none => rfl
  | some o => rfl
/-- what a question may write -/
def xQ (k : Nat) : Bool := decide ((36 ≤ k ∧ k ≤ 38) ∨ (105 ≤ k ∧ k ≤ 109) ∨ (56 ≤ k ∧ k ≤ 77 ∧ k % 4 < 2))
theorem xQ_f {k : Nat} (h : ¬ ((36 ≤ k ∧ k ≤ 38) ∨ (105 ≤ k ∧ k ≤ 109) ∨ (56 ≤ k ∧ k ≤ 77 ∧ k % 4 < 2))) : xQ k = false := decide_eq_false h
theorem xQ_t {k : Nat} (h : (36 ≤ k ∧ k ≤ 38) ∨ (105 ≤ k ∧ k ≤ 109) ∨ (56 ≤ k ∧ k ≤ 77 ∧ k % 4 < 2)) : xQ k = true := decide_eq_true h
theorem sc_.mono {S T : Nat → Bool} {a b : im_MI} (h : sc_ S a b) (hs : ∀ k, S k = true → T k = true) : sc_ T a b := fun k hk => h k (by
  cases e : S k with
  | false => rfl
  | true => rw [hs k e] at hk; cases hk)
theorem xS_xQ {R : Nat} (hR : xr_R R) (k : Nat) (h : xS R k = true) : xQ k = true := by
  unfold xS at h
  rw [Bool.or_eq_true] at h
  have : k = R + 1 ∨ k = R + 2 := h.elim (fun q => Or.inl (Nat.eq_of_beq_eq_true q)) (fun q => Or.inr (Nat.eq_of_beq_eq_true q))
  exact xQ_t (by rcases hR with rfl | rfl <;> omega)
/-- places are a permutation; the image's men are there, of their kinds -/
def ho_iv (H : ho_T) : Prop := (∀ m, m < H 0 0 → H (10 + m) 13 < H 0 0) ∧ (∀ m o, m < H 0 0 → o < H 0 0 → H (10 + m) 13 = H (10 + o) 13 → m = o)
/-- the class's men, law -/
def xa_ok (H : ho_T) (G : ho_G) (mi : im_MI) (mr : im_MR) : Prop :=
  mi 29 2 = nI (H 0 0) ∧ mi 29 6 = nI (H 0 2) ∧ mi 29 7 = nI (H 0 3) ∧ mi 104 1 = nI (H 0 1) ∧ mr 104 0 = some (78 + 3 * H 0 3) ∧ (∀ m, m < H 0 0 → xm_ok mi (54 + 4 * m) (ho_row H m)) ∧ (∀ t, t < H 0 2 → xt_ok mi G t) ∧ ho_bd H ∧ ho_iv H
theorem xa_n {H : ho_T} {G : ho_G} {mi : im_MI} {mr : im_MR} (h : xa_ok H G mi mr) : H 0 0 ≤ 6 := h.2.2.2.2.2.2.2.1.1
theorem xa_w {H : ho_T} {G : ho_G} {mi : im_MI} {mr : im_MR} (h : xa_ok H G mi mr) : H 0 1 < 4096 := h.2.2.2.2.2.2.2.1.2.1
theorem xa_bd {H : ho_T} {G : ho_G} {mi : im_MI} {mr : im_MR} (h : xa_ok H G mi mr) : ho_bd H := h.2.2.2.2.2.2.2.1
theorem xa_iv {H : ho_T} {G : ho_G} {mi : im_MI} {mr : im_MR} (h : xa_ok H G mi mr) : ho_iv H := h.2.2.2.2.2.2.2.2
theorem xa_m {H : ho_T} {G : ho_G} {mi : im_MI} {mr : im_MR} (h : xa_ok H G mi mr) {m : Nat} (hm : m < H 0 0) : xm_ok mi (54 + 4 * m) (ho_row H m) := h.2.2.2.2.2.1 m hm
theorem xa_t {H : ho_T} {G : ho_G} {mi : im_MI} {mr : im_MR} (h : xa_ok H G mi mr) {t : Nat} (ht : t < H 0 2) : xt_ok mi G t := h.2.2.2.2.2.2.1 t ht
theorem xa_r {H : ho_T} {G : ho_G} {mi : im_MI} {mr : im_MR} (h : xa_ok H G mi mr) : xr_ok mi mr 104 G (H 0 3) (H 0 1) := by
  have hb := xa_bd h
  obtain ⟨_, _, _, h4, h5, _, h7, _, _⟩ := h
  exact ⟨Or.inl rfl, h5, Nat.lt_of_lt_of_le hb.2.2.2.1 hb.2.2.1, h7 _ hb.2.2.2.1, h4, hb.2.1⟩
theorem xa_sc {H : ho_T} {G : ho_G} {mi mi2 : im_MI} {mr : im_MR} (h : xa_ok H G mi mr) (hs : sc_ xQ mi mi2) : xa_ok H G mi2 mr := by
  obtain ⟨h1, h2, h3, h4, h5, h6, h7, h8, h9⟩ := h
  have hn := h8.1
  have ht := h8.2.2.1
  have e29 := hs 29 (xQ_f (by omega))
  have e104 := hs 104 (xQ_f (by omega))
  refine ⟨by rw [e29]; exact h1, by rw [e29]; exact h2, by rw [e29]; exact h3, by rw [e104]; exact h4, h5, fun m hm => ?_, fun t ht => ?_, h8, h9⟩
  · exact xm_row (h6 m hm) (hs _ (xQ_f (by omega))) (hs _ (xQ_f (by omega)))
  · exact xt_row (h7 t ht) (hs _ (xQ_f (by omega))) (hs _ (xQ_f (by omega)))
theorem xm_Mi {m : Nat} (h : m < 6) : xm_M (54 + 4 * m) := ⟨m, h, Or.inl rfl⟩
theorem xm_Mt {m : Nat} (h : m < 6) : xm_M (56 + 4 * m) := ⟨m, h, Or.inr (Or.inl rfl)⟩
/-- rows of references -/
theorem pu_rows {sh : im_Sh} {mr : im_MR} (hC : pu_C sh mr) {j : Nat} (h : j < 6) : mr 30 j = some (54 + 4 * j) ∧ mr 31 j = some (56 + 4 * j) ∧ mr 32 j = some (78 + 3 * j) ∧ mr 41 j = some (42 + 2 * j) := by
  rcases (show j = 0 ∨ j = 1 ∨ j = 2 ∨ j = 3 ∨ j = 4 ∨ j = 5 by omega) with rfl | rfl | rfl | rfl | rfl | rfl <;> exact ⟨pu_r hC _ _ rfl rfl, pu_r hC _ _ rfl rfl, pu_r hC _ _ rfl rfl, pu_r hC _ _ rfl rfl⟩
theorem pu_sheet {sh : im_Sh} {mr : im_MR} (hC : pu_C sh mr) {j : Nat} (h : j < 4) : mr 39 j = some (96 + 2 * j) ∧ sh[96 + 2 * j]? = some (4, 3) ∧ sh[97 + 2 * j]? = some (100, 40) ∧ mr (96 + 2 * j) 0 = some (97 + 2 * j) := by
  rcases (show j = 0 ∨ j = 1 ∨ j = 2 ∨ j = 3 by omega) with rfl | rfl | rfl | rfl <;> exact ⟨pu_r hC _ _ rfl rfl, pu_s hC _ rfl rfl, pu_s hC _ rfl rfl, pu_r hC _ _ rfl rfl⟩
/-- a mate, or none -/
def xo_ok (mi : im_MI) (o : Option Nat) (b : Nat → Nat) : Prop := ∀ q, o = some q → xm_M q ∧ xm_ok mi q b
theorem xo_sc {mi mi2 : im_MI} {o : Option Nat} {b : Nat → Nat} (h : xo_ok mi o b) (R : Nat) (hR : xr_R R) (hs : sc_ (xS R) mi mi2) : xo_ok mi2 o b := fun q hq => ⟨(h q hq).1, xm_sc (h q hq).1 (h q hq).2 hR hs⟩
theorem xa_mate {H : ho_T} {G : ho_G} {mi : im_MI} {mr : im_MR} (h : xa_ok H G mi mr) (m : Nat) : xo_ok mi (ho_mcell H m) (ho_mrow H m) := by
  intro q hq
  unfold ho_mcell at hq
  unfold ho_mrow
  cases e : ho_mate H m with
  | none => rw [e] at hq; cases hq
  | some o =>
    rw [e] at hq
    cases hq
    have hl := ho_mate_lt e
    have := xa_n h
    exact ⟨xm_Mi (by omega), xa_m h hl⟩
