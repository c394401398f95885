/-! ===== PURE: answers of told days, of what would be quiet; a house in which one man is otherwise ===== -/
theorem ho_xor1_ne (x : Nat) : x ≠ x ^^^ 1 := by
  intro h
  have := congrArg (fun z => x ^^^ z) h
  simp only [← Nat.xor_assoc, Nat.xor_self, Nat.zero_xor] at this
  exact absurd this (by decide)
theorem ho_mate_pl1 {H : ho_T} {m o : Nat} (h : ho_mate H m = some o) : H (10 + o) 13 = H (10 + m) 13 ^^^ 1 := of_decide_eq_true (lo_find_lt h).2
theorem ho_mate_ne {H : ho_T} {m o : Nat} (h : ho_mate H m = some o) : o ≠ m := fun e => by
  have := ho_mate_pl1 h
  rw [e] at this
  exact ho_xor1_ne _ this
theorem ho_mate_eq {H H' : ho_T} (h0 : H' 0 0 = H 0 0) (h13 : ∀ q, H' (10 + q) 13 = H (10 + q) 13) (m : Nat) : ho_mate H' m = ho_mate H m := by
  unfold ho_mate
  rw [h0]
  simp only [h13]
theorem ho_mcell_eq {H H' : ho_T} (h0 : H' 0 0 = H 0 0) (h13 : ∀ q, H' (10 + q) 13 = H (10 + q) 13) (m : Nat) : ho_mcell H' m = ho_mcell H m := by unfold ho_mcell; rw [ho_mate_eq h0 h13]
/-- one man, w, is otherwise: his row a; the law t and what is watched w0 may be otherwise, too -/
def ho_alt (H H' : ho_T) (w : Nat) (a : Nat → Nat) : Prop := H' 0 0 = H 0 0 ∧ H' 0 1 = H 0 1 ∧ H' 0 3 = H 0 3 ∧ (∀ q, H' (10 + q) 13 = H (10 + q) 13) ∧ (∀ q, q ≠ w → ho_row H' q = ho_row H q) ∧ ho_row H' w = a
theorem ho_alt_own {H H' : ho_T} {G : ho_G} {w h : Nat} {a : Nat → Nat} (e : ho_alt H H' w a) (hh : h < 12) : ho_comp H' G w h = md_compO G (H 0 3) (H 0 1) a (ho_mcell H w) (ho_mrow H w) h := by
  obtain ⟨e0, e1, e3, e13, er, ea⟩ := e
  rw [ho_comp_md H' G w h hh, e1, e3, ea, ho_mcell_eq e0 e13]
  unfold ho_mrow
  rw [ho_mate_eq e0 e13]
  cases hm : ho_mate H w with
  | none =>
    unfold ho_mcell
    rw [hm]
    rfl
  | some o =>
    have hne := ho_mate_ne hm
    show md_compO G _ _ a _ (ho_row H' o) h = md_compO G _ _ a _ (ho_row H o) h
    rw [er o hne]
theorem ho_alt_mate {H H' : ho_T} {G : ho_G} {m w h : Nat} {a : Nat → Nat} (e : ho_alt H H' w a) (hm : ho_mate H m = some w) (hh : h < 12) : ho_comp H' G m h = md_comp G (H 0 3) (H 0 1) (ho_row H m) a h := by
  obtain ⟨e0, e1, e3, e13, er, ea⟩ := e
  have hne := ho_mate_ne hm
  rw [ho_comp_md H' G m h hh, e1, e3, ho_mcell_eq e0 e13, er m (Ne.symm hne)]
  unfold ho_mrow ho_mcell
  rw [ho_mate_eq e0 e13, hm]
  show md_comp G _ _ _ (ho_row H' w) h = _
  rw [ea]
theorem ho_alt_kind (H : ho_T) (w v : Nat) : ho_alt H (ho_set H 1 w v) w (ho_at (ho_row H w) 14 v) := by
  refine ⟨rfl, rfl, rfl, fun q => ho_set_i _ _ _ _ (by omega) _, fun q hq => ?_, ?_⟩
  · funext j
    unfold ho_row
    rw [ho_set_j _ _ _ _ hq, ho_set_i _ _ _ _ (by omega), ho_set_i _ _ _ _ (by omega)]
  · funext j
    unfold ho_row ho_at
    rw [ho_set_s, ho_set_i _ _ _ _ (by omega), ho_set_i _ _ _ _ (by omega)]
    by_cases h : j = 14
    · rw [if_pos h, if_pos h]
    · simp [h]
theorem ho_alt_more (H : ho_T) (w v : Nat) : ho_alt H (ho_set H 2 w v) w (ho_at (ho_row H w) 15 v) := by
  refine ⟨rfl, rfl, rfl, fun q => ho_set_i _ _ _ _ (by omega) _, fun q hq => ?_, ?_⟩
  · funext j
    unfold ho_row
    rw [ho_set_j _ _ _ _ hq, ho_set_j _ _ _ _ hq, ho_set_i _ _ _ _ (by omega)]
  · funext j
    unfold ho_row ho_at
    rw [ho_set_s, ho_set_i _ _ _ _ (by omega), ho_set_i _ _ _ _ (by omega)]
    by_cases h : j = 15
    · rw [if_pos h, if_neg (by omega), if_pos h]
    · simp [h]
theorem ho_alt_do (H : ho_T) (w : Nat) {h : Nat} (v : Nat) (hh : h < 12) : ho_alt H (ho_set H (10 + w) h v) w (ho_at (ho_row H w) h v) := by
  refine ⟨ho_set_i _ _ _ _ (by omega) _, ho_set_i _ _ _ _ (by omega) _, ho_set_i _ _ _ _ (by omega) _, fun q => ho_set_j _ _ _ _ (by omega) _, fun q hq => ?_, ho_row_set H w v (by omega)⟩
  funext j
  unfold ho_row
  rw [ho_set_i _ _ _ _ (by omega), ho_set_i _ _ _ _ (by omega), ho_set_i _ _ _ _ (by omega)]
/-- another law -/
theorem ho_comp_law (H : ho_T) (G : ho_G) (t m h : Nat) (hh : h < 12) : ho_comp (ho_set H 0 3 t) G m h = md_compO G t (H 0 1) (ho_row H m) (ho_mcell H m) (ho_mrow H m) h := by
  rw [ho_comp_md _ G m h hh, ho_set_s, ho_set_j _ _ _ _ (by decide)]
  have e0 : ho_set H 0 3 t 0 0 = H 0 0 := ho_set_j _ _ _ _ (by decide) _
  have e13 : ∀ q, ho_set H 0 3 t (10 + q) 13 = H (10 + q) 13 := fun q => ho_set_i _ _ _ _ (by omega) _
  have er : ∀ q, ho_row (ho_set H 0 3 t) q = ho_row H q := fun q => by
    funext j
    unfold ho_row
    rw [ho_set_i _ _ _ _ (by decide), ho_set_i _ _ _ _ (by decide), ho_set_i _ _ _ _ (by omega)]
  rw [er, ho_mcell_eq e0 e13]
  unfold ho_mrow
  rw [ho_mate_eq e0 e13, er]
/-! refusals of a sheet that should tell a day -/
def rf_s (K : ho_T) (s : Int32) : Int32 := if ho_rng (nI 0) s (nI 3) = true then (if K 4 (jn s) = 0 then -11 else if 12 < K 5 (jn s) then -2 else nI 0) else -2
def rf_d (H K : ho_T) (s m : Int32) : Int32 := if rf_s K s = nI 0 then (if ho_isM H m = true then nI 0 else -5) else rf_s K s
theorem rf_s_0 {K : ho_T} {s : Int32} (h : rf_s K s = nI 0) : ∃ s0, s = nI s0 ∧ s0 < 4 ∧ K 4 s0 ≠ 0 ∧ K 5 s0 ≤ 12 ∧ jn (nI s0) = s0 := by
  unfold rf_s at h
  by_cases h1 : ho_rng (nI 0) s (nI 3) = true
  · rw [if_pos h1] at h
    obtain ⟨s0, rfl, l1, l2, e⟩ := ho_rng_n h1 (by decide) (by decide)
    rw [e] at h
    by_cases h2 : K 4 s0 = 0
    · rw [if_pos h2] at h; exact absurd h (by decide)
    · rw [if_neg h2] at h
      by_cases h3 : 12 < K 5 s0
      · rw [if_pos h3] at h; exact absurd h (by decide)
      · exact ⟨s0, rfl, by omega, h2, by omega, e⟩
  · rw [if_neg h1] at h; exact absurd h (by decide)
theorem rf_d_0 {H K : ho_T} {s m : Int32} (h : rf_d H K s m = nI 0) : rf_s K s = nI 0 ∧ ho_isM H m = true := by
  unfold rf_d at h
  by_cases h1 : rf_s K s = nI 0
  · rw [if_pos h1] at h
    by_cases h2 : ho_isM H m = true
    · exact ⟨h1, h2⟩
    · rw [if_neg h2] at h; exact absurd h (by decide)
  · rw [if_neg h1] at h; exact absurd h h1
/-- the first hour that is otherwise -/
def fo_ (K : ho_T) (s : Nat) (f : Nat → Nat) : Option Nat := lo_find (fun h => decide (K (20 + s) h ≠ f h)) (K 5 s) 0
theorem fo_eq {K : ho_T} {s : Nat} {f g : Nat → Nat} (hz : K 5 s ≤ 12) (h : ∀ q, q < 12 → f q = g q) : fo_ K s f = fo_ K s g := lo_find_eq _ _ fun k _ hk => by rw [h k (by omega)]
theorem fo_lt {K : ho_T} {s : Nat} {f : Nat → Nat} (hz : K 5 s ≤ 12) : ∀ k, fo_ K s f = some k → k < 2 ^ 31 := fun k hk => by have := (lo_find_lt hk).1; omega
def ho_fo (H K : ho_T) (G : ho_G) (s m : Nat) : Option Nat := fo_ K s fun h => ho_comp H G m h
def ho_agr (H K : ho_T) (G : ho_G) (s m : Nat) : Bool := decide (ho_fo H K G s m = none)
def an_judge (H K : ho_T) (G : ho_G) (s m : Int32) : Int32 := if rf_d H K s m = nI 0 then pu_o (ho_fo H K G (jn s) (jn m)) else rf_d H K s m
def kn_w (H : ho_T) (m sort : Nat) : Option Nat := if sort < 2 then some m else ho_mate H m
def kn_b (H K : ho_T) (G : ho_G) (s m w sort : Nat) : Nat := lo_bits (fun v => ho_agr (ho_set H (if sort % 2 = 0 then 1 else 2) w v) K G s m) (if sort % 2 = 0 then 6 else 10)
def an_kinds (H K : ho_T) (G : ho_G) (s m sort : Int32) : Int32 := if rf_d H K s m = nI 0 then (if ho_rng (nI 0) sort (nI 3) = true then (match kn_w H (jn m) (jn sort) with
  | none => -6
  | some w => nI (kn_b H K G (jn s) (jn m) w (jn sort))) else -7) else rf_d H K s m
def dd_h (w : Int32) : Bool := ho_rng (nI 0) w (nI 11) || ho_rng (nI 100) w (nI 111)
def dd_w (H : ho_T) (m w : Nat) : Option Nat := if w < 100 then some m else ho_mate H m
def dd_b (H K : ho_T) (G : ho_G) (s m o h : Nat) : Nat := lo_bits (fun d => ho_agr (ho_set H (10 + o) h d) K G s m) 6
def an_did (H K : ho_T) (G : ho_G) (s m w : Int32) : Int32 := if rf_d H K s m = nI 0 then (if dd_h w = true then (match dd_w H (jn m) (jn w) with
  | none => -6
  | some o => nI (dd_b H K G (jn s) (jn m) o (jn w % 100))) else -7) else rf_d H K s m
def an_laws (H K : ho_T) (G : ho_G) (s m : Int32) : Int32 := if rf_d H K s m = nI 0 then nI (lo_bits (fun t => ho_agr (ho_set H 0 3 t) K G (jn s) (jn m)) (H 0 2)) else rf_d H K s m
def an_whose (H K : ho_T) (G : ho_G) (s : Int32) : Int32 := if rf_s K s = nI 0 then nI (lo_bits (fun m => ho_agr H K G (jn s) m) (H 0 0)) else rf_s K s
theorem ho_isM_m1 {H : ho_T} : ho_isM H (-1) = false := by
  unfold ho_isM ho_rng
  exact decide_eq_false (fun q => absurd q.1 (by decide))
theorem dd_lt {w : Int32} (h : w < nI 100) : dd_h w = ho_rng (nI 0) w (nI 11) := by
  unfold dd_h
  rw [show ho_rng (nI 100) w (nI 111) = false from decide_eq_false fun q => absurd (Int32.lt_of_le_of_lt q.1 h) (Int32.lt_irrefl), Bool.or_false]
theorem dd_ge {w : Int32} (h : ¬ w < nI 100) : dd_h w = ho_rng (nI 0) (w - nI 100) (nI 11) := by
  have h1 := Int32.le_iff_toInt_le.mp (Int32.not_lt.mp h)
  have hw := Int32.toInt_lt w
  have e100 : (nI 100).toInt = 100 := by decide
  have e111 : (nI 111).toInt = 111 := by decide
  have e11 : (nI 11).toInt = 11 := by decide
  have e0 : (nI 0).toInt = 0 := by decide
  have es : (w - nI 100).toInt = w.toInt - 100 := by
    rw [Int32.toInt_sub, e100, Int.bmod_def]
    omega
  unfold dd_h ho_rng
  rw [Bool.eq_iff_iff, Bool.or_eq_true, decide_eq_true_iff, decide_eq_true_iff, decide_eq_true_iff]
  simp only [Int32.le_iff_toInt_le, es, e0, e11, e100, e111] at h1 ⊢
  omega
theorem dd_100 {w : Int32} {j : Nat} (h : w - nI 100 = nI j) (hj : j ≤ 11) : w = nI (100 + j) := by
  have : w = (w - nI 100) + nI 100 := by rw [Int32.sub_add_cancel]
  rw [this, h, nI_add, Nat.add_comm]
/-! quiet hours -/
def ho_quiet (H : ho_T) (G : ho_G) (m h : Nat) : Bool := match ho_mate H m with
  | none => true
  | some o => decide (ho_comp H G m h = 0 ∧ ho_comp H G o h = 0)
def ho_qd (H : ho_T) (G : ho_G) (m h d : Nat) : Bool := ho_quiet (ho_set H (10 + m) h d) G m h
def ho_qb (H : ho_T) (G : ho_G) (m h : Nat) : Nat := lo_bits (fun d => ho_qd H G m h d) 6
/-! the mate of one's mate is oneself -/
theorem ho_mate_some {H : ho_T} (hv : ho_iv H) {m o : Nat} (hm : m < H 0 0) (h : H (10 + m) 13 = H (10 + o) 13 ^^^ 1) : ho_mate H o = some m := by
  cases e : ho_mate H o with
  | none =>
    exfalso
    have : ∀ (p : Nat → Bool) (j i : Nat), lo_find p j i = none → ∀ k, i ≤ k → k < i + j → p k = false := by
      intro p j
      induction j with
      | zero => intro i _ k h1 h2; omega
      | succ j ih =>
        intro i hn k h1 h2
        rw [lo_find] at hn
        cases hp : p i with
        | true => rw [hp] at hn; cases hn
        | false =>
          rw [hp] at hn
          rcases Nat.eq_or_lt_of_le h1 with q | q
          · rw [← q]; exact hp
          · exact ih (i + 1) hn k q (by omega)
    have := this _ _ _ e m (Nat.zero_le _) (by omega)
    exact absurd h (of_decide_eq_false this)
  | some q =>
    have h1 := ho_mate_pl1 e
    have h2 := ho_mate_lt e
    rw [hv.2 q m h2 hm (h1.trans h.symm)]
theorem ho_mate_sym {H : ho_T} (hv : ho_iv H) {m o : Nat} (hm : m < H 0 0) (h : ho_mate H m = some o) : ho_mate H o = some m := by
  refine ho_mate_some hv hm ?_
  rw [ho_mate_pl1 h, Nat.xor_assoc, Nat.xor_self, Nat.xor_zero]
theorem ho_qd_md {H : ho_T} (hv : ho_iv H) (G : ho_G) {m h : Nat} (d : Nat) (hm : m < H 0 0) (hh : h < 12) : ho_qd H G m h d = md_quietO G (H 0 3) (H 0 1) (ho_at (ho_row H m) h d) (ho_mcell H m) (ho_mrow H m) h := by
  have ea := ho_alt_do H m d hh
  unfold ho_qd ho_quiet md_quietO
  rw [ho_mate_eq ea.1 ea.2.2.2.1]
  have e1 := ho_alt_own (G := G) ea hh
  rw [e1]
  unfold ho_mcell ho_mrow
  cases e : ho_mate H m with
  | none => rfl
  | some o =>
    have e2 := ho_alt_mate (G := G) ea (ho_mate_sym hv hm e) hh
    dsimp only
    rw [e2]
    rfl
theorem ho_quiet_qd (H : ho_T) (G : ho_G) (m h : Nat) : ho_quiet H G m h = ho_qd H G m h (H (10 + m) h) := by unfold ho_qd; rw [ho_set_same]
