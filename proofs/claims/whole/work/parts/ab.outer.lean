/-! ===== THE LAW'S START: what stands outside, in the machine's words ===== -/
def so_ (i : Nat) : String := if i = 0 then "AloneTogether" else "AloneTogether$TextReader"
def sk_ (i : Nat) : Nat := if i = 0 then 75 else 124 + 2 * i
def st_m (i : Nat) : Jvm.Term := .string (so_ i) (sk_ i)
def st_v (i : Nat) : Jvm.Term := .field (st_m i) "java/lang/String" "value" "[B"
def nw_ : List Jvm.Cond := flatC (Jvm.Cond.and given_1 narrow_1)
def nb_ : Nat → Nat
  | 0 => 48
  | i + 1 => nb_ i + 4 + im_sln.getD i 0 + i
theorem nw_1 : ∀ i, i < 13 → nw_[nb_ i]? = some (Jvm.Cond.exactly (st_m i) "java/lang/String") ∧ nw_[nb_ i + 1]? = some (Jvm.Cond.eq (.field (st_m i) "java/lang/String" "coder" "B") (.int 0)) ∧ nw_[nb_ i + 2]? = some (Jvm.Cond.arrayOf (st_v i) .byte) ∧ nw_[nb_ i + 3]? = some (Jvm.Cond.eq (.length (st_v i)) (.int (Int32.ofNat (im_sln.getD i 0)))) := by decide +kernel
theorem nw_2 : ∀ i, i < 13 → ∀ j, j < im_sln.getD i 0 → nw_[nb_ i + 4 + j]? = some (Jvm.Cond.eq (.elem (st_v i) (.int (Int32.ofNat j))) (.int ((im_byt.getD i []).getD j 0))) := by decide +kernel
theorem nw_3 : ∀ i, i < 13 → ∀ j, j < i → nw_[nb_ i + 4 + im_sln.getD i 0 + j]? = some (Jvm.Cond.not (Jvm.Cond.eq (st_m j) (st_m i))) := by decide +kernel
def ab_m : Jvm.Term := .static "AloneTogether$Kind" "ABOVE" "[I"
theorem nw_4 : nw_[10]? = some (Jvm.Cond.arrayOf ab_m .int) ∧ nw_[11]? = some (Jvm.Cond.eq (.length ab_m) (.int (Int32.ofNat 6))) ∧ (∀ j, j < 6 → nw_[12 + j]? = some (Jvm.Cond.eq (.elem ab_m (.int (Int32.ofNat j))) (.int (([0, 0, 0, 1, 2, 0] : List Int32).getD j 0)))) ∧ nw_[4]? = some (Jvm.Cond.eq (.static "java/lang/String" "COMPACT_STRINGS" "Z") (.int 1)) ∧ nw_[5]? = some (Jvm.Cond.isRef (.static "jdk/internal/util/Preconditions" "SIOOBE_FORMATTER" "Ljava/util/function/BiFunction;")) := by decide +kernel
theorem nw_len : ∀ i, i < 13 → im_sln.getD i 0 < 2 ^ 31 := by decide
def sr_ok (w : Jvm.Cond) : Bool := match w with
  | .stringRef o k t => (List.range 13).all fun i => !decide (t = im_str i) || (decide (o = so_ i) && decide (k = sk_ i))
  | _ => true
theorem sr_all : lw_tbl.all sr_ok = true := by decide +kernel
theorem sr_one {own : String} {k i : Nat} (hi : i < 13) (h : Jvm.Cond.stringRef own k (im_str i) ∈ lw_tbl) : own = so_ i ∧ k = sk_ i := by
  have h1 : ((List.range 13).all fun q => !decide (im_str i = im_str q) || (decide (own = so_ q) && decide (k = sk_ q))) = true := List.all_eq_true.mp sr_all _ h
  have h2 := List.all_eq_true.mp h1 i (List.mem_range.mpr hi)
  rw [decide_eq_true (rfl : im_str i = im_str i), Bool.not_true, Bool.false_or, Bool.and_eq_true] at h2
  exact ⟨of_decide_eq_true h2.1, of_decide_eq_true h2.2⟩
theorem nw_w : Jvm.Cond.laysStatic "AloneTogether$Kind" "ABOVE" "[I" ∈ lw_tbl ∧ Jvm.Cond.initialized "AloneTogether$Kind" ∈ lw_tbl ∧ Jvm.Cond.laysStatic "java/lang/String" "COMPACT_STRINGS" "Z" ∈ lw_tbl ∧ Jvm.Cond.initialized "java/lang/String" ∈ lw_tbl ∧ Jvm.Cond.laysStatic "jdk/internal/util/Preconditions" "SIOOBE_FORMATTER" "Ljava/util/function/BiFunction;" ∈ lw_tbl ∧ Jvm.Cond.initialized "jdk/internal/util/Preconditions" ∈ lw_tbl := by decide +kernel
theorem nw_i : ∀ a, a < 10 → Jvm.Cond.instantiable (im_C a) (im_nf a) ∈ lw_tbl := by decide +kernel
theorem xf_start {s : State} {b LL : Nat} {xs : Nat → Int32} (hgv : (Jvm.Cond.and given_1 narrow_1).before #[Value.ref b] s = true) (hts : ∀ w ∈ lw_tbl, w.before #[Value.ref b] s = true) (hX : va_X b LL xs s s.heap) (hb : b < s.heap.size) : ∃ ad : Nat → Nat, ad 0 = b ∧ im_XF xs LL (fun q : Nat => s.heap.size ≤ q) ad s s.heap := by
  have hA : ∀ a : Nat, a < s.heap.size → ¬ (fun q : Nat => s.heap.size ≤ q) a := fun a h => Nat.not_le.mpr h
  have hs : ∀ w ∈ nw_, w.before #[Value.ref b] s = true := flat_of_before _ hgv
  have hg : ∀ {k : Nat} {w : Jvm.Cond}, nw_[k]? = some w → w.before #[Value.ref b] s = true := fun h => hs _ (List.mem_of_getElem? h)
  obtain ⟨adK, adV, hS, hE⟩ := vk_Sof (args := #[Value.ref b]) (s := s) (N := 13) (tm := st_m) (len := im_sln) (byt := im_byt) (A := fun q : Nat => s.heap.size ≤ q) nw_len (fun i hi => hg (nw_1 i hi).1) (fun i hi => hg (nw_1 i hi).2.1) (fun i hi => hg (nw_1 i hi).2.2.1) (fun i hi => hg (nw_1 i hi).2.2.2) (fun i hi j hj => hg (nw_2 i hi j hj)) (fun i j hi hj hij => by
    rcases Nat.lt_or_ge i j with h | h
    · exact Or.inl (hg (nw_3 j hj i h))
    · exact Or.inr (hg (nw_3 i hi j (by omega)))) hA
  obtain ⟨tA, htA, hTA⟩ := va_Tof (args := #[Value.ref b]) (s := s) (tm := ab_m) (ty := .int) (N := 6) (f := fun j => .int (im_xi xs 1 j)) (A := fun q : Nat => s.heap.size ≤ q) (by decide) (hg nw_4.1) (va_eqt (hg nw_4.2.1)) (fun j hj => va_eqt (hg (nw_4.2.2.1 j hj))) hA
  have hZA := va_Zof (v := .ref tA) (A := fun q : Nat => s.heap.size ≤ q) (hts _ nw_w.1) (hts _ nw_w.2.1) htA hA
  have hZC := va_Zof (v := .int 1) (A := fun q : Nat => s.heap.size ≤ q) (hts _ nw_w.2.2.1) (hts _ nw_w.2.2.2.1) (va_eqt (hg nw_4.2.2.2.1)) hA
  have hZF := va_Zqof (A := fun q : Nat => s.heap.size ≤ q) (hts _ nw_w.2.2.2.2.1) (hts _ nw_w.2.2.2.2.2) (hg nw_4.2.2.2.2) hA
  obtain ⟨tF, hZF⟩ : ∃ tF : Nat, va_Z "jdk/internal/util/Preconditions" "SIOOBE_FORMATTER" "Ljava/util/function/BiFunction;" .null (fun q : Nat => s.heap.size ≤ q) s s.heap ∨ va_Z "jdk/internal/util/Preconditions" "SIOOBE_FORMATTER" "Ljava/util/function/BiFunction;" (.ref tF) (fun q : Nat => s.heap.size ≤ q) s s.heap := by
    rcases hZF with h | ⟨t, h⟩
    · exact ⟨0, Or.inl h⟩
    · exact ⟨t, Or.inr h⟩
  obtain ⟨ad, e0, e1, e2, e3, e4⟩ : ∃ ad : Nat → Nat, ad 0 = b ∧ ad 1 = tA ∧ ad 2 = tF ∧ (∀ i, i < 13 → ad (3 + i) = adK i) ∧ ∀ i, ad (16 + i) = adV i := by
    refine ⟨fun k => if k = 0 then b else if k = 1 then tA else if k = 2 then tF else if k < 16 then adK (k - 3) else adV (k - 16), rfl, rfl, rfl, fun i hi => ?_, fun i => ?_⟩
    · dsimp only
      rw [if_neg (by omega), if_neg (by omega), if_neg (by omega), if_pos (by omega), Nat.add_sub_cancel_left]
    · dsimp only
      rw [if_neg (by omega), if_neg (by omega), if_neg (by omega), if_neg (by omega), Nat.add_sub_cancel_left]
  refine ⟨ad, e0, ?_, ?_, ?_, hZC, ?_, ⟨fun i hi => ?_, fun i j hi hj e => ?_⟩, fun own k i hi hw => ?_⟩
  · obtain ⟨scr, g1, g2, g3, g4, g5⟩ := hX
    exact ⟨scr, by rw [e0]; exact g1, g2, g3, Nat.le_of_eq g4.symm, by rw [g4], g5, by rw [e0]; exact hA b hb⟩
  · rw [e1]; exact hTA
  · rw [e1]; exact hZA
  · rw [e2]; exact hZF
  · have h := hS.1 i hi
    simp only [e3 i hi, e4 i]
    exact h
  · simp only [e3 i hi, e3 j hj] at e
    exact hS.2 i j hi hj e
  · obtain ⟨rfl, rfl⟩ := sr_one hi hw
    rw [e3 i hi]
    exact vk_R.of (hts _ hw) (hE i hi)
theorem kn_start {s : State} {b : Nat} (hts : ∀ w ∈ lw_tbl, w.before #[Value.ref b] s = true) : ∃ D : va_G, va_K D im_cl [] s := by
  have h0 : ∀ a : Nat, ∃ p : ClassId × (Nat → Nat), ∀ q, im_cl[a]? = some q → u_Kn s q.1 q.2.1 q.2.2 p.1 p.2 := by
    intro a
    by_cases ha : a < 10
    · obtain ⟨cC, iS, hk⟩ := u_known (C := im_C a) (T := im_T a) (N := im_nf a) (n := im_nf a) hts (fun w hw => (List.mem_filter.mp (im_uw a ha w hw)).1) (hts _ (nw_i a ha))
      exact ⟨(cC, iS), fun q h => by rw [im_cl_get a ha] at h; cases h; exact hk⟩
    · refine ⟨(0, fun _ => 0), fun q h => ?_⟩
      have := (List.getElem?_eq_some_iff.mp h).1
      exact absurd (show a < 10 from this) ha
  obtain ⟨f, hf⟩ := Classical.axiomOfChoice h0
  exact ⟨(fun a => (f a).1, fun a => (f a).2), fun c q h => hf c q h, fun k q h => by simp at h⟩
