/-! ===== PURE: all rules beside the stack; codes are few, and well formed ===== -/
theorem op_mul_1 (k : Nat) (h : op_mul k ≠ 0) : k = 42 ∧ op_mul k = 18 := by
  unfold op_mul at h ⊢
  by_cases c : k = 42
  · exact ⟨c, if_pos c⟩
  · rw [if_neg c] at h; exact absurd rfl h
theorem op_and_1 (k : Nat) (h : op_and k ≠ 0) : k = 8 ∧ op_and k = 12 := by
  unfold op_and at h ⊢
  by_cases c : k = 8
  · exact ⟨c, if_pos c⟩
  · rw [if_neg c] at h; exact absurd rfl h
theorem op_or_1 (k : Nat) (h : op_or k ≠ 0) : k = 7 ∧ op_or k = 11 := by
  unfold op_or at h ⊢
  by_cases c : k = 7
  · exact ⟨c, if_pos c⟩
  · rw [if_neg c] at h; exact absurd rfl h
theorem op_add_2 (k : Nat) (h : op_add k ≠ 0) : (k = 43 ∧ op_add k = 16) ∨ (k = 45 ∧ op_add k = 17) := by
  unfold op_add at h ⊢
  by_cases c : k = 43
  · exact Or.inl ⟨c, if_pos c⟩
  · rw [if_neg c] at h ⊢
    by_cases c2 : k = 45
    · exact Or.inr ⟨c2, if_pos c2⟩
    · rw [if_neg c2] at h; exact absurd rfl h
theorem op_mul_0 {k : Nat} (h : op_mul k = 0) : k ≠ 42 := fun e => by rw [e] at h; exact absurd h (by decide)
theorem op_and_0 {k : Nat} (h : op_and k = 0) : k ≠ 8 := fun e => by rw [e] at h; exact absurd h (by decide)
theorem op_or_0 {k : Nat} (h : op_or k = 0) : k ≠ 7 := fun e => by rw [e] at h; exact absurd h (by decide)
theorem op_add_0 {k : Nat} (h : op_add k = 0) : k ≠ 43 ∧ k ≠ 45 := ⟨fun e => by rw [e] at h; exact absurd h (by decide), fun e => by rw [e] at h; exact absurd h (by decide)⟩
section YC
variable {K V F T : Nat → Nat} {z : Nat}
theorem prod_ok {n : Nat} {s : pd_S} (hz : z ≤ 160) (hT : ya_T K T z) (h : ya_OK K V F T z n 7 (pd_one K V F T s)) : ya_OK K V F T z n 6 (pd_prod K V F T s) :=
  ya_chain hz hT h (by decide) (by decide) (by decide) (fun k h0 => by obtain ⟨e1, e2⟩ := op_mul_1 k h0; rw [e2, e1]; decide) (fun k h0 => by rw [(op_mul_1 k h0).1]; decide) (fun k h0 w => absurd w (by decide)) (fun k h0 _ => by rw [(op_mul_1 k h0).2]; decide) (by decide) (by decide) (fun k h0 => by rw [(op_mul_1 k h0).2]; decide) (by decide)
    (fun q C S _ h0 => ⟨fun _ => op_mul_0 h0, fun w => absurd w (by decide), fun w => absurd w (by decide), fun w => absurd w (by decide), fun w => absurd w (by decide)⟩)
theorem sum_ok {n : Nat} {s : pd_S} (hz : z ≤ 160) (hT : ya_T K T z) (h : ya_OK K V F T z n 6 (pd_prod K V F T s)) : ya_OK K V F T z n 5 (pd_sum K V F T s) :=
  ya_chain hz hT h (by decide) (by decide) (by decide) (fun k h0 => by rcases op_add_2 k h0 with ⟨e1, e2⟩ | ⟨e1, e2⟩ <;> (rw [e2, e1]; decide)) (fun k h0 => by rcases op_add_2 k h0 with ⟨e1, e2⟩ | ⟨e1, e2⟩ <;> (rw [e1]; decide)) (fun k h0 w => absurd w (by decide)) (fun k h0 _ => by rcases op_add_2 k h0 with ⟨e1, e2⟩ | ⟨e1, e2⟩ <;> (rw [e2]; decide)) (by decide) (by decide) (fun k h0 => by rcases op_add_2 k h0 with ⟨e1, e2⟩ | ⟨e1, e2⟩ <;> (rw [e2]; decide)) (by decide)
    (fun q C S hn h0 => ⟨fun _ => hn.1 (by decide), fun _ => op_add_0 h0, fun w => absurd w (by decide), fun w => absurd w (by decide), fun w => absurd w (by decide)⟩)
theorem both_ok {n : Nat} {s : pd_S} (hz : z ≤ 160) (hT : ya_T K T z) (h : ya_OK K V F T z n 3 (pd_neg K V F T s)) : ya_OK K V F T z n 2 (pd_both K V F T s) :=
  ya_chain hz hT h (by decide) (by decide) (by decide) (fun k h0 => by obtain ⟨e1, e2⟩ := op_and_1 k h0; rw [e2, e1]; decide) (fun k h0 => by rw [(op_and_1 k h0).1]; decide) (fun k h0 _ => by rw [(op_and_1 k h0).2]; decide) (fun k h0 w => absurd w (by decide)) (by decide) (by decide) (fun k h0 => by rw [(op_and_1 k h0).2]; decide) (by decide)
    (fun q C S hn h0 => ⟨fun _ => hn.1 (by decide), fun _ => hn.2.1 (by decide), fun _ => hn.2.2.1 (by decide), fun _ => op_and_0 h0, fun w => absurd w (by decide)⟩)
theorem ei_ok {n : Nat} {s : pd_S} (hz : z ≤ 160) (hT : ya_T K T z) (h : ya_OK K V F T z n 2 (pd_both K V F T s)) : ya_OK K V F T z n 1 (pd_ei K V F T s) :=
  ya_chain hz hT h (by decide) (by decide) (by decide) (fun k h0 => by obtain ⟨e1, e2⟩ := op_or_1 k h0; rw [e2, e1]; decide) (fun k h0 => by rw [(op_or_1 k h0).1]; decide) (fun k h0 _ => by rw [(op_or_1 k h0).2]; decide) (fun k h0 w => absurd w (by decide)) (by decide) (by decide) (fun k h0 => by rw [(op_or_1 k h0).2]; decide) (by decide)
    (fun q C S hn h0 => ⟨fun _ => hn.1 (by decide), fun _ => hn.2.1 (by decide), fun _ => hn.2.2.1 (by decide), fun _ => hn.2.2.2.1 (by decide), fun _ => op_or_0 h0⟩)
theorem fam_ok (hz : z ≤ 160) (hT : ya_T K T z) : ∀ n, ya_OK K V F T z n 7 (pd_one K V F T (pd_sub K V F T n)) ∧ ya_OK K V F T z n 3 (pd_neg K V F T (pd_sub K V F T n)) ∧ ya_OK K V F T z n 1 (pd_ei K V F T (pd_sub K V F T n))
  | 0 => by
    have h1 : ya_OK K V F T z 0 7 (pd_one K V F T (pd_sub K V F T 0)) := one_ok hT (Or.inl ⟨rfl, rfl⟩)
    have h3 : ya_OK K V F T z 0 3 (pd_neg K V F T (pd_sub K V F T 0)) := neg_ok hT (cmp_ok hT (sum_ok hz hT (prod_ok hz hT h1))) (Or.inl ⟨rfl, rfl⟩)
    exact ⟨h1, h3, ei_ok hz hT (both_ok hz hT h3)⟩
  | n + 1 => by
    obtain ⟨i1, i3, i5⟩ := fam_ok hz hT n
    have h1 : ya_OK K V F T z (n + 1) 7 (pd_one K V F T (pd_sub K V F T (n + 1))) := one_ok hT (Or.inr ⟨n, _, _, _, rfl, rfl, i1, i5⟩)
    have h3 : ya_OK K V F T z (n + 1) 3 (pd_neg K V F T (pd_sub K V F T (n + 1))) := neg_ok hT (cmp_ok hT (sum_ok hz hT (prod_ok hz hT h1))) (Or.inr ⟨n, _, _, _, rfl, rfl, i3⟩)
    exact ⟨h1, h3, ei_ok hz hT (both_ok hz hT h3)⟩
/-- an E and the ; behind it -/
def pd_E (K V F T : Nat → Nat) (p : Nat) : pd_R := pd_bind (pd_ei K V F T (pd_sub K V F T 5) p) fun q cs => if K q = 59 then .inr (T q, cs) else .inl (F q)
def pd_C (C : List Nat) (a : pd_R) : pd_R := match a with
  | .inl f => .inl f
  | .inr q => .inr (q.1, C ++ q.2)
theorem ya_top (hz : z ≤ 160) (hT : ya_T K T z) {p : Nat} (hp : p ≤ z) (C : List Nat) : ya_run K V F T (z + 2) (p, C, [], true, true) = some (pd_C C (pd_E K V F T p)) := by
  have h := (fam_ok (V := V) (F := F) hz hT 5).2.2 p C [] true hp (fun _ => rfl) (fun w => absurd w (by decide)) trivial rfl
  unfold pd_E
  cases hr : pd_ei K V F T (pd_sub K V F T 5) p with
  | inl f =>
    rw [hr] at h
    obtain ⟨k, hk, hr2⟩ := h
    have := hr2 (z + 2 - k)
    rw [show z + 2 - k + k = z + 2 by omega] at this
    exact this
  | inr a =>
    rw [hr] at h
    obtain ⟨g1, g2, k, m2, C2, S2, hk, hr2, he, hn⟩ := h
    have hu : ya_unw 1 C2 S2 = (C ++ a.2, []) := he 1 (by decide) (Nat.le_refl _)
    have := hr2 (z + 1 - k + 1)
    rw [show z + 1 - k + 1 + k = z + 2 by omega] at this
    rw [this]
    show _ = some (pd_C C (if K a.1 = 59 then .inr (T a.1, a.2) else .inl (F a.1)))
    by_cases c : K a.1 = 59
    · rw [if_pos c]
      refine run_e ?_
      show ya_have K F T a.1 C2 S2 m2 = _
      unfold ya_have
      rw [if_pos c]
      simp only [hu, if_true]
      rfl
    · rw [if_neg c]
      by_cases c2 : K a.1 = 41
      · refine run_e ?_
        show ya_have K F T a.1 C2 S2 m2 = _
        unfold ya_have
        rw [if_neg c, if_pos c2]
        simp only [hu]
        rfl
      · exact run_e (have_bad hn c2 (fun w => absurd w c))
/-! how many codes; how deep -/
def te_wf (D : Nat) (cs : List Nat) : Prop := ∀ n l, n + D ≤ 32 → te_ok n (cs ++ l) = te_ok (n + 1) l
def pd_W (D : Nat) (x : pd_X) (z : Nat) : Prop := ∀ p q cs, p ≤ z → x p = .inr (q, cs) → p < q ∧ q ≤ z ∧ cs.length ≤ q - p ∧ te_wf D cs
theorem te_wf_mono {D D2 : Nat} {cs : List Nat} (h : te_wf D cs) (hd : D ≤ D2) : te_wf D2 cs := fun n l hn => h n l (by omega)
theorem te_wf_two {D D2 : Nat} {a b : List Nat} {c : Nat} (ha : te_wf D2 a) (hb : te_wf D b) (hd : D + 1 ≤ D2) (hc : c = 11 ∨ c = 12 ∨ c = 14 ∨ c = 15 ∨ c = 16 ∨ c = 17 ∨ c = 18) : te_wf D2 (a ++ b ++ [c]) := by
  intro n l hn
  rw [List.append_assoc, List.append_assoc, ha n _ hn, hb (n + 1) _ (by omega)]
  show (te_okc (n + 1 + 1) c && te_ok (te_dep (n + 1 + 1) c) l) = te_ok (n + 1) l
  have h1 : te_okc (n + 1 + 1) c = true := by
    unfold te_okc
    rw [if_neg (by omega), if_neg (by omega), if_neg (by omega), Bool.and_eq_true]
    exact ⟨decide_eq_true (by omega), decide_eq_true hc⟩
  have h2 : te_dep (n + 1 + 1) c = n + 1 := by
    unfold te_dep
    rw [if_neg (by omega), if_neg (by omega)]
    omega
  rw [h1, h2]; rfl
theorem te_wf_one {D : Nat} {a : List Nat} {c : Nat} (ha : te_wf D a) (hc : c = 13 ∨ c = 19) : te_wf D (a ++ [c]) := by
  intro n l hn
  rw [List.append_assoc, ha n _ hn]
  show (te_okc (n + 1) c && te_ok (te_dep (n + 1) c) l) = te_ok (n + 1) l
  have h1 : te_okc (n + 1) c = true := by
    unfold te_okc
    rw [if_neg (by omega), if_neg (by omega), if_pos hc]
    exact decide_eq_true (by omega)
  have h2 : te_dep (n + 1) c = n + 1 := by
    unfold te_dep
    rw [if_neg (by omega), if_pos hc]
  rw [h1, h2]; rfl
theorem te_wf_code {c : Nat} (hc : c < 6 ∨ (100000 ≤ c ∧ c < 110000)) : te_wf 1 [c] := by
  intro n l hn
  show (te_okc n c && te_ok (te_dep n c) l) = te_ok (n + 1) l
  have h1 : te_okc n c = true := by
    unfold te_okc
    rcases hc with h | h
    · rw [if_neg (by omega), if_pos (by omega), Bool.and_eq_true]
      exact ⟨decide_eq_true h, decide_eq_true (by omega)⟩
    · rw [if_pos h.1, Bool.and_eq_true]
      exact ⟨decide_eq_true h.2, decide_eq_true (by omega)⟩
  have h2 : te_dep n c = n + 1 := by
    unfold te_dep
    rw [if_pos (by omega)]
  rw [h1, h2]; rfl
theorem bind_inr {a : pd_R} {f : Nat → List Nat → pd_R} {q : Nat × List Nat} (h : pd_bind a f = .inr q) : ∃ e, a = .inr e ∧ f e.1 e.2 = .inr q := by
  cases a with
  | inl e => cases h
  | inr e => exact ⟨e, rfl, h⟩
theorem loop_W {op : Nat → Nat} {x : pd_X} {D D2 : Nat} (hT : ya_T K T z) (hx : pd_W D x z) (hd : D + 1 ≤ D2) (hop : ∀ k, op k ≠ 0 → k ≠ 0 ∧ (op k = 11 ∨ op k = 12 ∨ op k = 14 ∨ op k = 15 ∨ op k = 16 ∨ op k = 17 ∨ op k = 18)) : ∀ (j p0 p q : Nat) (cs c2 : List Nat), p0 < p → p ≤ z → cs.length ≤ p - p0 → te_wf D2 cs → pd_loop K T op x j p cs = .inr (q, c2) → p0 < q ∧ q ≤ z ∧ c2.length ≤ q - p0 ∧ te_wf D2 c2
  | 0, p0, p, q, cs, c2, h1, h2, h3, h4, h => by cases h; exact ⟨h1, h2, h3, h4⟩
  | j + 1, p0, p, q, cs, c2, h1, h2, h3, h4, h => by
    rw [pd_loop] at h
    by_cases h0 : op (K p) = 0
    · rw [if_pos h0] at h
      cases h
      exact ⟨h1, h2, h3, h4⟩
    · rw [if_neg h0] at h
      obtain ⟨e, he, h⟩ := bind_inr h
      obtain ⟨k0, ko⟩ := hop _ h0
      obtain ⟨t1, t2⟩ := hT p h2 k0
      obtain ⟨g1, g2, g3, g4⟩ := hx (T p) e.1 e.2 t2 he
      exact loop_W hT hx hd hop j p0 e.1 q _ c2 (by omega) g2 (by simp only [List.length_append, List.length_cons, List.length_nil]; omega) (te_wf_two h4 g4 hd ko) h
theorem chain_W {op : Nat → Nat} {x : pd_X} {D D2 j : Nat} (hT : ya_T K T z) (hx : pd_W D x z) (hd : D + 1 ≤ D2) (hop : ∀ k, op k ≠ 0 → k ≠ 0 ∧ (op k = 11 ∨ op k = 12 ∨ op k = 14 ∨ op k = 15 ∨ op k = 16 ∨ op k = 17 ∨ op k = 18)) : pd_W D2 (pd_ch K T op j x) z := by
  intro p q cs hp h
  obtain ⟨e, he, h⟩ := bind_inr h
  obtain ⟨g1, g2, g3, g4⟩ := hx p e.1 e.2 hp he
  exact loop_W hT hx hd hop j p e.1 q _ cs g1 g2 g3 (te_wf_mono g4 (by omega)) h
/-- numbers and names have small values -/
def ya_V (K V : Nat → Nat) : Prop := (∀ p, K p = 2 → V p < 10000) ∧ ∀ p, K p = 3 → V p < 6
theorem one_W {D : Nat} {s : pd_S} (hT : ya_T K T z) (hV : ya_V K V) (hD : 1 ≤ D) (hs : s = none ∨ ∃ a b c, s = some (a, b, c) ∧ pd_W D b z ∧ pd_W D c z) : pd_W D (pd_one K V F T s) z := by
  intro p q cs hp h
  unfold pd_one at h
  by_cases h2 : K p = 2 ∨ K p = 3
  · rw [if_pos h2] at h
    cases h
    obtain ⟨t1, t2⟩ := hT p hp (by omega)
    refine ⟨t1, t2, by show 1 ≤ T p - p; omega, te_wf_mono (te_wf_code ?_) hD⟩
    unfold pd_code
    by_cases c : K p = 2
    · rw [if_pos c]; have := hV.1 p c; exact Or.inr ⟨by omega, by omega⟩
    · rw [if_neg c]; exact Or.inl (hV.2 p (by omega))
  · rw [if_neg h2] at h
    by_cases h45 : K p = 45
    · rw [if_pos h45] at h
      obtain ⟨t1, t2⟩ := hT p hp (by omega)
      rcases hs with rfl | ⟨a, b, c, rfl, hb, hc⟩
      · cases h
      · obtain ⟨e, he, h⟩ := bind_inr h
        cases h
        obtain ⟨g1, g2, g3, g4⟩ := hb (T p) e.1 e.2 t2 he
        exact ⟨by omega, g2, by simp only [List.length_append, List.length_cons, List.length_nil]; omega, te_wf_one g4 (Or.inr rfl)⟩
    · rw [if_neg h45] at h
      by_cases h40 : K p = 40
      · rw [if_pos h40] at h
        obtain ⟨t1, t2⟩ := hT p hp (by omega)
        rcases hs with rfl | ⟨a, b, c, rfl, hb, hc⟩
        · cases h
        · obtain ⟨e, he, h⟩ := bind_inr h
          obtain ⟨g1, g2, g3, g4⟩ := hc (T p) e.1 e.2 t2 he
          by_cases h41 : K e.1 = 41
          · rw [if_pos h41] at h
            cases h
            obtain ⟨v1, v2⟩ := hT e.1 g2 (by omega)
            exact ⟨by omega, v2, by omega, g4⟩
          · rw [if_neg h41] at h
            cases h
      · rw [if_neg h40] at h
        cases h
theorem neg_W {D : Nat} {s : pd_S} (hT : ya_T K T z) (hc : pd_W D (pd_cmp K V F T s) z) (hs : s = none ∨ ∃ a b c, s = some (a, b, c) ∧ pd_W D a z) : pd_W D (pd_neg K V F T s) z := by
  intro p q cs hp h
  unfold pd_neg at h
  by_cases h9 : K p = 9
  · rw [if_pos h9] at h
    obtain ⟨t1, t2⟩ := hT p hp (by omega)
    rcases hs with rfl | ⟨a, b, c, rfl, ha⟩
    · cases h
    · obtain ⟨e, he, h⟩ := bind_inr h
      cases h
      obtain ⟨g1, g2, g3, g4⟩ := ha (T p) e.1 e.2 t2 he
      exact ⟨by omega, g2, by simp only [List.length_append, List.length_cons, List.length_nil]; omega, te_wf_one g4 (Or.inl rfl)⟩
  · rw [if_neg h9] at h
    exact hc p q cs hp h
theorem pd_W_mono {D D2 : Nat} {x : pd_X} (h : pd_W D x z) (hd : D ≤ D2) : pd_W D2 x z := fun p q cs hp hx => by
  obtain ⟨g1, g2, g3, g4⟩ := h p q cs hp hx
  exact ⟨g1, g2, g3, te_wf_mono g4 hd⟩
theorem fam_W (hT : ya_T K T z) (hV : ya_V K V) : ∀ n, pd_W (5 * n + 1) (pd_one K V F T (pd_sub K V F T n)) z ∧ pd_W (5 * n + 4) (pd_neg K V F T (pd_sub K V F T n)) z ∧ pd_W (5 * n + 6) (pd_ei K V F T (pd_sub K V F T n)) z := by
  have rest : ∀ (s : pd_S) (D : Nat), pd_W D (pd_one K V F T s) z → (s = none ∨ ∃ a b c, s = some (a, b, c) ∧ pd_W (D + 3) a z) → pd_W (D + 3) (pd_neg K V F T s) z ∧ pd_W (D + 5) (pd_ei K V F T s) z := by
    intro s D h1 hs
    have hp : pd_W (D + 1) (pd_prod K V F T s) z := chain_W hT h1 (by omega) (fun k h0 => by obtain ⟨e1, e2⟩ := op_mul_1 k h0; rw [e2, e1]; decide)
    have hsu : pd_W (D + 2) (pd_sum K V F T s) z := chain_W hT hp (by omega) (fun k h0 => by rcases op_add_2 k h0 with ⟨e1, e2⟩ | ⟨e1, e2⟩ <;> (rw [e2, e1]; decide))
    have hc : pd_W (D + 3) (pd_cmp K V F T s) z := chain_W hT hsu (by omega) (fun k h0 => by rcases op_cmp_2 h0 with ⟨e1, e2⟩ | ⟨e1, e2⟩ <;> (rw [e2, e1]; decide))
    have hn := neg_W hT hc hs
    have hb : pd_W (D + 4) (pd_both K V F T s) z := chain_W hT hn (by omega) (fun k h0 => by obtain ⟨e1, e2⟩ := op_and_1 k h0; rw [e2, e1]; decide)
    exact ⟨hn, chain_W hT hb (by omega) (fun k h0 => by obtain ⟨e1, e2⟩ := op_or_1 k h0; rw [e2, e1]; decide)⟩
  intro n
  induction n with
  | zero =>
    have h1 : pd_W 1 (pd_one K V F T (pd_sub K V F T 0)) z := one_W hT hV (Nat.le_refl _) (Or.inl rfl)
    exact ⟨h1, rest _ 1 h1 (Or.inl rfl)⟩
  | succ n ih =>
    obtain ⟨i1, i3, i5⟩ := ih
    have h1 : pd_W (5 * (n + 1) + 1) (pd_one K V F T (pd_sub K V F T (n + 1))) z := one_W hT hV (by omega) (Or.inr ⟨_, _, _, rfl, pd_W_mono i1 (by omega), pd_W_mono i5 (by omega)⟩)
    exact ⟨h1, rest _ _ h1 (Or.inr ⟨_, _, _, rfl, pd_W_mono i3 (by omega)⟩)⟩
theorem pd_E_W (hT : ya_T K T z) (hV : ya_V K V) {p q : Nat} {cs : List Nat} (hp : p ≤ z) (h : pd_E K V F T p = .inr (q, cs)) : p < q ∧ q ≤ z ∧ cs.length + 1 ≤ q - p ∧ te_ok 0 cs = true := by
  obtain ⟨e, he, h⟩ := bind_inr h
  obtain ⟨g1, g2, g3, g4⟩ := (fam_W (F := F) hT hV 5).2.2 p e.1 e.2 hp he
  by_cases c : K e.1 = 59
  · rw [if_pos c] at h
    cases h
    obtain ⟨t1, t2⟩ := hT e.1 g2 (by omega)
    refine ⟨by omega, t2, by omega, ?_⟩
    have := g4 0 [] (by decide)
    rw [List.append_nil] at this
    rw [this]; rfl
  · rw [if_neg c] at h
    cases h
end YC
