/-! ===== PURE: each rule beside the stack of signs ===== -/
section YB
variable {K V F T : Nat → Nat} {z : Nat}
theorem ya_rk4 {s : Nat} (h : s = 14 ∨ s = 15) : ya_rk s = 4 := by rcases h with rfl | rfl <;> rfl
theorem op_cmp_2 {k : Nat} (h : op_cmp k ≠ 0) : (k = 60 ∧ op_cmp k = 14) ∨ (k = 61 ∧ op_cmp k = 15) := by
  unfold op_cmp at h ⊢
  by_cases c : k = 60
  · exact Or.inl ⟨c, if_pos c⟩
  · rw [if_neg c] at h ⊢
    by_cases c2 : k = 61
    · exact Or.inr ⟨c2, if_pos c2⟩
    · rw [if_neg c2] at h; exact absurd rfl h
theorem have_bad {q : Nat} {C S : List Nat} {m : Bool} (hn : ya_NF K 1 q C S) (h41 : K q ≠ 41) (h59 : K q = 59 → (ya_unw 1 C S).2 ≠ []) : ya_step K V F T (q, C, S, false, m) = .inr (.inl (F q)) := by
  show ya_have K F T q C S m = _
  unfold ya_have
  by_cases c : K q = 59
  · rw [if_pos c]
    exact if_neg (h59 c)
  · rw [if_neg c, if_neg h41]
    by_cases c2 : op_all (K q) = 0
    · rw [if_pos c2]
    · rw [if_neg c2]
      obtain ⟨n1, n2, n3, n4, n5⟩ := hn
      have hc : op_cmp (K q) ≠ 0 ∧ op_all (K q) = op_cmp (K q) := by
        have e1 := n1 (by decide)
        have e2 := n2 (by decide)
        have e4 := n4 (by decide)
        have e5 := n5 (by decide)
        unfold op_all at c2 ⊢
        rw [if_neg e5, if_neg e4] at c2 ⊢
        unfold op_cmp
        by_cases d1 : K q = 60
        · rw [if_pos d1, if_pos d1]; exact ⟨by decide, rfl⟩
        · rw [if_neg d1] at c2 ⊢
          by_cases d2 : K q = 61
          · rw [if_pos d2, if_neg d1, if_pos d2]; exact ⟨by decide, rfl⟩
          · rw [if_neg d2, if_neg e2.1, if_neg e2.2, if_neg e1] at c2
            exact absurd rfl c2
      have h4 : ya_rk (op_all (K q)) = 4 := by
        rw [hc.2]
        rcases op_cmp_2 hc.1 with w | w
        · rw [w.2]; rfl
        · rw [w.2]; rfl
      simp only [h4, if_true]
      first
        | exact if_pos ⟨trivial, n3 (by decide) hc.1⟩
        | exact if_pos ⟨rfl, n3 (by decide) hc.1⟩
        | exact if_pos (n3 (by decide) hc.1)
theorem ya_lt_t4 {S : List Nat} (h : ya_lt S 4) : ya_t4 S = false := by
  cases S with
  | nil => rfl
  | cons x S => exact decide_eq_false (by have : ya_rk x < 4 := h; omega)
theorem cmp_ok {x : pd_X} {n : Nat} (hT : ya_T K T z) (hx : ya_OK K V F T z n 5 x) : ya_OK K V F T z n 4 (pd_ch K T op_cmp 1 x) := by
  intro p C S m hp hm1 hm2 hS hcn
  have hS4 : ya_lt S 4 := hS
  have hpx := hx p C S m hp (fun w => absurd w (by decide)) (fun _ => hm2 (by decide)) (ya_lt_mono hS4 (by decide)) hcn
  unfold pd_ch
  cases hxr : x p with
  | inl f => rw [hxr] at hpx; exact hpx
  | inr a =>
    rw [hxr] at hpx
    obtain ⟨g1, g2, k, m2, C2, S2, hk, hr, he, hn⟩ := hpx
    show ya_PX K V F T z 4 p C S m (pd_loop K T op_cmp x 1 a.1 a.2)
    rw [pd_loop]
    by_cases h0 : op_cmp (K a.1) = 0
    · rw [if_pos h0]
      exact ⟨g1, g2, k, m2, C2, S2, hk, hr, ya_eq_mono he (by decide), ⟨fun _ => hn.1 (by decide), fun _ => hn.2.1 (by decide), fun _ w => absurd h0 w, fun w => absurd w (by decide), fun w => absurd w (by decide)⟩⟩
    · rw [if_neg h0]
      have h2 := op_cmp_2 h0
      have hk0 : K a.1 ≠ 0 := by rcases h2 with w | w <;> (rw [w.1]; decide)
      obtain ⟨t1, t2⟩ := hT a.1 g2 hk0
      have hr4 : ya_rk (op_cmp (K a.1)) = 4 := by rcases h2 with w | w <;> (rw [w.2]; rfl)
      have hall : op_all (K a.1) = op_cmp (K a.1) := by rcases h2 with w | w <;> (rw [w.2, w.1]; rfl)
      have h59 : K a.1 ≠ 59 := by rcases h2 with w | w <;> (rw [w.1]; decide)
      have h41 : K a.1 ≠ 41 := by rcases h2 with w | w <;> (rw [w.1]; decide)
      have h12 : decide (op_cmp (K a.1) ≤ 12) = false := by rcases h2 with w | w <;> (rw [w.2]; rfl)
      have hu : ya_unw 5 C2 S2 = (C ++ a.2, S) := by rw [he 5 (by decide) (Nat.le_refl _), unw_lt _ (ya_lt_mono hS4 (by decide))]
      have hst : ya_step K V F T (a.1, C2, S2, false, m2) = .inl (T a.1, C ++ a.2, op_cmp (K a.1) :: S, true, false) := by
        show ya_have K F T a.1 C2 S2 m2 = _
        unfold ya_have
        rw [if_neg h59, if_neg h41, if_neg (by rw [hall]; exact h0)]
        simp only [hall, hr4, if_true, hu, ya_lt_t4 hS4, h12]
        exact if_neg (fun w => absurd w.2 (by decide))
      have hpx2 := hx (T a.1) (C ++ a.2) (op_cmp (K a.1) :: S) false t2 (fun w => absurd w (by decide)) (fun _ _ => rfl) (by show ya_rk (op_cmp (K a.1)) < 5; rw [hr4]; decide) (by show (if op_cmp (K a.1) = 0 ∨ op_cmp (K a.1) = 13 ∨ op_cmp (K a.1) = 19 then 1 else 0) + ya_cn S + n = 5; rw [if_neg (by rcases h2 with w | w <;> (rw [w.2]; decide))]; omega)
      cases hxr2 : x (T a.1) with
      | inl f =>
        rw [hxr2] at hpx2
        obtain ⟨k2, hk2, hr2⟩ := hpx2
        refine ⟨k2 + 1 + k, by omega, fun G => ?_⟩
        rw [show G + (k2 + 1 + k) = (G + k2 + 1) + k by omega, hr, run_s hst]
        exact hr2 G
      | inr e =>
        rw [hxr2] at hpx2
        obtain ⟨w1, w2, k2, m3, C3, S3, hk2, hr2, he2, hn2⟩ := hpx2
        refine ⟨by show p < e.1; omega, w2, k2 + 1 + k, m3, C3, S3, by show k2 + 1 + k ≤ e.1 - p; omega, fun G => ?_, fun t v1 v2 => ?_, ⟨fun _ => hn2.1 (by decide), fun _ => hn2.2.1 (by decide), fun _ _ => ?_, fun w => absurd w (by decide), fun w => absurd w (by decide)⟩⟩
        · rw [show G + (k2 + 1 + k) = (G + k2 + 1) + k by omega, hr, run_s hst]
          exact hr2 G
        · rw [he2 t v1 (by omega), unw_psh _ _ (by rw [hr4]; exact v2)]
          show _ = ya_unw t (C ++ (a.2 ++ e.2 ++ [op_cmp (K a.1)])) S
          rw [List.append_assoc, List.append_assoc, List.append_assoc]
        · rw [he2 5 (by decide) (Nat.le_refl _), unw_lt _ (show ya_lt (op_cmp (K a.1) :: S) 5 by show ya_rk (op_cmp (K a.1)) < 5; rw [hr4]; decide)]
          exact decide_eq_true hr4
theorem fail1 {p : Nat} {C S : List Nat} {m : Bool} {l f : Nat} (hp : p ≤ z) (h : ya_step K V F T (p, C, S, true, m) = .inr (.inl f)) : ya_PX K V F T z l p C S m (.inl f) := ⟨1, by omega, fun G => run_e h⟩
theorem want_fail {p : Nat} {C S : List Nat} {m : Bool} (h2 : ¬ (K p = 2 ∨ K p = 3)) (h9 : ¬ (K p = 9 ∧ m = true)) (h45 : K p ≠ 45) (h40 : K p ≠ 40) : ya_step K V F T (p, C, S, true, m) = .inr (.inl (F p)) := by
  show ya_want K V F T p C S m = _
  unfold ya_want
  rw [if_neg h2, if_neg h9, if_neg h45, if_neg h40]
/-- what opens one more -/
theorem sub_ok {l p : Nat} {C S : List Nat} {m m1 : Bool} {s : Nat} {r : pd_R} (hT : ya_T K T z) (hp : p ≤ z) (hk : K p ≠ 0) (hst : ya_step K V F T (p, C, S, true, m) = .inl (T p, C, s :: S, true, m1)) (h : ya_PX K V F T z l (T p) C (s :: S) m1 r) (hl : l ≤ ya_rk s) : ya_PX K V F T z l p C S m (pd_bind r fun q cs => .inr (q, cs ++ [s])) := by
  obtain ⟨t1, t2⟩ := hT p hp hk
  cases r with
  | inl f =>
    obtain ⟨k, hk, hr⟩ := h
    exact ⟨k + 1, by omega, fun G => by rw [show G + (k + 1) = (G + k) + 1 by omega, run_s hst]; exact hr G⟩
  | inr a =>
    obtain ⟨g1, g2, k, m2, C2, S2, hk, hr, he, hn⟩ := h
    refine ⟨by show p < a.1; omega, g2, k + 1, m2, C2, S2, by show k + 1 ≤ a.1 - p; omega, fun G => by rw [show G + (k + 1) = (G + k) + 1 by omega, run_s hst]; exact hr G, fun t v1 v2 => ?_, hn⟩
    rw [he t v1 v2, unw_psh _ _ (by omega)]
    show ya_unw t (C ++ a.2 ++ [s]) S = ya_unw t (C ++ (a.2 ++ [s])) S
    rw [List.append_assoc]
theorem opn_no {p : Nat} {C S : List Nat} {x : Nat} {m : Bool} (h : ya_cn S = 5) : ya_opn F T p C S x m = .inr (.inl (F p)) := if_pos h
theorem opn_yes {p : Nat} {C S : List Nat} {x : Nat} {m : Bool} (h : ya_cn S ≠ 5) : ya_opn F T p C S x m = .inl (T p, C, x :: S, true, m) := if_neg h
theorem one_ok {n : Nat} {s : pd_S} (hT : ya_T K T z) (hs : (n = 0 ∧ s = none) ∨ ∃ n2 a b c, n = n2 + 1 ∧ s = some (a, b, c) ∧ ya_OK K V F T z n2 7 b ∧ ya_OK K V F T z n2 1 c) : ya_OK K V F T z n 7 (pd_one K V F T s) := by
  intro p C S m hp _ hm2 hS hcn
  unfold pd_one
  by_cases h2 : K p = 2 ∨ K p = 3
  · rw [if_pos h2]
    have hk0 : K p ≠ 0 := by omega
    obtain ⟨t1, t2⟩ := hT p hp hk0
    have hst : ya_step K V F T (p, C, S, true, m) = .inl (T p, (ya_unw 7 (C ++ [pd_code K V p]) S).1, (ya_unw 7 (C ++ [pd_code K V p]) S).2, false, m) := if_pos h2
    exact ⟨t1, t2, 1, m, _, _, by show 1 ≤ T p - p; omega, fun G => run_s hst, fun t v1 v2 => unw_unw v2 _ _, ⟨fun w => absurd w (by decide), fun w => absurd w (by decide), fun w => absurd w (by decide), fun w => absurd w (by decide), fun w => absurd w (by decide)⟩⟩
  · rw [if_neg h2]
    have h9 : ¬ (K p = 9 ∧ m = true) := fun w => by
      have := hm2 (by decide) w.1
      rw [w.2] at this
      cases this
    by_cases h45 : K p = 45
    · rw [if_pos h45]
      have hst : ya_step K V F T (p, C, S, true, m) = ya_opn F T p C S 19 false := by
        show ya_want K V F T p C S m = _
        unfold ya_want
        rw [if_neg h2, if_neg h9, if_pos h45]
      rcases hs with ⟨rfl, rfl⟩ | ⟨n2, a, b, c, rfl, rfl, hb, hc⟩
      · rw [opn_no (by omega)] at hst
        exact fail1 hp hst
      · rw [opn_yes (by omega)] at hst
        obtain ⟨t1, t2⟩ := hT p hp (by omega)
        exact sub_ok hT hp (by omega) hst (hb (T p) C (19 :: S) false t2 (fun w => absurd w (by decide)) (fun _ _ => rfl) (by show ya_rk 19 < 100; decide) (by show (if 19 = 0 ∨ 19 = 13 ∨ 19 = 19 then 1 else 0) + ya_cn S + n2 = 5; rw [if_pos (by decide)]; omega)) (by decide)
    · rw [if_neg h45]
      by_cases h40 : K p = 40
      · rw [if_pos h40]
        have hst : ya_step K V F T (p, C, S, true, m) = ya_opn F T p C S 0 true := by
          show ya_want K V F T p C S m = _
          unfold ya_want
          rw [if_neg h2, if_neg h9, if_neg h45, if_pos h40]
        rcases hs with ⟨rfl, rfl⟩ | ⟨n2, a, b, c, rfl, rfl, hb, hc⟩
        · rw [opn_no (by omega)] at hst
          exact fail1 hp hst
        · rw [opn_yes (by omega)] at hst
          obtain ⟨t1, t2⟩ := hT p hp (by omega)
          have h := hc (T p) C (0 :: S) true t2 (fun _ => rfl) (fun w => absurd w (by decide)) (by show ya_rk 0 < 1; decide) (by show (if 0 = 0 ∨ 0 = 13 ∨ 0 = 19 then 1 else 0) + ya_cn S + n2 = 5; rw [if_pos (by decide)]; omega)
          show ya_PX K V F T z 7 p C S m (pd_bind (c (T p)) fun q cs => if K q = 41 then .inr (T q, cs) else .inl (F q))
          cases hcr : c (T p) with
          | inl f =>
            rw [hcr] at h
            obtain ⟨k, hk, hr⟩ := h
            exact ⟨k + 1, by omega, fun G => by rw [show G + (k + 1) = (G + k) + 1 by omega, run_s hst]; exact hr G⟩
          | inr e =>
            rw [hcr] at h
            obtain ⟨g1, g2, k, m2, C2, S2, hk, hr, he, hn⟩ := h
            have hu : ya_unw 1 C2 S2 = (C ++ e.2, 0 :: S) := by rw [he 1 (by decide) (Nat.le_refl _), unw_lt _ (show ya_lt (0 :: S) 1 by show ya_rk 0 < 1; decide)]
            show ya_PX K V F T z 7 p C S m (if K e.1 = 41 then .inr (T e.1, e.2) else .inl (F e.1))
            by_cases h41 : K e.1 = 41
            · rw [if_pos h41]
              obtain ⟨v1, v2⟩ := hT e.1 g2 (by omega)
              have hst2 : ya_step K V F T (e.1, C2, S2, false, m2) = .inl (T e.1, (ya_unw 7 (C ++ e.2) S).1, (ya_unw 7 (C ++ e.2) S).2, false, m2) := by
                show ya_have K F T e.1 C2 S2 m2 = _
                unfold ya_have
                rw [if_neg (by omega), if_pos h41]
                simp only [hu]
              refine ⟨by show p < T e.1; omega, v2, 1 + (k + 1), m2, _, _, by show 1 + (k + 1) ≤ T e.1 - p; omega, fun G => ?_, fun t w1 w2 => unw_unw w2 _ _, ⟨fun w => absurd w (by decide), fun w => absurd w (by decide), fun w => absurd w (by decide), fun w => absurd w (by decide), fun w => absurd w (by decide)⟩⟩
              rw [show G + (1 + (k + 1)) = ((G + 1) + k) + 1 by omega, run_s hst, hr, run_s hst2]
            · rw [if_neg h41]
              have hst2 := have_bad (V := V) (F := F) (T := T) (m := m2) hn h41 (fun _ => by rw [hu]; exact List.cons_ne_nil _ _)
              refine ⟨1 + (k + 1), by omega, fun G => ?_⟩
              rw [show G + (1 + (k + 1)) = ((G + 1) + k) + 1 by omega, run_s hst, hr, run_e hst2]
      · rw [if_neg h40]
        exact fail1 hp (want_fail h2 h9 h45 h40)
theorem neg_ok {n : Nat} {s : pd_S} (hT : ya_T K T z) (hc : ya_OK K V F T z n 4 (pd_cmp K V F T s)) (hs : (n = 0 ∧ s = none) ∨ ∃ n2 a b c, n = n2 + 1 ∧ s = some (a, b, c) ∧ ya_OK K V F T z n2 3 a) : ya_OK K V F T z n 3 (pd_neg K V F T s) := by
  intro p C S m hp hm1 _ hS hcn
  have hm := hm1 (Nat.le_refl _)
  unfold pd_neg
  by_cases h9 : K p = 9
  · rw [if_pos h9]
    have hst : ya_step K V F T (p, C, S, true, m) = ya_opn F T p C S 13 m := by
      show ya_want K V F T p C S m = _
      unfold ya_want
      rw [if_neg (by omega), if_pos ⟨h9, hm⟩]
    rcases hs with ⟨rfl, rfl⟩ | ⟨n2, a, b, c, rfl, rfl, ha⟩
    · rw [opn_no (by omega)] at hst
      exact fail1 hp hst
    · rw [opn_yes (by omega)] at hst
      obtain ⟨t1, t2⟩ := hT p hp (by omega)
      exact sub_ok hT hp (by omega) hst (ha (T p) C (13 :: S) m t2 (fun _ => hm) (fun w => absurd w (by decide)) (by show ya_rk 13 < 4; decide) (by show (if 13 = 0 ∨ 13 = 13 ∨ 13 = 19 then 1 else 0) + ya_cn S + n2 = 5; rw [if_pos (by decide)]; omega)) (by decide)
  · rw [if_neg h9]
    have h := hc p C S m hp (fun w => absurd w (by decide)) (fun _ w => absurd w h9) hS hcn
    cases hr : pd_cmp K V F T s p with
    | inl f => rw [hr] at h; exact h
    | inr a =>
      rw [hr] at h
      obtain ⟨g1, g2, k, m2, C2, S2, hk, hr, he, hn⟩ := h
      exact ⟨g1, g2, k, m2, C2, S2, hk, hr, ya_eq_mono he (by decide), ⟨fun _ => hn.1 (by decide), fun w => hn.2.1 (by omega), fun _ => hn.2.2.1 (by decide), fun w => absurd w (by decide), fun w => absurd w (by decide)⟩⟩
end YB
