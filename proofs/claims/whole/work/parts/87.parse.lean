/-! ===== PURE: a text's parts, read place by place; by a stack of signs; the two are one ===== -/
abbrev pd_R : Type := Nat ⊕ (Nat × List Nat)
def pd_bind (r : pd_R) (f : Nat → List Nat → pd_R) : pd_R := match r with
  | .inl e => .inl e
  | .inr q => f q.1 q.2
def op_mul (k : Nat) : Nat := if k = 42 then 18 else 0
def op_add (k : Nat) : Nat := if k = 43 then 16 else if k = 45 then 17 else 0
def op_cmp (k : Nat) : Nat := if k = 60 then 14 else if k = 61 then 15 else 0
def op_and (k : Nat) : Nat := if k = 8 then 12 else 0
def op_or (k : Nat) : Nat := if k = 7 then 11 else 0
def op_all (k : Nat) : Nat := if k = 7 then 11 else if k = 8 then 12 else if k = 60 then 14 else if k = 61 then 15 else if k = 43 then 16 else if k = 45 then 17 else if k = 42 then 18 else 0
section PD
variable (K V F T : Nat → Nat)
abbrev pd_X : Type := Nat → pd_R
abbrev pd_S : Type := Option (pd_X × pd_X × pd_X)
def pd_code (p : Nat) : Nat := if K p = 2 then 100000 + V p else V p
def pd_one (sub : pd_S) (p : Nat) : pd_R :=
  if K p = 2 ∨ K p = 3 then .inr (T p, [pd_code K V p])
  else if K p = 45 then (match sub with
    | none => .inl (F p)
    | some s => pd_bind (s.2.1 (T p)) fun q cs => .inr (q, cs ++ [19]))
  else if K p = 40 then (match sub with
    | none => .inl (F p)
    | some s => pd_bind (s.2.2 (T p)) fun q cs => if K q = 41 then .inr (T q, cs) else .inl (F q))
  else .inl (F p)
def pd_loop (op : Nat → Nat) (x : pd_X) : Nat → Nat → List Nat → pd_R
  | 0, p, cs => .inr (p, cs)
  | j + 1, p, cs => if op (K p) = 0 then .inr (p, cs) else pd_bind (x (T p)) fun q c2 => pd_loop op x j q (cs ++ c2 ++ [op (K p)])
def pd_ch (op : Nat → Nat) (j : Nat) (x : pd_X) (p : Nat) : pd_R := pd_bind (x p) fun q cs => pd_loop K T op x j q cs
def pd_prod (sub : pd_S) : pd_X := pd_ch K T op_mul 160 (pd_one K V F T sub)
def pd_sum (sub : pd_S) : pd_X := pd_ch K T op_add 160 (pd_prod K V F T sub)
def pd_cmp (sub : pd_S) : pd_X := pd_ch K T op_cmp 1 (pd_sum K V F T sub)
def pd_neg (sub : pd_S) (p : Nat) : pd_R := if K p = 9 then (match sub with
    | none => .inl (F p)
    | some s => pd_bind (s.1 (T p)) fun q cs => .inr (q, cs ++ [13])) else pd_cmp K V F T sub p
def pd_both (sub : pd_S) : pd_X := pd_ch K T op_and 160 (pd_neg K V F T sub)
def pd_ei (sub : pd_S) : pd_X := pd_ch K T op_or 160 (pd_both K V F T sub)
def pd_sub : Nat → pd_S
  | 0 => none
  | n + 1 => some (pd_neg K V F T (pd_sub n), pd_one K V F T (pd_sub n), pd_ei K V F T (pd_sub n))
/-! the stack of signs -/
def ya_rk (s : Nat) : Nat := if s = 0 then 0 else if s = 11 then 1 else if s = 12 then 2 else if s = 13 then 3 else if s ≤ 15 then 4 else if s ≤ 17 then 5 else if s = 18 then 6 else 7
def ya_unw (L : Nat) : List Nat → List Nat → List Nat × List Nat
  | C, [] => (C, [])
  | C, x :: S => if L ≤ ya_rk x then ya_unw L (C ++ [x]) S else (C, x :: S)
/-- so many are open -/
def ya_cn : List Nat → Nat
  | [] => 0
  | x :: S => (if x = 0 ∨ x = 13 ∨ x = 19 then 1 else 0) + ya_cn S
def ya_t4 (S : List Nat) : Bool := match S with
  | [] => false
  | x :: _ => decide (ya_rk x = 4)
/-- place, codes, signs held, whether a ONE is wanted, whether a not may stand -/
abbrev ya_S : Type := Nat × List Nat × List Nat × Bool × Bool
abbrev ya_Q : Type := ya_S ⊕ pd_R
def ya_opn (p : Nat) (C S : List Nat) (x : Nat) (m : Bool) : ya_Q := if ya_cn S = 5 then .inr (.inl (F p)) else .inl (T p, C, x :: S, true, m)
def ya_want (p : Nat) (C S : List Nat) (m : Bool) : ya_Q :=
  if K p = 2 ∨ K p = 3 then (let u := ya_unw 7 (C ++ [pd_code K V p]) S; .inl (T p, u.1, u.2, false, m))
  else if K p = 9 ∧ m = true then ya_opn F T p C S 13 m
  else if K p = 45 then ya_opn F T p C S 19 false
  else if K p = 40 then ya_opn F T p C S 0 true
  else .inr (.inl (F p))
def ya_have (p : Nat) (C S : List Nat) (m : Bool) : ya_Q :=
  if K p = 59 then (let u := ya_unw 1 C S; if u.2 = [] then .inr (.inr (T p, u.1)) else .inr (.inl (F p)))
  else if K p = 41 then (let u := ya_unw 1 C S; match u.2 with
    | [] => .inr (.inl (F p))
    | _ :: S2 => let v := ya_unw 7 u.1 S2; .inl (T p, v.1, v.2, false, m))
  else if op_all (K p) = 0 then .inr (.inl (F p))
  else (let s := op_all (K p); let u := ya_unw (if ya_rk s = 4 then 5 else ya_rk s) C S; if ya_rk s = 4 ∧ ya_t4 u.2 = true then .inr (.inl (F p)) else .inl (T p, u.1, s :: u.2, true, decide (s ≤ 12)))
def ya_step (s : ya_S) : ya_Q := if s.2.2.2.1 = true then ya_want K V F T s.1 s.2.1 s.2.2.1 s.2.2.2.2 else ya_have K F T s.1 s.2.1 s.2.2.1 s.2.2.2.2
def ya_run : Nat → ya_S → Option pd_R
  | 0, _ => none
  | n + 1, s => match ya_step K V F T s with
    | .inl s2 => ya_run n s2
    | .inr r => some r
end PD
theorem unw_unw {t L : Nat} (h : t ≤ L) : ∀ (S C : List Nat), ya_unw t (ya_unw L C S).1 (ya_unw L C S).2 = ya_unw t C S
  | [], C => rfl
  | x :: S, C => by
    rw [ya_unw]
    by_cases c : L ≤ ya_rk x
    · rw [if_pos c, unw_unw h S]
      show _ = (if t ≤ ya_rk x then _ else _)
      rw [if_pos (by omega)]
    · rw [if_neg c]
def ya_lt (S : List Nat) (L : Nat) : Prop := match S with
  | [] => True
  | x :: _ => ya_rk x < L
theorem ya_lt_mono {S : List Nat} {L L2 : Nat} (h : ya_lt S L) (hl : L ≤ L2) : ya_lt S L2 := by
  cases S with
  | nil => trivial
  | cons x S => exact Nat.lt_of_lt_of_le h hl
theorem unw_lt {S : List Nat} {L : Nat} (C : List Nat) (h : ya_lt S L) : ya_unw L C S = (C, S) := by
  cases S with
  | nil => rfl
  | cons x S => exact if_neg (Nat.not_le.mpr h)
theorem unw_psh {L x : Nat} (C S : List Nat) (h : L ≤ ya_rk x) : ya_unw L C (x :: S) = ya_unw L (C ++ [x]) S := if_pos h
/-- alike for all that unwinds so far -/
def ya_eq (L : Nat) (C S C2 S2 : List Nat) : Prop := ∀ t, 1 ≤ t → t ≤ L → ya_unw t C S = ya_unw t C2 S2
theorem ya_eq_mono {L L2 : Nat} {C S C2 S2 : List Nat} (h : ya_eq L C S C2 S2) (hl : L2 ≤ L) : ya_eq L2 C S C2 S2 := fun t h1 h2 => h t h1 (by omega)
theorem unw_len {L : Nat} : ∀ (S C : List Nat), (ya_unw L C S).1.length + (ya_unw L C S).2.length = C.length + S.length
  | [], C => rfl
  | x :: S, C => by
    rw [ya_unw]
    by_cases c : L ≤ ya_rk x
    · rw [if_pos c, unw_len S]
      simp only [List.length_append, List.length_cons, List.length_nil]
      omega
    · rw [if_neg c]
section YA
variable {K V F T : Nat → Nat} {z : Nat}
def ya_NF (K : Nat → Nat) (l q : Nat) (C S : List Nat) : Prop := (l ≤ 6 → K q ≠ 42) ∧ (l ≤ 5 → K q ≠ 43 ∧ K q ≠ 45) ∧ (l ≤ 4 → op_cmp (K q) ≠ 0 → ya_t4 (ya_unw 5 C S).2 = true) ∧ (l ≤ 2 → K q ≠ 8) ∧ (l ≤ 1 → K q ≠ 7)
def ya_lim (l : Nat) : Nat := if l = 7 then 100 else if l = 3 then 4 else l
def ya_PX (K V F T : Nat → Nat) (z l p : Nat) (C S : List Nat) (m : Bool) (r : pd_R) : Prop := match r with
  | .inl f => ∃ k, k ≤ z + 1 - p ∧ ∀ G, ya_run K V F T (G + k) (p, C, S, true, m) = some (.inl f)
  | .inr q => p < q.1 ∧ q.1 ≤ z ∧ ∃ k m2 C2 S2, k ≤ q.1 - p ∧ (∀ G, ya_run K V F T (G + k) (p, C, S, true, m) = ya_run K V F T G (q.1, C2, S2, false, m2)) ∧ ya_eq l C2 S2 (C ++ q.2) S ∧ ya_NF K l q.1 C2 S2
def ya_OK (K V F T : Nat → Nat) (z n l : Nat) (x : pd_X) : Prop := ∀ p C S m, p ≤ z → (l ≤ 3 → m = true) → (3 < l → K p = 9 → m = false) → ya_lt S (ya_lim l) → ya_cn S + n = 5 → ya_PX K V F T z l p C S m (x p)
/-- places go on -/
def ya_T (K T : Nat → Nat) (z : Nat) : Prop := ∀ p, p ≤ z → K p ≠ 0 → p < T p ∧ T p ≤ z
theorem run_s {n : Nat} {s s2 : ya_S} (h : ya_step K V F T s = .inl s2) : ya_run K V F T (n + 1) s = ya_run K V F T n s2 := by rw [ya_run, h]
theorem run_e {n : Nat} {s : ya_S} {a : pd_R} (h : ya_step K V F T s = .inr a) : ya_run K V F T (n + 1) s = some a := by rw [ya_run, h]
/-- a sign between two -/
theorem have_op {op : Nat → Nat} {l q : Nat} {C S : List Nat} {m : Bool} (h0 : op (K q) ≠ 0) (hop : ∀ k, op k ≠ 0 → op_all k = op k ∧ ya_rk (op k) = l ∧ k ≠ 59 ∧ k ≠ 41) (hl4 : l ≠ 4) : ya_step K V F T (q, C, S, false, m) = .inl (T q, (ya_unw l C S).1, op (K q) :: (ya_unw l C S).2, true, decide (op (K q) ≤ 12)) := by
  obtain ⟨e1, e2, e3, e4⟩ := hop _ h0
  show ya_have K F T q C S m = _
  unfold ya_have
  rw [if_neg e3, if_neg e4, if_neg (by rw [e1]; exact h0)]
  simp only [e1, e2, if_neg hl4]
  rw [if_neg (fun w => hl4 w.1)]
theorem ya_loop {op : Nat → Nat} {x : pd_X} {n l lx : Nat} (hT : ya_T K T z) (hx : ya_OK K V F T z n lx x) (hl : l ≤ lx) (hl1 : 1 ≤ l) (hl4 : l ≠ 4) (hop : ∀ k, op k ≠ 0 → op_all k = op k ∧ ya_rk (op k) = l ∧ k ≠ 59 ∧ k ≠ 41) (hopK : ∀ k, op k ≠ 0 → k ≠ 0) (hmt : ∀ k, op k ≠ 0 → lx ≤ 3 → op k ≤ 12) (hmf : ∀ k, op k ≠ 0 → 3 < lx → ¬ op k ≤ 12) (hlim : l < ya_lim lx) (hopc : ∀ k, op k ≠ 0 → op k ≠ 0 ∧ op k ≠ 13 ∧ op k ≠ 19) (hNF : ∀ q C S, ya_NF K lx q C S → op (K q) = 0 → ya_NF K l q C S)
    {p0 : Nat} {C S : List Nat} {m : Bool} (hS : ya_lt S l) (hcn : ya_cn S + n = 5) : ∀ (j q : Nat) (cs C2 S2 : List Nat) (m2 : Bool) (k : Nat), z < q + j → p0 < q → q ≤ z → k ≤ q - p0 → (∀ G, ya_run K V F T (G + k) (p0, C, S, true, m) = ya_run K V F T G (q, C2, S2, false, m2)) → ya_eq l C2 S2 (C ++ cs) S → ya_NF K lx q C2 S2 → ya_PX K V F T z l p0 C S m (pd_loop K T op x j q cs) := by
  intro j
  induction j with
  | zero => intro q cs C2 S2 m2 k h1 h2 h3; omega
  | succ j ih =>
    intro q cs C2 S2 m2 k h1 h2 h3 hk hr he hn
    rw [pd_loop]
    by_cases h0 : op (K q) = 0
    · rw [if_pos h0]
      exact ⟨h2, h3, k, m2, C2, S2, hk, hr, he, hNF q C2 S2 hn h0⟩
    · rw [if_neg h0]
      obtain ⟨t1, t2⟩ := hT q h3 (hopK _ h0)
      have hu : ya_unw l C2 S2 = (C ++ cs, S) := by rw [he l hl1 (Nat.le_refl _), unw_lt _ hS]
      have hst := have_op (V := V) (F := F) (T := T) (C := C2) (S := S2) (m := m2) h0 hop hl4
      rw [hu] at hst
      have hrk := (hop _ h0).2.1
      obtain ⟨c0, c13, c19⟩ := hopc _ h0
      have hpx := hx (T q) (C ++ cs) (op (K q) :: S) (decide (op (K q) ≤ 12)) t2 (fun w => decide_eq_true (hmt _ h0 w)) (fun w _ => decide_eq_false (hmf _ h0 w)) (by show ya_rk (op (K q)) < _; rw [hrk]; exact hlim) (by show (if op (K q) = 0 ∨ op (K q) = 13 ∨ op (K q) = 19 then 1 else 0) + ya_cn S + n = 5; rw [if_neg (fun w => w.elim c0 (fun w => w.elim c13 c19))]; omega)
      cases hxr : x (T q) with
      | inl f =>
        rw [hxr] at hpx
        obtain ⟨k2, hk2, hr2⟩ := hpx
        refine ⟨k2 + 1 + k, by omega, fun G => ?_⟩
        rw [show G + (k2 + 1 + k) = (G + k2 + 1) + k by omega, hr, run_s hst]
        exact hr2 G
      | inr a =>
        rw [hxr] at hpx
        obtain ⟨g1, g2, k2, m3, C3, S3, hk2, hr2, he2, hn2⟩ := hpx
        refine ih a.1 (cs ++ a.2 ++ [op (K q)]) C3 S3 m3 (k2 + 1 + k) (by omega) (by omega) g2 (by omega) (fun G => ?_) (fun t w1 w2 => ?_) hn2
        · rw [show G + (k2 + 1 + k) = (G + k2 + 1) + k by omega, hr, run_s hst]
          exact hr2 G
        · rw [he2 t w1 (by omega), unw_psh _ _ (by rw [hrk]; exact w2), List.append_assoc, List.append_assoc, List.append_assoc]
theorem ya_chain {op : Nat → Nat} {x : pd_X} {n l lx : Nat} (hz : z ≤ 160) (hT : ya_T K T z) (hx : ya_OK K V F T z n lx x) (hl : l ≤ lx) (hl1 : 1 ≤ l) (hl4 : l ≠ 4) (hop : ∀ k, op k ≠ 0 → op_all k = op k ∧ ya_rk (op k) = l ∧ k ≠ 59 ∧ k ≠ 41) (hopK : ∀ k, op k ≠ 0 → k ≠ 0) (hmt : ∀ k, op k ≠ 0 → lx ≤ 3 → op k ≤ 12) (hmf : ∀ k, op k ≠ 0 → 3 < lx → ¬ op k ≤ 12) (hlim : l < ya_lim lx) (hlim2 : ya_lim l = l) (hopc : ∀ k, op k ≠ 0 → op k ≠ 0 ∧ op k ≠ 13 ∧ op k ≠ 19) (h3 : l ≤ 3 ↔ lx ≤ 3) (hNF : ∀ q C S, ya_NF K lx q C S → op (K q) = 0 → ya_NF K l q C S) : ya_OK K V F T z n l (pd_ch K T op 160 x) := by
  intro p C S m hp hm1 hm2 hS hcn
  rw [hlim2] at hS
  have hpx := hx p C S m hp (fun w => hm1 (h3.mpr w)) (fun w => hm2 (by omega)) (ya_lt_mono hS (by omega)) hcn
  unfold pd_ch
  cases hxr : x p with
  | inl f =>
    rw [hxr] at hpx
    exact hpx
  | inr a =>
    rw [hxr] at hpx
    obtain ⟨g1, g2, k, m3, C3, S3, hk, hr, he, hn⟩ := hpx
    exact ya_loop hT hx hl hl1 hl4 hop hopK hmt hmf hlim hopc hNF hS hcn 160 a.1 a.2 C3 S3 m3 k (by omega) g1 g2 hk hr (ya_eq_mono he hl) hn
end YA
