/-! ===== PURE: cells are made, the small constructors ===== -/
/-- the first n cells, as the constructors make them -/
def sf_ (LL n : Nat) : im_Sh := im_xs LL ++ (List.range (n - 29)).map fun j => im_s0 (29 + j)
theorem sf_len {LL n : Nat} (h : 29 ≤ n) : (sf_ LL n).length = n := by
  rw [sf_, List.length_append, List.length_map, List.length_range, show (im_xs LL).length = 29 from rfl]
  omega
theorem sf_s {LL n : Nat} (h : 29 ≤ n) {q : Nat × Nat} (hq : im_s0 n = q) : sf_ LL n ++ [q] = sf_ LL (n + 1) := by
  unfold sf_
  rw [show n + 1 - 29 = (n - 29) + 1 by omega, List.range_succ, List.map_append, ← List.append_assoc]
  rw [List.map_cons, List.map_nil, show 29 + (n - 29) = n by omega, hq]
theorem sf_lo : ∀ k, k < 28 → (im_xs 0)[k + 1]? = some (im_s0 (k + 1)) := by decide
theorem sf_get {LL n k : Nat} (h0 : 0 < k) (h : k < n) (hn : 29 ≤ n) : (sf_ LL n)[k]? = some (im_s0 k) := by
  unfold sf_
  by_cases c : k < 29
  · rw [List.getElem?_append_left (by exact c)]
    obtain ⟨j, rfl⟩ : ∃ j, k = j + 1 := ⟨k - 1, by omega⟩
    rw [← sf_lo j (by omega)]
    rfl
  · rw [List.getElem?_append_right (by show 29 ≤ k; omega), List.getElem?_map, show (im_xs LL).length = 29 from rfl, List.getElem?_range (by omega)]
    show some (im_s0 (29 + (k - 29))) = _
    rw [show 29 + (k - 29) = k by omega]
theorem sf_at {LL n k : Nat} {q : Nat × Nat} (h : (Nat.blt 0 k && Nat.blt k n && Nat.ble 29 n) = true) (hq : im_s0 k = q) : (sf_ LL n)[k]? = some q := by
  rw [Bool.and_eq_true, Bool.and_eq_true] at h
  rw [← hq]
  exact sf_get (Nat.blt_eq.mp h.1.1) (Nat.blt_eq.mp h.1.2) (Nat.le_of_ble_eq_true h.2)
theorem sf_at' {LL n k : Nat} {q : Nat × Nat} (h0 : 0 < k) (h : k < n) (hn : 29 ≤ n) (hq : im_s0 k = q) : (sf_ LL n)[k]? = some q := by
  rw [← hq]
  exact sf_get h0 h hn
theorem sf_lt {LL n k : Nat} (hn : 29 ≤ n) (h : k < n) : k < (sf_ LL n).length := by rw [sf_len hn]; exact h
/-- nothing stands from n on -/
def nz_ (n : Nat) (mi : im_MI) (mr : im_MR) : Prop := (∀ k, n ≤ k → mi k = fun _ => 0) ∧ ∀ k, n ≤ k → mr k = fun _ => none
theorem nz_i {n k j : Nat} {mi : im_MI} {mr : im_MR} {v : Int32} (h : nz_ n mi mr) (hk : k < n) : nz_ n (im_u mi k j v) mr := ⟨fun q hq => by rw [im_u_ne _ _ _ _ (by omega)]; exact h.1 q hq, h.2⟩
theorem nz_r {n k j : Nat} {mi : im_MI} {mr : im_MR} {v : Option Nat} (h : nz_ n mi mr) (hk : k < n) : nz_ n mi (im_u mr k j v) := ⟨h.1, fun q hq => by rw [im_u_ne _ _ _ _ (by omega)]; exact h.2 q hq⟩
theorem nz_m {n m : Nat} {mi : im_MI} {mr : im_MR} (h : nz_ n mi mr) (hm : n ≤ m) : nz_ m mi mr := ⟨fun q hq => h.1 q (by omega), fun q hq => h.2 q (by omega)⟩
theorem nz_rowi {n : Nat} {mi : im_MI} {mr : im_MR} (h : nz_ n mi mr) : (im_row mi n fun _ => 0) = mi := by
  funext k
  by_cases c : k = n
  · subst c; rw [im_row_eq, h.1 k (Nat.le_refl _)]
  · rw [im_row_ne _ _ _ c]
theorem nz_rowr {n : Nat} {mi : im_MI} {mr : im_MR} (h : nz_ n mi mr) : (im_row mr n fun _ => none) = mr := by
  funext k
  by_cases c : k = n
  · subst c; rw [im_row_eq, h.2 k (Nat.le_refl _)]
  · rw [im_row_ne _ _ _ c]
def vn_ (n : Nat) : List Value → Bool
  | [] => true
  | .ref k :: r => Nat.blt k n && vn_ n r
  | _ :: r => vn_ n r
theorem vn_va {sh : im_Sh} {n : Nat} (h : sh.length = n) : ∀ L : List Value, im_va sh L = vn_ n L
  | [] => rfl
  | v :: r => by
    have ih := vn_va h r
    cases v <;> first
      | exact ih
      | (show (Nat.blt _ sh.length && im_va sh r) = (Nat.blt _ n && vn_ n r); rw [ih, h])
section EN
variable {LL n y pc nx a b c0 : Nat} {L st : List Value} {mi : im_MI} {mr : im_MR} {x : Int32}
theorem en_I (c : Nat) (hi : im_ins y pc = some (nx, .newarray .int, a, b, c0)) (hx : x = nI c) (hn : 29 ≤ n) (hs : im_s0 n = (100, c)) (hc : Nat.ble c 100000 = true) (hL : vn_ n L = true) (hst : vn_ n st = true) (hz : nz_ n mi mr) : im_step y pc L (.int x :: st) (sf_ LL n) mi mr = im_nx nx L (.ref n :: st) (sf_ LL (n + 1)) mi mr := by
  rw [is_newI c hi hx hc (by rw [vn_va (sf_len hn)]; exact hL) (by rw [vn_va (sf_len hn)]; exact hst), sf_len hn, nz_rowi hz, nz_rowr hz, sf_s hn hs]
theorem en_C (c : Nat) (hi : im_ins y pc = some (nx, .newarray .char, a, b, c0)) (hx : x = nI c) (hn : 29 ≤ n) (hs : im_s0 n = (101, c)) (hc : Nat.ble c 100000 = true) (hL : vn_ n L = true) (hst : vn_ n st = true) (hz : nz_ n mi mr) : im_step y pc L (.int x :: st) (sf_ LL n) mi mr = im_nx nx L (.ref n :: st) (sf_ LL (n + 1)) mi mr := by
  rw [is_newC c hi hx hc (by rw [vn_va (sf_len hn)]; exact hL) (by rw [vn_va (sf_len hn)]; exact hst), sf_len hn, nz_rowi hz, nz_rowr hz, sf_s hn hs]
theorem en_A {i : Nat} (c : Nat) (hi : im_ins y pc = some (nx, .anewarray i, a, b, c0)) (hx : x = nI c) (hn : 29 ≤ n) (hs : im_s0 n = (110 + a, c)) (hc : Nat.ble c 100000 = true) (ha : Nat.blt a 10 = true) (hL : vn_ n L = true) (hst : vn_ n st = true) (hz : nz_ n mi mr) : im_step y pc L (.int x :: st) (sf_ LL n) mi mr = im_nx nx L (.ref n :: st) (sf_ LL (n + 1)) mi mr := by
  rw [is_newA c hi hx hc ha (by rw [vn_va (sf_len hn)]; exact hL) (by rw [vn_va (sf_len hn)]; exact hst), sf_len hn, nz_rowi hz, nz_rowr hz, sf_s hn hs]
theorem en_N {i : Nat} (hi : im_ins y pc = some (nx, .new i, a, b, c0)) (hn : 29 ≤ n) (hs : im_s0 n = (a, im_nf a)) (ha : Nat.blt a 10 = true) (hL : vn_ n L = true) (hst : vn_ n st = true) (hz : nz_ n mi mr) : im_step y pc L st (sf_ LL n) mi mr = im_nx nx L (.ref n :: st) (sf_ LL (n + 1)) mi mr := by
  rw [is_new hi ha (by rw [vn_va (sf_len hn)]; exact hL) (by rw [vn_va (sf_len hn)]; exact hst), sf_len hn, nz_rowi hz, nz_rowr hz, sf_s hn hs]
end EN
/-- a constructor is called -/
theorem ev_k0 {d y pc LL n n2 : Nat} {L st : List Value} {mi mi2 : im_MI} {mr mr2 : im_MR} {Q : ev_Q} {y2 nx : Nat} {as rest : List Value} (h : im_step y pc L st (sf_ LL n) mi mr = some (.inr (.inr (y2, as, nx, rest)))) (hr : im_rt y2 = none) (hf : Nat.ble (im_flat as).length (im_mx y2) = true) (hm : EvM d y2 as (sf_ LL n) mi mr (fun _ s2 m2 r2 => s2 = sf_ LL n2 ∧ m2 = mi2 ∧ r2 = mr2)) (hn : 29 ≤ n) (hL : vn_ n L = true) (hR : vn_ n rest = true) (k : Ev (d + 1) y nx L rest (sf_ LL n2) mi2 mr2 Q) : Ev (d + 1) y pc L st (sf_ LL n) mi mr Q :=
  ev_call0 h (Nat.le_of_ble_eq_true hf) hm (fun r s2 m2 r2 hq => by
    obtain ⟨rfl, rfl, rfl⟩ := hq
    refine ⟨Or.inr ⟨by rw [vn_va (sf_len hn)]; exact hL, by rw [vn_va (sf_len hn)]; exact hR⟩, ?_⟩
    rw [hr]
    exact k)
theorem xi_man {d LL n m : Nat} {mi : im_MI} {mr : im_MR} (hm0 : 0 < m) (hmn : m < n) (hn : 29 ≤ n) (hm : im_s0 m = (1, 5)) (hs : im_s0 n = (100, 12)) (hz : nz_ n mi mr) : EvM d 6 [.ref m] (sf_ LL n) mi mr (fun _ s2 m2 r2 => s2 = sf_ LL (n + 1) ∧ m2 = mi ∧ r2 = im_u mr m 4 (some n)) := by
  show Ev d 6 0 [.ref m] [] (sf_ LL n) mi mr _
  refine ev_s (is_aload_n rfl rfl) ?_
  refine ev_s (is_oinit rfl (Nat.le_of_ble_eq_true rfl)) ?_
  refine ev_s (is_aload_n rfl rfl) ?_
  refine ev_s (is_bipush (nI 12) rfl rfl) ?_
  refine ev_s (en_I 12 rfl rfl (by omega) hs rfl (by simp [vn_]; try omega) (by simp [vn_]; try omega) (hz)) ?_
  refine ev_s (is_putR rfl (sf_at' hm0 (by omega) (by omega) hm) rfl rfl rfl (sf_lt (by omega) (by omega))) ?_
  exact ev_ret (is_return rfl) ⟨rfl, rfl, rfl⟩
theorem xi_pairs {d LL n m : Nat} {mi : im_MI} {mr : im_MR} (hm0 : 0 < m) (hmn : m < n) (hn : 29 ≤ n) (hm : im_s0 m = (2, 4)) (hs : im_s0 n = (100, 36)) (hz : nz_ n mi mr) : EvM d 10 [.ref m] (sf_ LL n) mi mr (fun _ s2 m2 r2 => s2 = sf_ LL (n + 1) ∧ m2 = mi ∧ r2 = im_u mr m 0 (some n)) := by
  show Ev d 10 0 [.ref m] [] (sf_ LL n) mi mr _
  refine ev_s (is_aload_n rfl rfl) ?_
  refine ev_s (is_oinit rfl (Nat.le_of_ble_eq_true rfl)) ?_
  refine ev_s (is_aload_n rfl rfl) ?_
  refine ev_s (is_bipush (nI 36) rfl rfl) ?_
  refine ev_s (en_I 36 rfl rfl (by omega) hs rfl (by simp [vn_]; try omega) (by simp [vn_]; try omega) (hz)) ?_
  refine ev_s (is_putR rfl (sf_at' hm0 (by omega) (by omega) hm) rfl rfl rfl (sf_lt (by omega) (by omega))) ?_
  exact ev_ret (is_return rfl) ⟨rfl, rfl, rfl⟩
theorem xi_sheet {d LL n m : Nat} {mi : im_MI} {mr : im_MR} (hm0 : 0 < m) (hmn : m < n) (hn : 29 ≤ n) (hm : im_s0 m = (4, 3)) (hs : im_s0 n = (100, 40)) (hz : nz_ n mi mr) : EvM d 23 [.ref m] (sf_ LL n) mi mr (fun _ s2 m2 r2 => s2 = sf_ LL (n + 1) ∧ m2 = im_u (im_u mi m 1 (-1)) m 2 (nI 0) ∧ r2 = im_u mr m 0 (some n)) := by
  show Ev d 23 0 [.ref m] [] (sf_ LL n) mi mr _
  refine ev_s (is_aload_n rfl rfl) ?_
  refine ev_s (is_oinit rfl (Nat.le_of_ble_eq_true rfl)) ?_
  refine ev_s (is_aload_n rfl rfl) ?_
  refine ev_s (is_bipush (nI 40) rfl rfl) ?_
  refine ev_s (en_I 40 rfl rfl (by omega) hs rfl (by simp [vn_]; try omega) (by simp [vn_]; try omega) (hz)) ?_
  refine ev_s (is_putR rfl (sf_at' hm0 (by omega) (by omega) hm) rfl rfl rfl (sf_lt (by omega) (by omega))) ?_
  refine ev_s (is_aload_n rfl rfl) ?_
  refine ev_s (is_iconst ((-1)) rfl rfl) ?_
  refine ev_s (is_putI rfl (sf_at' hm0 (by omega) (by omega) hm) rfl rfl rfl) ?_
  refine ev_s (is_aload_n rfl rfl) ?_
  refine ev_s (is_iconst (nI 0) rfl rfl) ?_
  refine ev_s (is_putI rfl (sf_at' hm0 (by omega) (by omega) hm) rfl rfl rfl) ?_
  exact ev_ret (is_return rfl) ⟨rfl, rfl, rfl⟩
theorem xi_tape {d LL n m : Nat} {mi : im_MI} {mr : im_MR} (hm0 : 0 < m) (hmn : m < n) (hn : 29 ≤ n) (hm : im_s0 m = (5, 2)) (hs : im_s0 n = (101, 160)) (hz : nz_ n mi mr) : EvM d 29 [.ref m] (sf_ LL n) mi mr (fun _ s2 m2 r2 => s2 = sf_ LL (n + 1) ∧ m2 = im_u mi m 1 (nI 0) ∧ r2 = im_u mr m 0 (some n)) := by
  show Ev d 29 0 [.ref m] [] (sf_ LL n) mi mr _
  refine ev_s (is_aload_n rfl rfl) ?_
  refine ev_s (is_oinit rfl (Nat.le_of_ble_eq_true rfl)) ?_
  refine ev_s (is_aload_n rfl rfl) ?_
  refine ev_s (is_sipush (nI 160) rfl rfl) ?_
  refine ev_s (en_C 160 rfl rfl (by omega) hs rfl (by simp [vn_]; try omega) (by simp [vn_]; try omega) (hz)) ?_
  refine ev_s (is_putR rfl (sf_at' hm0 (by omega) (by omega) hm) rfl rfl rfl (sf_lt (by omega) (by omega))) ?_
  refine ev_s (is_aload_n rfl rfl) ?_
  refine ev_s (is_iconst (nI 0) rfl rfl) ?_
  refine ev_s (is_putI rfl (sf_at' hm0 (by omega) (by omega) hm) rfl rfl rfl) ?_
  exact ev_ret (is_return rfl) ⟨rfl, rfl, rfl⟩
theorem xi_text {d LL n m : Nat} {mi : im_MI} {mr : im_MR} (hm0 : 0 < m) (hmn : m < n) (hn : 29 ≤ n) (hm : im_s0 m = (6, 3)) (hs : im_s0 n = (100, 160)) (hs2 : im_s0 (n + 1) = (100, 3)) (hz : nz_ n mi mr) : EvM d 37 [.ref m] (sf_ LL n) mi mr (fun _ s2 m2 r2 => s2 = sf_ LL (n + 1 + 1) ∧ m2 = im_u mi m 2 (nI 0) ∧ r2 = im_u (im_u mr m 0 (some n)) m 1 (some (n + 1))) := by
  show Ev d 37 0 [.ref m] [] (sf_ LL n) mi mr _
  refine ev_s (is_aload_n rfl rfl) ?_
  refine ev_s (is_oinit rfl (Nat.le_of_ble_eq_true rfl)) ?_
  refine ev_s (is_aload_n rfl rfl) ?_
  refine ev_s (is_sipush (nI 160) rfl rfl) ?_
  refine ev_s (en_I 160 rfl rfl (by omega) hs rfl (by simp [vn_]; try omega) (by simp [vn_]; try omega) (hz)) ?_
  refine ev_s (is_putR rfl (sf_at' hm0 (by omega) (by omega) hm) rfl rfl rfl (sf_lt (by omega) (by omega))) ?_
  refine ev_s (is_aload_n rfl rfl) ?_
  refine ev_s (is_iconst (nI 3) rfl rfl) ?_
  refine ev_s (en_I 3 rfl rfl (by omega) hs2 rfl (by simp [vn_]; try omega) (by simp [vn_]; try omega) (by repeat (first | exact hz | exact nz_m hz (by omega) | refine nz_r ?_ (by omega) | refine nz_i ?_ (by omega)))) ?_
  refine ev_s (is_putR rfl (sf_at' hm0 (by omega) (by omega) hm) rfl rfl rfl (sf_lt (by omega) (by omega))) ?_
  refine ev_s (is_aload_n rfl rfl) ?_
  refine ev_s (is_iconst (nI 0) rfl rfl) ?_
  refine ev_s (is_putI rfl (sf_at' hm0 (by omega) (by omega) hm) rfl rfl rfl) ?_
  exact ev_ret (is_return rfl) ⟨rfl, rfl, rfl⟩
theorem xi_reader {d LL n m : Nat} {mi : im_MI} {mr : im_MR} (hm0 : 0 < m) (hmn : m < n) (hn : 29 ≤ n) (hm : im_s0 m = (7, 7)) (hz : nz_ n mi mr) : EvM d 45 [.ref m] (sf_ LL n) mi mr (fun _ s2 m2 r2 => s2 = sf_ LL (n) ∧ m2 = mi ∧ r2 = im_u (im_u mr m 0 none) m 1 none) := by
  show Ev d 45 0 [.ref m] [] (sf_ LL n) mi mr _
  refine ev_s (is_aload_n rfl rfl) ?_
  refine ev_s (is_oinit rfl (Nat.le_of_ble_eq_true rfl)) ?_
  refine ev_s (is_aload_n rfl rfl) ?_
  refine ev_s (is_null rfl) ?_
  refine ev_s (is_putN rfl (sf_at' hm0 (by omega) (by omega) hm) rfl rfl rfl) ?_
  refine ev_s (is_aload_n rfl rfl) ?_
  refine ev_s (is_null rfl) ?_
  refine ev_s (is_putN rfl (sf_at' hm0 (by omega) (by omega) hm) rfl rfl rfl) ?_
  exact ev_ret (is_return rfl) ⟨rfl, rfl, rfl⟩
theorem xi_rules {d LL n m : Nat} {mi : im_MI} {mr : im_MR} (hm0 : 0 < m) (hmn : m < n) (hn : 29 ≤ n) (hm : im_s0 m = (3, 4)) {q : Nat} (hq : q < n) (hs : im_s0 n = (100, 6)) (hs2 : im_s0 (n + 1) = (100, 32)) (hz : nz_ n mi mr) : EvM d 15 [.ref m, .ref q] (sf_ LL n) mi mr (fun _ s2 m2 r2 => s2 = sf_ LL (n + 1 + 1) ∧ m2 = im_u mi m 1 (nI 0) ∧ r2 = im_u (im_u (im_u mr m 2 (some n)) m 3 (some (n + 1))) m 0 (some q)) := by
  show Ev d 15 0 [.ref m, .ref q] [] (sf_ LL n) mi mr _
  refine ev_s (is_aload_n rfl rfl) ?_
  refine ev_s (is_oinit rfl (Nat.le_of_ble_eq_true rfl)) ?_
  refine ev_s (is_aload_n rfl rfl) ?_
  refine ev_s (is_iconst (nI 0) rfl rfl) ?_
  refine ev_s (is_putI rfl (sf_at' hm0 (by omega) (by omega) hm) rfl rfl rfl) ?_
  refine ev_s (is_aload_n rfl rfl) ?_
  refine ev_s (is_bipush (nI 6) rfl rfl) ?_
  refine ev_s (en_I 6 rfl rfl (by omega) hs rfl (by simp [vn_]; try omega) (by simp [vn_]; try omega) (by repeat (first | exact hz | exact nz_m hz (by omega) | refine nz_r ?_ (by omega) | refine nz_i ?_ (by omega)))) ?_
  refine ev_s (is_putR rfl (sf_at' hm0 (by omega) (by omega) hm) rfl rfl rfl (sf_lt (by omega) (by omega))) ?_
  refine ev_s (is_aload_n rfl rfl) ?_
  refine ev_s (is_bipush (nI 32) rfl rfl) ?_
  refine ev_s (en_I 32 rfl rfl (by omega) hs2 rfl (by simp [vn_]; try omega) (by simp [vn_]; try omega) (by repeat (first | exact hz | exact nz_m hz (by omega) | refine nz_r ?_ (by omega) | refine nz_i ?_ (by omega)))) ?_
  refine ev_s (is_putR rfl (sf_at' hm0 (by omega) (by omega) hm) rfl rfl rfl (sf_lt (by omega) (by omega))) ?_
  refine ev_s (is_aload_n rfl rfl) ?_
  refine ev_s (is_aload_n rfl rfl) ?_
  refine ev_s (is_putR rfl (sf_at' hm0 (by omega) (by omega) hm) rfl rfl rfl (sf_lt (by omega) (by omega))) ?_
  exact ev_ret (is_return rfl) ⟨rfl, rfl, rfl⟩
/-- the image's men are made: i of them -/
def rl_im : Nat → im_MR → im_MR
  | 0, mr => mr
  | i + 1, mr => im_u (im_u (rl_im i mr) (42 + 2 * i) 4 (some (42 + 2 * i + 1))) 41 i (some (42 + 2 * i))
theorem rl_im_row (mr : im_MR) {k : Nat} (hk : k < 41) : ∀ i, rl_im i mr k = mr k
  | 0 => rfl
  | i + 1 => by
    show im_u (im_u (rl_im i mr) _ _ _) _ _ _ k = _
    rw [im_u_ne _ _ _ _ (by omega), im_u_ne _ _ _ _ (by omega)]
    exact rl_im_row mr hk i
theorem rl_im_nz {n : Nat} {mi : im_MI} {mr : im_MR} (hz : nz_ n mi mr) (hn : 42 ≤ n) : ∀ i, nz_ (n + 2 * i) mi (rl_im i mr) → True := fun _ _ => trivial
theorem im_s0_im : ∀ i, i < 6 → im_s0 (42 + 2 * i) = (1, 5) ∧ im_s0 (42 + 2 * i + 1) = (100, 12) := by decide
theorem xi_image {d LL : Nat} {mi : im_MI} {mr : im_MR} (hz : nz_ 41 mi mr) : EvM (d + 1) 0 [.ref 40] (sf_ LL 41) mi mr (fun _ s2 m2 r2 => s2 = sf_ LL 54 ∧ m2 = im_u mi 40 1 (nI 0) ∧ r2 = rl_im 6 (im_u mr 40 0 (some 41))) := by
  show Ev (d + 1) 0 0 [.ref 40, im_bad] [] (sf_ LL 41) mi mr _
  refine ev_s (is_aload_n rfl rfl) ?_
  refine ev_s (is_oinit rfl (Nat.le_of_ble_eq_true rfl)) ?_
  refine ev_s (is_aload_n rfl rfl) ?_
  refine ev_s (is_bipush (nI 6) rfl rfl) ?_
  refine ev_s (en_A 6 rfl rfl (by decide) rfl rfl rfl rfl rfl hz) ?_
  refine ev_s (is_putR rfl (sf_at (k := 40) (n := 42) rfl rfl) rfl rfl rfl (sf_lt (by decide) (by decide))) ?_
  refine ev_s (is_aload_n rfl rfl) ?_
  refine ev_s (is_iconst (nI 0) rfl rfl) ?_
  refine ev_s (is_putB rfl (sf_at (k := 40) (n := 42) rfl rfl) rfl rfl rfl (Or.inl rfl)) ?_
  refine ev_s (is_iconst (nI 0) rfl rfl) ?_
  refine ev_s (st_istore_n_1 rfl rfl) ?_
  have hz1 : nz_ 42 (im_u mi 40 1 (nI 0)) (im_u mr 40 0 (some 41)) := nz_i (nz_r (nz_m hz (by decide)) (by decide)) (by decide)
  have loop : ∀ (j i : Nat), i + j = 6 → nz_ (42 + 2 * i) (im_u mi 40 1 (nI 0)) (rl_im i (im_u mr 40 0 (some 41))) → Ev (d + 1) 0 20 [.ref 40, .int (nI i)] [] (sf_ LL (42 + 2 * i)) (im_u mi 40 1 (nI 0)) (rl_im i (im_u mr 40 0 (some 41))) (fun _ s2 m2 r2 => s2 = sf_ LL 54 ∧ m2 = im_u mi 40 1 (nI 0) ∧ r2 = rl_im 6 (im_u mr 40 0 (some 41))) := by
    intro j
    induction j with
    | zero =>
      intro i hi hz2
      obtain rfl : i = 6 := hi
      refine ev_s (is_iload_n rfl rfl) ?_
      refine ev_s (is_bipush (nI 6) rfl rfl) ?_
      refine ev_s (is_icmp_ge_t rfl (nI_le (by omega) (by omega))) ?_
      exact ev_ret (is_return rfl) ⟨rfl, rfl, rfl⟩
    | succ j ih =>
      intro i hi hz2
      obtain ⟨s1, s2⟩ := im_s0_im i (by omega)
      refine ev_s (is_iload_n rfl rfl) ?_
      refine ev_s (is_bipush (nI 6) rfl rfl) ?_
      refine ev_s (is_icmp_ge_f rfl (nI_ge (by omega) (by omega))) ?_
      refine ev_s (is_aload_n rfl rfl) ?_
      refine ev_s (is_getR rfl (sf_at' (k := 40) (by decide) (by omega) (by omega) rfl) rfl rfl (q := 41) (by rw [rl_im_row _ (by decide)]; exact im_u_s _ _ _ _)) ?_
      refine ev_s (is_iload_n rfl rfl) ?_
      refine ev_s (en_N rfl (by omega) s1 rfl (by simp [vn_]; try omega) (by simp [vn_]; try omega) hz2) ?_
      refine ev_s (is_dup rfl rfl) ?_
      refine ev_k0 (is_callR 1 [] [_, _, _] rfl rfl rfl rfl rfl (Nat.le_of_ble_eq_true rfl) rfl rfl rfl (sf_at' (by omega) (by omega) (by omega) s1)) rfl rfl (xi_man (by omega) (by omega) (by omega) s1 s2 (nz_m hz2 (by omega))) (by omega) (by simp [vn_]; try omega) (by simp [vn_]; try omega) ?_
      refine ev_s (is_aastore i rfl (sf_at' (k := 41) (by decide) (by omega) (by omega) rfl) (sf_at' (by omega) (by omega) (by omega) s1) rfl rfl rfl (by omega)) ?_
      refine ev_s (st_iinc_1 _ rfl rfl (nI_inc _)) ?_
      refine ev_s (is_goto rfl) ?_
      exact ih (i + 1) (by omega) (nz_r (nz_r (nz_m hz2 (by omega)) (by omega)) (by omega))
  exact loop 6 0 rfl hz1
