/-! ===== PURE, the reference is made ===== -/
def stw_ (c : Nat) : List Nat → Nat → im_MI → im_MI
  | [], _, mi => mi
  | v :: l, i, mi => stw_ c l (i + 1) (im_u mi c i (nI v))
theorem stw_row {c k : Nat} (h : k ≠ c) : ∀ (l : List Nat) (i : Nat) (mi : im_MI), stw_ c l i mi k = mi k
  | [], _, _ => rfl
  | v :: l, i, mi => (stw_row h l (i + 1) _).trans (im_u_ne _ _ _ _ h)
theorem stw_lo {c q : Nat} : ∀ (l : List Nat) (i : Nat) (mi : im_MI), q < i → stw_ c l i mi c q = mi c q
  | [], _, _, _ => rfl
  | v :: l, i, mi, h => (stw_lo l (i + 1) _ (by omega)).trans (im_u_j _ _ _ _ (by omega))
theorem stw_at {c : Nat} : ∀ (l : List Nat) (i : Nat) (mi : im_MI) (j : Nat), j < l.length → stw_ c l i mi c (i + j) = nI (l.getD j 0)
  | [], _, _, _, h => absurd h (Nat.not_lt_zero _)
  | v :: l, i, mi, 0, _ => (stw_lo l (i + 1) _ (by omega)).trans (im_u_s _ _ _ _)
  | v :: l, i, mi, j + 1, h => by
    have := stw_at (c := c) l (i + 1) (im_u mi c i (nI v)) j (Nat.lt_of_succ_lt_succ h)
    rw [show i + (j + 1) = i + 1 + j by omega]
    exact this
theorem nz_stw {n c : Nat} {mr : im_MR} (hc : c < n) : ∀ (l : List Nat) (i : Nat) (mi : im_MI), nz_ n mi mr → nz_ n (stw_ c l i mi) mr
  | [], _, _, h => h
  | v :: l, i, _, h => nz_stw hc l (i + 1) _ (nz_i h hc)
def tp_ : Nat → im_MI → im_MI
  | 0, mi => mi
  | i + 1, mi => im_u (tp_ i mi) 114 i (nI (lb_ i))
theorem tp_row {mi : im_MI} {k : Nat} (h : k ≠ 114) : ∀ i, tp_ i mi k = mi k
  | 0 => rfl
  | i + 1 => (im_u_ne _ _ _ _ h).trans (tp_row h i)
theorem tp_at {mi : im_MI} : ∀ i j, j < i → tp_ i mi 114 j = nI (lb_ j)
  | 0, j, h => absurd h (Nat.not_lt_zero _)
  | i + 1, j, h => by
    show im_u (tp_ i mi) 114 i _ 114 j = _
    by_cases c : j = i
    · subst c; rw [im_u_s]
    · rw [im_u_j _ _ _ _ c]; exact tp_at i j (by omega)
section
variable {d LL : Nat} {mi : im_MI} {mr : im_MR} {Q : ev_Q} {v : Int32}
def r10_a (mr : im_MR) : im_MR := im_u (im_u (im_u (im_u (im_u (im_u (im_u (im_u (im_u (im_u (im_u (mr) 110 1 (some 111)) 110 2 (some 112)) 110 3 (some 113)) 110 5 (some 114)) 110 7 (some 115)) 110 8 (some 116)) 110 12 (some 117)) 110 13 (some 118)) 110 14 (some 119)) 110 15 (some 120)) 110 16 (some 121)
def r10_c (mr : im_MR) : im_MR := im_u (mr) 110 17 (some 122)
def r10_e (mr : im_MR) : im_MR := im_u (im_u (im_u (im_u (im_u (im_u (im_u (im_u (im_u (im_u (mr) 110 22 (some 123)) 110 23 (some 124)) 110 27 (some 125)) 110 28 (some 126)) 110 29 (some 127)) 110 30 (some 128)) 110 31 (some 129)) 110 34 (some 130)) 110 35 (some 131)) 110 36 (some 132)
theorem xi10_e (hz : nz_ 124 mi mr) (k : Ev d 130 990 [.ref 110, im_bad] [] (sf_ LL 133) mi (r10_e mr) Q) : Ev d 130 913 [.ref 110, im_bad] [.ref 123, .ref 110] (sf_ LL 124) mi mr Q := by
  refine ev_s (is_putR rfl (sf_at (k := 110) rfl rfl) rfl rfl rfl (sf_lt (by decide) (by decide))) ?_
  refine ev_s (is_aload_n rfl rfl) ?_
  refine ev_s (is_sipush (nI 200) rfl rfl) ?_
  refine ev_s (en_I 200 rfl rfl (by decide) rfl rfl rfl rfl (by repeat (first | exact hz | exact nz_m hz (by decide) | refine nz_i ?_ (by decide) | refine nz_r ?_ (by decide)))) ?_
  refine ev_s (is_putR rfl (sf_at (k := 110) rfl rfl) rfl rfl rfl (sf_lt (by decide) (by decide))) ?_
  refine ev_s (is_aload_n rfl rfl) ?_
  refine ev_s (is_sipush (nI 200) rfl rfl) ?_
  refine ev_s (en_I 200 rfl rfl (by decide) rfl rfl rfl rfl (by repeat (first | exact hz | exact nz_m hz (by decide) | refine nz_i ?_ (by decide) | refine nz_r ?_ (by decide)))) ?_
  refine ev_s (is_putR rfl (sf_at (k := 110) rfl rfl) rfl rfl rfl (sf_lt (by decide) (by decide))) ?_
  refine ev_s (is_aload_n rfl rfl) ?_
  refine ev_s (is_bipush (nI 6) rfl rfl) ?_
  refine ev_s (en_I 6 rfl rfl (by decide) rfl rfl rfl rfl (by repeat (first | exact hz | exact nz_m hz (by decide) | refine nz_i ?_ (by decide) | refine nz_r ?_ (by decide)))) ?_
  refine ev_s (is_putR rfl (sf_at (k := 110) rfl rfl) rfl rfl rfl (sf_lt (by decide) (by decide))) ?_
  refine ev_s (is_aload_n rfl rfl) ?_
  refine ev_s (is_bipush (nI 6) rfl rfl) ?_
  refine ev_s (en_I 6 rfl rfl (by decide) rfl rfl rfl rfl (by repeat (first | exact hz | exact nz_m hz (by decide) | refine nz_i ?_ (by decide) | refine nz_r ?_ (by decide)))) ?_
  refine ev_s (is_putR rfl (sf_at (k := 110) rfl rfl) rfl rfl rfl (sf_lt (by decide) (by decide))) ?_
  refine ev_s (is_aload_n rfl rfl) ?_
  refine ev_s (is_bipush (nI 36) rfl rfl) ?_
  refine ev_s (en_I 36 rfl rfl (by decide) rfl rfl rfl rfl (by repeat (first | exact hz | exact nz_m hz (by decide) | refine nz_i ?_ (by decide) | refine nz_r ?_ (by decide)))) ?_
  refine ev_s (is_putR rfl (sf_at (k := 110) rfl rfl) rfl rfl rfl (sf_lt (by decide) (by decide))) ?_
  refine ev_s (is_aload_n rfl rfl) ?_
  refine ev_s (is_bipush (nI 6) rfl rfl) ?_
  refine ev_s (en_I 6 rfl rfl (by decide) rfl rfl rfl rfl (by repeat (first | exact hz | exact nz_m hz (by decide) | refine nz_i ?_ (by decide) | refine nz_r ?_ (by decide)))) ?_
  refine ev_s (is_putR rfl (sf_at (k := 110) rfl rfl) rfl rfl rfl (sf_lt (by decide) (by decide))) ?_
  refine ev_s (is_aload_n rfl rfl) ?_
  refine ev_s (is_bipush (nI 6) rfl rfl) ?_
  refine ev_s (en_I 6 rfl rfl (by decide) rfl rfl rfl rfl (by repeat (first | exact hz | exact nz_m hz (by decide) | refine nz_i ?_ (by decide) | refine nz_r ?_ (by decide)))) ?_
  refine ev_s (is_putR rfl (sf_at (k := 110) rfl rfl) rfl rfl rfl (sf_lt (by decide) (by decide))) ?_
  refine ev_s (is_aload_n rfl rfl) ?_
  refine ev_s (is_bipush (nI 12) rfl rfl) ?_
  refine ev_s (en_I 12 rfl rfl (by decide) rfl rfl rfl rfl (by repeat (first | exact hz | exact nz_m hz (by decide) | refine nz_i ?_ (by decide) | refine nz_r ?_ (by decide)))) ?_
  refine ev_s (is_putR rfl (sf_at (k := 110) rfl rfl) rfl rfl rfl (sf_lt (by decide) (by decide))) ?_
  refine ev_s (is_aload_n rfl rfl) ?_
  refine ev_s (is_bipush (nI 84) rfl rfl) ?_
  refine ev_s (en_I 84 rfl rfl (by decide) rfl rfl rfl rfl (by repeat (first | exact hz | exact nz_m hz (by decide) | refine nz_i ?_ (by decide) | refine nz_r ?_ (by decide)))) ?_
  refine ev_s (is_putR rfl (sf_at (k := 110) rfl rfl) rfl rfl rfl (sf_lt (by decide) (by decide))) ?_
  exact k
set_option maxRecDepth 100000 in
theorem xi10_d (k : Ev d 130 913 [.ref 110, im_bad] [.ref 123, .ref 110] (sf_ LL 124) (stw_ 123 wd_l 0 mi) mr Q) : Ev d 130 343 [.ref 110, im_bad] [.ref 123, .ref 110] (sf_ LL 124) mi mr Q := by
  refine ev_s (is_dup rfl rfl) ?_
  refine ev_s (is_iconst (nI 0) rfl rfl) ?_
  refine ev_s (is_bipush (nI 99) rfl rfl) ?_
  refine ev_s (is_iastore 0 rfl (sf_at (k := 123) rfl rfl) rfl rfl (by decide)) ?_
  refine ev_s (is_dup rfl rfl) ?_
  refine ev_s (is_iconst (nI 1) rfl rfl) ?_
  refine ev_s (is_bipush (nI 111) rfl rfl) ?_
  refine ev_s (is_iastore 1 rfl (sf_at (k := 123) rfl rfl) rfl rfl (by decide)) ?_
  refine ev_s (is_dup rfl rfl) ?_
  refine ev_s (is_iconst (nI 2) rfl rfl) ?_
  refine ev_s (is_bipush (nI 117) rfl rfl) ?_
  refine ev_s (is_iastore 2 rfl (sf_at (k := 123) rfl rfl) rfl rfl (by decide)) ?_
  refine ev_s (is_dup rfl rfl) ?_
  refine ev_s (is_iconst (nI 3) rfl rfl) ?_
  refine ev_s (is_bipush (nI 110) rfl rfl) ?_
  refine ev_s (is_iastore 3 rfl (sf_at (k := 123) rfl rfl) rfl rfl (by decide)) ?_
  refine ev_s (is_dup rfl rfl) ?_
  refine ev_s (is_iconst (nI 4) rfl rfl) ?_
  refine ev_s (is_bipush (nI 116) rfl rfl) ?_
  refine ev_s (is_iastore 4 rfl (sf_at (k := 123) rfl rfl) rfl rfl (by decide)) ?_
  refine ev_s (is_dup rfl rfl) ?_
  refine ev_s (is_iconst (nI 5) rfl rfl) ?_
  refine ev_s (is_bipush (nI 115) rfl rfl) ?_
  refine ev_s (is_iastore 5 rfl (sf_at (k := 123) rfl rfl) rfl rfl (by decide)) ?_
  refine ev_s (is_dup rfl rfl) ?_
  refine ev_s (is_bipush (nI 6) rfl rfl) ?_
  refine ev_s (is_bipush (nI 32) rfl rfl) ?_
  refine ev_s (is_iastore 6 rfl (sf_at (k := 123) rfl rfl) rfl rfl (by decide)) ?_
  refine ev_s (is_dup rfl rfl) ?_
  refine ev_s (is_bipush (nI 7) rfl rfl) ?_
  refine ev_s (is_bipush (nI 32) rfl rfl) ?_
  refine ev_s (is_iastore 7 rfl (sf_at (k := 123) rfl rfl) rfl rfl (by decide)) ?_
  refine ev_s (is_dup rfl rfl) ?_
  refine ev_s (is_bipush (nI 8) rfl rfl) ?_
  refine ev_s (is_bipush (nI 112) rfl rfl) ?_
  refine ev_s (is_iastore 8 rfl (sf_at (k := 123) rfl rfl) rfl rfl (by decide)) ?_
  refine ev_s (is_dup rfl rfl) ?_
  refine ev_s (is_bipush (nI 9) rfl rfl) ?_
  refine ev_s (is_bipush (nI 97) rfl rfl) ?_
  refine ev_s (is_iastore 9 rfl (sf_at (k := 123) rfl rfl) rfl rfl (by decide)) ?_
  refine ev_s (is_dup rfl rfl) ?_
  refine ev_s (is_bipush (nI 10) rfl rfl) ?_
  refine ev_s (is_bipush (nI 121) rfl rfl) ?_
  refine ev_s (is_iastore 10 rfl (sf_at (k := 123) rfl rfl) rfl rfl (by decide)) ?_
  refine ev_s (is_dup rfl rfl) ?_
  refine ev_s (is_bipush (nI 11) rfl rfl) ?_
  refine ev_s (is_bipush (nI 115) rfl rfl) ?_
  refine ev_s (is_iastore 11 rfl (sf_at (k := 123) rfl rfl) rfl rfl (by decide)) ?_
  refine ev_s (is_dup rfl rfl) ?_
  refine ev_s (is_bipush (nI 12) rfl rfl) ?_
  refine ev_s (is_bipush (nI 32) rfl rfl) ?_
  refine ev_s (is_iastore 12 rfl (sf_at (k := 123) rfl rfl) rfl rfl (by decide)) ?_
  refine ev_s (is_dup rfl rfl) ?_
  refine ev_s (is_bipush (nI 13) rfl rfl) ?_
  refine ev_s (is_bipush (nI 32) rfl rfl) ?_
  refine ev_s (is_iastore 13 rfl (sf_at (k := 123) rfl rfl) rfl rfl (by decide)) ?_
  refine ev_s (is_dup rfl rfl) ?_
  refine ev_s (is_bipush (nI 14) rfl rfl) ?_
  refine ev_s (is_bipush (nI 32) rfl rfl) ?_
  refine ev_s (is_iastore 14 rfl (sf_at (k := 123) rfl rfl) rfl rfl (by decide)) ?_
  refine ev_s (is_dup rfl rfl) ?_
  refine ev_s (is_bipush (nI 15) rfl rfl) ?_
  refine ev_s (is_bipush (nI 32) rfl rfl) ?_
  refine ev_s (is_iastore 15 rfl (sf_at (k := 123) rfl rfl) rfl rfl (by decide)) ?_
  refine ev_s (is_dup rfl rfl) ?_
  refine ev_s (is_bipush (nI 16) rfl rfl) ?_
  refine ev_s (is_bipush (nI 115) rfl rfl) ?_
  refine ev_s (is_iastore 16 rfl (sf_at (k := 123) rfl rfl) rfl rfl (by decide)) ?_
  refine ev_s (is_dup rfl rfl) ?_
  refine ev_s (is_bipush (nI 17) rfl rfl) ?_
  refine ev_s (is_bipush (nI 101) rfl rfl) ?_
  refine ev_s (is_iastore 17 rfl (sf_at (k := 123) rfl rfl) rfl rfl (by decide)) ?_
  refine ev_s (is_dup rfl rfl) ?_
  refine ev_s (is_bipush (nI 18) rfl rfl) ?_
  refine ev_s (is_bipush (nI 101) rfl rfl) ?_
  refine ev_s (is_iastore 18 rfl (sf_at (k := 123) rfl rfl) rfl rfl (by decide)) ?_
  refine ev_s (is_dup rfl rfl) ?_
  refine ev_s (is_bipush (nI 19) rfl rfl) ?_
  refine ev_s (is_bipush (nI 115) rfl rfl) ?_
  refine ev_s (is_iastore 19 rfl (sf_at (k := 123) rfl rfl) rfl rfl (by decide)) ?_
  refine ev_s (is_dup rfl rfl) ?_
  refine ev_s (is_bipush (nI 20) rfl rfl) ?_
  refine ev_s (is_bipush (nI 32) rfl rfl) ?_
  refine ev_s (is_iastore 20 rfl (sf_at (k := 123) rfl rfl) rfl rfl (by decide)) ?_
  refine ev_s (is_dup rfl rfl) ?_
  refine ev_s (is_bipush (nI 21) rfl rfl) ?_
  refine ev_s (is_bipush (nI 32) rfl rfl) ?_
  refine ev_s (is_iastore 21 rfl (sf_at (k := 123) rfl rfl) rfl rfl (by decide)) ?_
  refine ev_s (is_dup rfl rfl) ?_
  refine ev_s (is_bipush (nI 22) rfl rfl) ?_
  refine ev_s (is_bipush (nI 32) rfl rfl) ?_
  refine ev_s (is_iastore 22 rfl (sf_at (k := 123) rfl rfl) rfl rfl (by decide)) ?_
  refine ev_s (is_dup rfl rfl) ?_
  refine ev_s (is_bipush (nI 23) rfl rfl) ?_
  refine ev_s (is_bipush (nI 32) rfl rfl) ?_
  refine ev_s (is_iastore 23 rfl (sf_at (k := 123) rfl rfl) rfl rfl (by decide)) ?_
  refine ev_s (is_dup rfl rfl) ?_
  refine ev_s (is_bipush (nI 24) rfl rfl) ?_
  refine ev_s (is_bipush (nI 109) rfl rfl) ?_
  refine ev_s (is_iastore 24 rfl (sf_at (k := 123) rfl rfl) rfl rfl (by decide)) ?_
  refine ev_s (is_dup rfl rfl) ?_
  refine ev_s (is_bipush (nI 25) rfl rfl) ?_
  refine ev_s (is_bipush (nI 105) rfl rfl) ?_
  refine ev_s (is_iastore 25 rfl (sf_at (k := 123) rfl rfl) rfl rfl (by decide)) ?_
  refine ev_s (is_dup rfl rfl) ?_
  refine ev_s (is_bipush (nI 26) rfl rfl) ?_
  refine ev_s (is_bipush (nI 110) rfl rfl) ?_
  refine ev_s (is_iastore 26 rfl (sf_at (k := 123) rfl rfl) rfl rfl (by decide)) ?_
  refine ev_s (is_dup rfl rfl) ?_
  refine ev_s (is_bipush (nI 27) rfl rfl) ?_
  refine ev_s (is_bipush (nI 101) rfl rfl) ?_
  refine ev_s (is_iastore 27 rfl (sf_at (k := 123) rfl rfl) rfl rfl (by decide)) ?_
  refine ev_s (is_dup rfl rfl) ?_
  refine ev_s (is_bipush (nI 28) rfl rfl) ?_
  refine ev_s (is_bipush (nI 32) rfl rfl) ?_
  refine ev_s (is_iastore 28 rfl (sf_at (k := 123) rfl rfl) rfl rfl (by decide)) ?_
  refine ev_s (is_dup rfl rfl) ?_
  refine ev_s (is_bipush (nI 29) rfl rfl) ?_
  refine ev_s (is_bipush (nI 32) rfl rfl) ?_
  refine ev_s (is_iastore 29 rfl (sf_at (k := 123) rfl rfl) rfl rfl (by decide)) ?_
  refine ev_s (is_dup rfl rfl) ?_
  refine ev_s (is_bipush (nI 30) rfl rfl) ?_
  refine ev_s (is_bipush (nI 32) rfl rfl) ?_
  refine ev_s (is_iastore 30 rfl (sf_at (k := 123) rfl rfl) rfl rfl (by decide)) ?_
  refine ev_s (is_dup rfl rfl) ?_
  refine ev_s (is_bipush (nI 31) rfl rfl) ?_
  refine ev_s (is_bipush (nI 32) rfl rfl) ?_
  refine ev_s (is_iastore 31 rfl (sf_at (k := 123) rfl rfl) rfl rfl (by decide)) ?_
  refine ev_s (is_dup rfl rfl) ?_
  refine ev_s (is_bipush (nI 32) rfl rfl) ?_
  refine ev_s (is_bipush (nI 104) rfl rfl) ?_
  refine ev_s (is_iastore 32 rfl (sf_at (k := 123) rfl rfl) rfl rfl (by decide)) ?_
  refine ev_s (is_dup rfl rfl) ?_
  refine ev_s (is_bipush (nI 33) rfl rfl) ?_
  refine ev_s (is_bipush (nI 105) rfl rfl) ?_
  refine ev_s (is_iastore 33 rfl (sf_at (k := 123) rfl rfl) rfl rfl (by decide)) ?_
  refine ev_s (is_dup rfl rfl) ?_
  refine ev_s (is_bipush (nI 34) rfl rfl) ?_
  refine ev_s (is_bipush (nI 115) rfl rfl) ?_
  refine ev_s (is_iastore 34 rfl (sf_at (k := 123) rfl rfl) rfl rfl (by decide)) ?_
  refine ev_s (is_dup rfl rfl) ?_
  refine ev_s (is_bipush (nI 35) rfl rfl) ?_
  refine ev_s (is_bipush (nI 32) rfl rfl) ?_
  refine ev_s (is_iastore 35 rfl (sf_at (k := 123) rfl rfl) rfl rfl (by decide)) ?_
  refine ev_s (is_dup rfl rfl) ?_
  refine ev_s (is_bipush (nI 36) rfl rfl) ?_
  refine ev_s (is_bipush (nI 32) rfl rfl) ?_
  refine ev_s (is_iastore 36 rfl (sf_at (k := 123) rfl rfl) rfl rfl (by decide)) ?_
  refine ev_s (is_dup rfl rfl) ?_
  refine ev_s (is_bipush (nI 37) rfl rfl) ?_
  refine ev_s (is_bipush (nI 32) rfl rfl) ?_
  refine ev_s (is_iastore 37 rfl (sf_at (k := 123) rfl rfl) rfl rfl (by decide)) ?_
  refine ev_s (is_dup rfl rfl) ?_
  refine ev_s (is_bipush (nI 38) rfl rfl) ?_
  refine ev_s (is_bipush (nI 32) rfl rfl) ?_
  refine ev_s (is_iastore 38 rfl (sf_at (k := 123) rfl rfl) rfl rfl (by decide)) ?_
  refine ev_s (is_dup rfl rfl) ?_
  refine ev_s (is_bipush (nI 39) rfl rfl) ?_
  refine ev_s (is_bipush (nI 32) rfl rfl) ?_
  refine ev_s (is_iastore 39 rfl (sf_at (k := 123) rfl rfl) rfl rfl (by decide)) ?_
  refine ev_s (is_dup rfl rfl) ?_
  refine ev_s (is_bipush (nI 40) rfl rfl) ?_
  refine ev_s (is_bipush (nI 104) rfl rfl) ?_
  refine ev_s (is_iastore 40 rfl (sf_at (k := 123) rfl rfl) rfl rfl (by decide)) ?_
  refine ev_s (is_dup rfl rfl) ?_
  refine ev_s (is_bipush (nI 41) rfl rfl) ?_
  refine ev_s (is_bipush (nI 111) rfl rfl) ?_
  refine ev_s (is_iastore 41 rfl (sf_at (k := 123) rfl rfl) rfl rfl (by decide)) ?_
  refine ev_s (is_dup rfl rfl) ?_
  refine ev_s (is_bipush (nI 42) rfl rfl) ?_
  refine ev_s (is_bipush (nI 117) rfl rfl) ?_
  refine ev_s (is_iastore 42 rfl (sf_at (k := 123) rfl rfl) rfl rfl (by decide)) ?_
  refine ev_s (is_dup rfl rfl) ?_
  refine ev_s (is_bipush (nI 43) rfl rfl) ?_
  refine ev_s (is_bipush (nI 114) rfl rfl) ?_
  refine ev_s (is_iastore 43 rfl (sf_at (k := 123) rfl rfl) rfl rfl (by decide)) ?_
  refine ev_s (is_dup rfl rfl) ?_
  refine ev_s (is_bipush (nI 44) rfl rfl) ?_
  refine ev_s (is_bipush (nI 32) rfl rfl) ?_
  refine ev_s (is_iastore 44 rfl (sf_at (k := 123) rfl rfl) rfl rfl (by decide)) ?_
  refine ev_s (is_dup rfl rfl) ?_
  refine ev_s (is_bipush (nI 45) rfl rfl) ?_
  refine ev_s (is_bipush (nI 32) rfl rfl) ?_
  refine ev_s (is_iastore 45 rfl (sf_at (k := 123) rfl rfl) rfl rfl (by decide)) ?_
  refine ev_s (is_dup rfl rfl) ?_
  refine ev_s (is_bipush (nI 46) rfl rfl) ?_
  refine ev_s (is_bipush (nI 32) rfl rfl) ?_
  refine ev_s (is_iastore 46 rfl (sf_at (k := 123) rfl rfl) rfl rfl (by decide)) ?_
  refine ev_s (is_dup rfl rfl) ?_
  refine ev_s (is_bipush (nI 47) rfl rfl) ?_
  refine ev_s (is_bipush (nI 32) rfl rfl) ?_
  refine ev_s (is_iastore 47 rfl (sf_at (k := 123) rfl rfl) rfl rfl (by decide)) ?_
  refine ev_s (is_dup rfl rfl) ?_
  refine ev_s (is_bipush (nI 48) rfl rfl) ?_
  refine ev_s (is_bipush (nI 116) rfl rfl) ?_
  refine ev_s (is_iastore 48 rfl (sf_at (k := 123) rfl rfl) rfl rfl (by decide)) ?_
  refine ev_s (is_dup rfl rfl) ?_
  refine ev_s (is_bipush (nI 49) rfl rfl) ?_
  refine ev_s (is_bipush (nI 101) rfl rfl) ?_
  refine ev_s (is_iastore 49 rfl (sf_at (k := 123) rfl rfl) rfl rfl (by decide)) ?_
  refine ev_s (is_dup rfl rfl) ?_
  refine ev_s (is_bipush (nI 50) rfl rfl) ?_
  refine ev_s (is_bipush (nI 114) rfl rfl) ?_
  refine ev_s (is_iastore 50 rfl (sf_at (k := 123) rfl rfl) rfl rfl (by decide)) ?_
  refine ev_s (is_dup rfl rfl) ?_
  refine ev_s (is_bipush (nI 51) rfl rfl) ?_
  refine ev_s (is_bipush (nI 109) rfl rfl) ?_
  refine ev_s (is_iastore 51 rfl (sf_at (k := 123) rfl rfl) rfl rfl (by decide)) ?_
  refine ev_s (is_dup rfl rfl) ?_
  refine ev_s (is_bipush (nI 52) rfl rfl) ?_
  refine ev_s (is_bipush (nI 32) rfl rfl) ?_
  refine ev_s (is_iastore 52 rfl (sf_at (k := 123) rfl rfl) rfl rfl (by decide)) ?_
  refine ev_s (is_dup rfl rfl) ?_
  refine ev_s (is_bipush (nI 53) rfl rfl) ?_
  refine ev_s (is_bipush (nI 32) rfl rfl) ?_
  refine ev_s (is_iastore 53 rfl (sf_at (k := 123) rfl rfl) rfl rfl (by decide)) ?_
  refine ev_s (is_dup rfl rfl) ?_
  refine ev_s (is_bipush (nI 54) rfl rfl) ?_
  refine ev_s (is_bipush (nI 32) rfl rfl) ?_
  refine ev_s (is_iastore 54 rfl (sf_at (k := 123) rfl rfl) rfl rfl (by decide)) ?_
  refine ev_s (is_dup rfl rfl) ?_
  refine ev_s (is_bipush (nI 55) rfl rfl) ?_
  refine ev_s (is_bipush (nI 32) rfl rfl) ?_
  refine ev_s (is_iastore 55 rfl (sf_at (k := 123) rfl rfl) rfl rfl (by decide)) ?_
  refine ev_s (is_dup rfl rfl) ?_
  refine ev_s (is_bipush (nI 56) rfl rfl) ?_
  refine ev_s (is_bipush (nI 109) rfl rfl) ?_
  refine ev_s (is_iastore 56 rfl (sf_at (k := 123) rfl rfl) rfl rfl (by decide)) ?_
  refine ev_s (is_dup rfl rfl) ?_
  refine ev_s (is_bipush (nI 57) rfl rfl) ?_
  refine ev_s (is_bipush (nI 111) rfl rfl) ?_
  refine ev_s (is_iastore 57 rfl (sf_at (k := 123) rfl rfl) rfl rfl (by decide)) ?_
  refine ev_s (is_dup rfl rfl) ?_
  refine ev_s (is_bipush (nI 58) rfl rfl) ?_
  refine ev_s (is_bipush (nI 114) rfl rfl) ?_
  refine ev_s (is_iastore 58 rfl (sf_at (k := 123) rfl rfl) rfl rfl (by decide)) ?_
  refine ev_s (is_dup rfl rfl) ?_
  refine ev_s (is_bipush (nI 59) rfl rfl) ?_
  refine ev_s (is_bipush (nI 101) rfl rfl) ?_
  refine ev_s (is_iastore 59 rfl (sf_at (k := 123) rfl rfl) rfl rfl (by decide)) ?_
  refine ev_s (is_dup rfl rfl) ?_
  refine ev_s (is_bipush (nI 60) rfl rfl) ?_
  refine ev_s (is_bipush (nI 32) rfl rfl) ?_
  refine ev_s (is_iastore 60 rfl (sf_at (k := 123) rfl rfl) rfl rfl (by decide)) ?_
  refine ev_s (is_dup rfl rfl) ?_
  refine ev_s (is_bipush (nI 61) rfl rfl) ?_
  refine ev_s (is_bipush (nI 32) rfl rfl) ?_
  refine ev_s (is_iastore 61 rfl (sf_at (k := 123) rfl rfl) rfl rfl (by decide)) ?_
  refine ev_s (is_dup rfl rfl) ?_
  refine ev_s (is_bipush (nI 62) rfl rfl) ?_
  refine ev_s (is_bipush (nI 32) rfl rfl) ?_
  refine ev_s (is_iastore 62 rfl (sf_at (k := 123) rfl rfl) rfl rfl (by decide)) ?_
  refine ev_s (is_dup rfl rfl) ?_
  refine ev_s (is_bipush (nI 63) rfl rfl) ?_
  refine ev_s (is_bipush (nI 32) rfl rfl) ?_
  refine ev_s (is_iastore 63 rfl (sf_at (k := 123) rfl rfl) rfl rfl (by decide)) ?_
  refine ev_s (is_dup rfl rfl) ?_
  refine ev_s (is_bipush (nI 64) rfl rfl) ?_
  refine ev_s (is_bipush (nI 119) rfl rfl) ?_
  refine ev_s (is_iastore 64 rfl (sf_at (k := 123) rfl rfl) rfl rfl (by decide)) ?_
  refine ev_s (is_dup rfl rfl) ?_
  refine ev_s (is_bipush (nI 65) rfl rfl) ?_
  refine ev_s (is_bipush (nI 97) rfl rfl) ?_
  refine ev_s (is_iastore 65 rfl (sf_at (k := 123) rfl rfl) rfl rfl (by decide)) ?_
  refine ev_s (is_dup rfl rfl) ?_
  refine ev_s (is_bipush (nI 66) rfl rfl) ?_
  refine ev_s (is_bipush (nI 116) rfl rfl) ?_
  refine ev_s (is_iastore 66 rfl (sf_at (k := 123) rfl rfl) rfl rfl (by decide)) ?_
  refine ev_s (is_dup rfl rfl) ?_
  refine ev_s (is_bipush (nI 67) rfl rfl) ?_
  refine ev_s (is_bipush (nI 99) rfl rfl) ?_
  refine ev_s (is_iastore 67 rfl (sf_at (k := 123) rfl rfl) rfl rfl (by decide)) ?_
  refine ev_s (is_dup rfl rfl) ?_
  refine ev_s (is_bipush (nI 68) rfl rfl) ?_
  refine ev_s (is_bipush (nI 104) rfl rfl) ?_
  refine ev_s (is_iastore 68 rfl (sf_at (k := 123) rfl rfl) rfl rfl (by decide)) ?_
  refine ev_s (is_dup rfl rfl) ?_
  refine ev_s (is_bipush (nI 69) rfl rfl) ?_
  refine ev_s (is_bipush (nI 101) rfl rfl) ?_
  refine ev_s (is_iastore 69 rfl (sf_at (k := 123) rfl rfl) rfl rfl (by decide)) ?_
  refine ev_s (is_dup rfl rfl) ?_
  refine ev_s (is_bipush (nI 70) rfl rfl) ?_
  refine ev_s (is_bipush (nI 100) rfl rfl) ?_
  refine ev_s (is_iastore 70 rfl (sf_at (k := 123) rfl rfl) rfl rfl (by decide)) ?_
  refine ev_s (is_dup rfl rfl) ?_
  refine ev_s (is_bipush (nI 71) rfl rfl) ?_
  refine ev_s (is_bipush (nI 32) rfl rfl) ?_
  refine ev_s (is_iastore 71 rfl (sf_at (k := 123) rfl rfl) rfl rfl (by decide)) ?_
  refine ev_s (is_dup rfl rfl) ?_
  refine ev_s (is_bipush (nI 72) rfl rfl) ?_
  refine ev_s (is_bipush (nI 111) rfl rfl) ?_
  refine ev_s (is_iastore 72 rfl (sf_at (k := 123) rfl rfl) rfl rfl (by decide)) ?_
  refine ev_s (is_dup rfl rfl) ?_
  refine ev_s (is_bipush (nI 73) rfl rfl) ?_
  refine ev_s (is_bipush (nI 114) rfl rfl) ?_
  refine ev_s (is_iastore 73 rfl (sf_at (k := 123) rfl rfl) rfl rfl (by decide)) ?_
  refine ev_s (is_dup rfl rfl) ?_
  refine ev_s (is_bipush (nI 74) rfl rfl) ?_
  refine ev_s (is_bipush (nI 32) rfl rfl) ?_
  refine ev_s (is_iastore 74 rfl (sf_at (k := 123) rfl rfl) rfl rfl (by decide)) ?_
  refine ev_s (is_dup rfl rfl) ?_
  refine ev_s (is_bipush (nI 75) rfl rfl) ?_
  refine ev_s (is_bipush (nI 32) rfl rfl) ?_
  refine ev_s (is_iastore 75 rfl (sf_at (k := 123) rfl rfl) rfl rfl (by decide)) ?_
  refine ev_s (is_dup rfl rfl) ?_
  refine ev_s (is_bipush (nI 76) rfl rfl) ?_
  refine ev_s (is_bipush (nI 32) rfl rfl) ?_
  refine ev_s (is_iastore 76 rfl (sf_at (k := 123) rfl rfl) rfl rfl (by decide)) ?_
  refine ev_s (is_dup rfl rfl) ?_
  refine ev_s (is_bipush (nI 77) rfl rfl) ?_
  refine ev_s (is_bipush (nI 32) rfl rfl) ?_
  refine ev_s (is_iastore 77 rfl (sf_at (k := 123) rfl rfl) rfl rfl (by decide)) ?_
  refine ev_s (is_dup rfl rfl) ?_
  refine ev_s (is_bipush (nI 78) rfl rfl) ?_
  refine ev_s (is_bipush (nI 32) rfl rfl) ?_
  refine ev_s (is_iastore 78 rfl (sf_at (k := 123) rfl rfl) rfl rfl (by decide)) ?_
  refine ev_s (is_dup rfl rfl) ?_
  refine ev_s (is_bipush (nI 79) rfl rfl) ?_
  refine ev_s (is_bipush (nI 32) rfl rfl) ?_
  refine ev_s (is_iastore 79 rfl (sf_at (k := 123) rfl rfl) rfl rfl (by decide)) ?_
  refine ev_s (is_dup rfl rfl) ?_
  refine ev_s (is_bipush (nI 80) rfl rfl) ?_
  refine ev_s (is_bipush (nI 97) rfl rfl) ?_
  refine ev_s (is_iastore 80 rfl (sf_at (k := 123) rfl rfl) rfl rfl (by decide)) ?_
  refine ev_s (is_dup rfl rfl) ?_
  refine ev_s (is_bipush (nI 81) rfl rfl) ?_
  refine ev_s (is_bipush (nI 110) rfl rfl) ?_
  refine ev_s (is_iastore 81 rfl (sf_at (k := 123) rfl rfl) rfl rfl (by decide)) ?_
  refine ev_s (is_dup rfl rfl) ?_
  refine ev_s (is_bipush (nI 82) rfl rfl) ?_
  refine ev_s (is_bipush (nI 100) rfl rfl) ?_
  refine ev_s (is_iastore 82 rfl (sf_at (k := 123) rfl rfl) rfl rfl (by decide)) ?_
  refine ev_s (is_dup rfl rfl) ?_
  refine ev_s (is_bipush (nI 83) rfl rfl) ?_
  refine ev_s (is_bipush (nI 32) rfl rfl) ?_
  refine ev_s (is_iastore 83 rfl (sf_at (k := 123) rfl rfl) rfl rfl (by decide)) ?_
  refine ev_s (is_dup rfl rfl) ?_
  refine ev_s (is_bipush (nI 84) rfl rfl) ?_
  refine ev_s (is_bipush (nI 32) rfl rfl) ?_
  refine ev_s (is_iastore 84 rfl (sf_at (k := 123) rfl rfl) rfl rfl (by decide)) ?_
  refine ev_s (is_dup rfl rfl) ?_
  refine ev_s (is_bipush (nI 85) rfl rfl) ?_
  refine ev_s (is_bipush (nI 32) rfl rfl) ?_
  refine ev_s (is_iastore 85 rfl (sf_at (k := 123) rfl rfl) rfl rfl (by decide)) ?_
  refine ev_s (is_dup rfl rfl) ?_
  refine ev_s (is_bipush (nI 86) rfl rfl) ?_
  refine ev_s (is_bipush (nI 32) rfl rfl) ?_
  refine ev_s (is_iastore 86 rfl (sf_at (k := 123) rfl rfl) rfl rfl (by decide)) ?_
  refine ev_s (is_dup rfl rfl) ?_
  refine ev_s (is_bipush (nI 87) rfl rfl) ?_
  refine ev_s (is_bipush (nI 32) rfl rfl) ?_
  refine ev_s (is_iastore 87 rfl (sf_at (k := 123) rfl rfl) rfl rfl (by decide)) ?_
  refine ev_s (is_dup rfl rfl) ?_
  refine ev_s (is_bipush (nI 88) rfl rfl) ?_
  refine ev_s (is_bipush (nI 110) rfl rfl) ?_
  refine ev_s (is_iastore 88 rfl (sf_at (k := 123) rfl rfl) rfl rfl (by decide)) ?_
  refine ev_s (is_dup rfl rfl) ?_
  refine ev_s (is_bipush (nI 89) rfl rfl) ?_
  refine ev_s (is_bipush (nI 111) rfl rfl) ?_
  refine ev_s (is_iastore 89 rfl (sf_at (k := 123) rfl rfl) rfl rfl (by decide)) ?_
  refine ev_s (is_dup rfl rfl) ?_
  refine ev_s (is_bipush (nI 90) rfl rfl) ?_
  refine ev_s (is_bipush (nI 116) rfl rfl) ?_
  refine ev_s (is_iastore 90 rfl (sf_at (k := 123) rfl rfl) rfl rfl (by decide)) ?_
  refine ev_s (is_dup rfl rfl) ?_
  refine ev_s (is_bipush (nI 91) rfl rfl) ?_
  refine ev_s (is_bipush (nI 32) rfl rfl) ?_
  refine ev_s (is_iastore 91 rfl (sf_at (k := 123) rfl rfl) rfl rfl (by decide)) ?_
  refine ev_s (is_dup rfl rfl) ?_
  refine ev_s (is_bipush (nI 92) rfl rfl) ?_
  refine ev_s (is_bipush (nI 32) rfl rfl) ?_
  refine ev_s (is_iastore 92 rfl (sf_at (k := 123) rfl rfl) rfl rfl (by decide)) ?_
  refine ev_s (is_dup rfl rfl) ?_
  refine ev_s (is_bipush (nI 93) rfl rfl) ?_
  refine ev_s (is_bipush (nI 32) rfl rfl) ?_
  refine ev_s (is_iastore 93 rfl (sf_at (k := 123) rfl rfl) rfl rfl (by decide)) ?_
  refine ev_s (is_dup rfl rfl) ?_
  refine ev_s (is_bipush (nI 94) rfl rfl) ?_
  refine ev_s (is_bipush (nI 32) rfl rfl) ?_
  refine ev_s (is_iastore 94 rfl (sf_at (k := 123) rfl rfl) rfl rfl (by decide)) ?_
  refine ev_s (is_dup rfl rfl) ?_
  refine ev_s (is_bipush (nI 95) rfl rfl) ?_
  refine ev_s (is_bipush (nI 32) rfl rfl) ?_
  refine ev_s (is_iastore 95 rfl (sf_at (k := 123) rfl rfl) rfl rfl (by decide)) ?_
  exact k
theorem xi10_c (hz : nz_ 123 mi mr) (k : Ev d 130 343 [.ref 110, im_bad] [.ref 123, .ref 110] (sf_ LL 124) mi (r10_c mr) Q) : Ev d 130 335 [.ref 110, im_bad] [.ref 122, .ref 110] (sf_ LL 123) mi mr Q := by
  refine ev_s (is_putR rfl (sf_at (k := 110) rfl rfl) rfl rfl rfl (sf_lt (by decide) (by decide))) ?_
  refine ev_s (is_aload_n rfl rfl) ?_
  refine ev_s (is_bipush (nI 96) rfl rfl) ?_
  refine ev_s (en_I 96 rfl rfl (by decide) rfl rfl rfl rfl (by repeat (first | exact hz | exact nz_m hz (by decide) | refine nz_i ?_ (by decide) | refine nz_r ?_ (by decide)))) ?_
  exact k
set_option maxRecDepth 100000 in
theorem xi10_b (k : Ev d 130 335 [.ref 110, im_bad] [.ref 122, .ref 110] (sf_ LL 123) (stw_ 122 lb_l 0 mi) mr Q) : Ev d 130 113 [.ref 110, im_bad] [.ref 122, .ref 110] (sf_ LL 123) mi mr Q := by
  refine ev_s (is_dup rfl rfl) ?_
  refine ev_s (is_iconst (nI 0) rfl rfl) ?_
  refine ev_s (is_bipush (nI 99) rfl rfl) ?_
  refine ev_s (is_iastore 0 rfl (sf_at (k := 122) rfl rfl) rfl rfl (by decide)) ?_
  refine ev_s (is_dup rfl rfl) ?_
  refine ev_s (is_iconst (nI 1) rfl rfl) ?_
  refine ev_s (is_bipush (nI 111) rfl rfl) ?_
  refine ev_s (is_iastore 1 rfl (sf_at (k := 122) rfl rfl) rfl rfl (by decide)) ?_
  refine ev_s (is_dup rfl rfl) ?_
  refine ev_s (is_iconst (nI 2) rfl rfl) ?_
  refine ev_s (is_bipush (nI 117) rfl rfl) ?_
  refine ev_s (is_iastore 2 rfl (sf_at (k := 122) rfl rfl) rfl rfl (by decide)) ?_
  refine ev_s (is_dup rfl rfl) ?_
  refine ev_s (is_iconst (nI 3) rfl rfl) ?_
  refine ev_s (is_bipush (nI 110) rfl rfl) ?_
  refine ev_s (is_iastore 3 rfl (sf_at (k := 122) rfl rfl) rfl rfl (by decide)) ?_
  refine ev_s (is_dup rfl rfl) ?_
  refine ev_s (is_iconst (nI 4) rfl rfl) ?_
  refine ev_s (is_bipush (nI 116) rfl rfl) ?_
  refine ev_s (is_iastore 4 rfl (sf_at (k := 122) rfl rfl) rfl rfl (by decide)) ?_
  refine ev_s (is_dup rfl rfl) ?_
  refine ev_s (is_iconst (nI 5) rfl rfl) ?_
  refine ev_s (is_bipush (nI 115) rfl rfl) ?_
  refine ev_s (is_iastore 5 rfl (sf_at (k := 122) rfl rfl) rfl rfl (by decide)) ?_
  refine ev_s (is_dup rfl rfl) ?_
  refine ev_s (is_bipush (nI 6) rfl rfl) ?_
  refine ev_s (is_bipush (nI 32) rfl rfl) ?_
  refine ev_s (is_iastore 6 rfl (sf_at (k := 122) rfl rfl) rfl rfl (by decide)) ?_
  refine ev_s (is_dup rfl rfl) ?_
  refine ev_s (is_bipush (nI 7) rfl rfl) ?_
  refine ev_s (is_bipush (nI 109) rfl rfl) ?_
  refine ev_s (is_iastore 7 rfl (sf_at (k := 122) rfl rfl) rfl rfl (by decide)) ?_
  refine ev_s (is_dup rfl rfl) ?_
  refine ev_s (is_bipush (nI 8) rfl rfl) ?_
  refine ev_s (is_bipush (nI 105) rfl rfl) ?_
  refine ev_s (is_iastore 8 rfl (sf_at (k := 122) rfl rfl) rfl rfl (by decide)) ?_
  refine ev_s (is_dup rfl rfl) ?_
  refine ev_s (is_bipush (nI 9) rfl rfl) ?_
  refine ev_s (is_bipush (nI 110) rfl rfl) ?_
  refine ev_s (is_iastore 9 rfl (sf_at (k := 122) rfl rfl) rfl rfl (by decide)) ?_
  refine ev_s (is_dup rfl rfl) ?_
  refine ev_s (is_bipush (nI 10) rfl rfl) ?_
  refine ev_s (is_bipush (nI 101) rfl rfl) ?_
  refine ev_s (is_iastore 10 rfl (sf_at (k := 122) rfl rfl) rfl rfl (by decide)) ?_
  refine ev_s (is_dup rfl rfl) ?_
  refine ev_s (is_bipush (nI 11) rfl rfl) ?_
  refine ev_s (is_bipush (nI 32) rfl rfl) ?_
  refine ev_s (is_iastore 11 rfl (sf_at (k := 122) rfl rfl) rfl rfl (by decide)) ?_
  refine ev_s (is_dup rfl rfl) ?_
  refine ev_s (is_bipush (nI 12) rfl rfl) ?_
  refine ev_s (is_bipush (nI 42) rfl rfl) ?_
  refine ev_s (is_iastore 12 rfl (sf_at (k := 122) rfl rfl) rfl rfl (by decide)) ?_
  refine ev_s (is_dup rfl rfl) ?_
  refine ev_s (is_bipush (nI 13) rfl rfl) ?_
  refine ev_s (is_bipush (nI 32) rfl rfl) ?_
  refine ev_s (is_iastore 13 rfl (sf_at (k := 122) rfl rfl) rfl rfl (by decide)) ?_
  refine ev_s (is_dup rfl rfl) ?_
  refine ev_s (is_bipush (nI 14) rfl rfl) ?_
  refine ev_s (is_bipush (nI 104) rfl rfl) ?_
  refine ev_s (is_iastore 14 rfl (sf_at (k := 122) rfl rfl) rfl rfl (by decide)) ?_
  refine ev_s (is_dup rfl rfl) ?_
  refine ev_s (is_bipush (nI 15) rfl rfl) ?_
  refine ev_s (is_bipush (nI 105) rfl rfl) ?_
  refine ev_s (is_iastore 15 rfl (sf_at (k := 122) rfl rfl) rfl rfl (by decide)) ?_
  refine ev_s (is_dup rfl rfl) ?_
  refine ev_s (is_bipush (nI 16) rfl rfl) ?_
  refine ev_s (is_bipush (nI 115) rfl rfl) ?_
  refine ev_s (is_iastore 16 rfl (sf_at (k := 122) rfl rfl) rfl rfl (by decide)) ?_
  refine ev_s (is_dup rfl rfl) ?_
  refine ev_s (is_bipush (nI 17) rfl rfl) ?_
  refine ev_s (is_bipush (nI 32) rfl rfl) ?_
  refine ev_s (is_iastore 17 rfl (sf_at (k := 122) rfl rfl) rfl rfl (by decide)) ?_
  refine ev_s (is_dup rfl rfl) ?_
  refine ev_s (is_bipush (nI 18) rfl rfl) ?_
  refine ev_s (is_bipush (nI 59) rfl rfl) ?_
  refine ev_s (is_iastore 18 rfl (sf_at (k := 122) rfl rfl) rfl rfl (by decide)) ?_
  refine ev_s (is_dup rfl rfl) ?_
  refine ev_s (is_bipush (nI 19) rfl rfl) ?_
  refine ev_s (is_bipush (nI 32) rfl rfl) ?_
  refine ev_s (is_iastore 19 rfl (sf_at (k := 122) rfl rfl) rfl rfl (by decide)) ?_
  refine ev_s (is_dup rfl rfl) ?_
  refine ev_s (is_bipush (nI 20) rfl rfl) ?_
  refine ev_s (is_bipush (nI 112) rfl rfl) ?_
  refine ev_s (is_iastore 20 rfl (sf_at (k := 122) rfl rfl) rfl rfl (by decide)) ?_
  refine ev_s (is_dup rfl rfl) ?_
  refine ev_s (is_bipush (nI 21) rfl rfl) ?_
  refine ev_s (is_bipush (nI 97) rfl rfl) ?_
  refine ev_s (is_iastore 21 rfl (sf_at (k := 122) rfl rfl) rfl rfl (by decide)) ?_
  refine ev_s (is_dup rfl rfl) ?_
  refine ev_s (is_bipush (nI 22) rfl rfl) ?_
  refine ev_s (is_bipush (nI 121) rfl rfl) ?_
  refine ev_s (is_iastore 22 rfl (sf_at (k := 122) rfl rfl) rfl rfl (by decide)) ?_
  refine ev_s (is_dup rfl rfl) ?_
  refine ev_s (is_bipush (nI 23) rfl rfl) ?_
  refine ev_s (is_bipush (nI 115) rfl rfl) ?_
  refine ev_s (is_iastore 23 rfl (sf_at (k := 122) rfl rfl) rfl rfl (by decide)) ?_
  refine ev_s (is_dup rfl rfl) ?_
  refine ev_s (is_bipush (nI 24) rfl rfl) ?_
  refine ev_s (is_bipush (nI 32) rfl rfl) ?_
  refine ev_s (is_iastore 24 rfl (sf_at (k := 122) rfl rfl) rfl rfl (by decide)) ?_
  refine ev_s (is_dup rfl rfl) ?_
  refine ev_s (is_bipush (nI 25) rfl rfl) ?_
  refine ev_s (is_bipush (nI 57) rfl rfl) ?_
  refine ev_s (is_iastore 25 rfl (sf_at (k := 122) rfl rfl) rfl rfl (by decide)) ?_
  refine ev_s (is_dup rfl rfl) ?_
  refine ev_s (is_bipush (nI 26) rfl rfl) ?_
  refine ev_s (is_bipush (nI 32) rfl rfl) ?_
  refine ev_s (is_iastore 26 rfl (sf_at (k := 122) rfl rfl) rfl rfl (by decide)) ?_
  refine ev_s (is_dup rfl rfl) ?_
  refine ev_s (is_bipush (nI 27) rfl rfl) ?_
  refine ev_s (is_bipush (nI 59) rfl rfl) ?_
  refine ev_s (is_iastore 27 rfl (sf_at (k := 122) rfl rfl) rfl rfl (by decide)) ?_
  refine ev_s (is_dup rfl rfl) ?_
  refine ev_s (is_bipush (nI 28) rfl rfl) ?_
  refine ev_s (is_bipush (nI 32) rfl rfl) ?_
  refine ev_s (is_iastore 28 rfl (sf_at (k := 122) rfl rfl) rfl rfl (by decide)) ?_
  refine ev_s (is_dup rfl rfl) ?_
  refine ev_s (is_bipush (nI 29) rfl rfl) ?_
  refine ev_s (is_bipush (nI 115) rfl rfl) ?_
  refine ev_s (is_iastore 29 rfl (sf_at (k := 122) rfl rfl) rfl rfl (by decide)) ?_
  refine ev_s (is_dup rfl rfl) ?_
  refine ev_s (is_bipush (nI 30) rfl rfl) ?_
  refine ev_s (is_bipush (nI 101) rfl rfl) ?_
  refine ev_s (is_iastore 30 rfl (sf_at (k := 122) rfl rfl) rfl rfl (by decide)) ?_
  refine ev_s (is_dup rfl rfl) ?_
  refine ev_s (is_bipush (nI 31) rfl rfl) ?_
  refine ev_s (is_bipush (nI 101) rfl rfl) ?_
  refine ev_s (is_iastore 31 rfl (sf_at (k := 122) rfl rfl) rfl rfl (by decide)) ?_
  refine ev_s (is_dup rfl rfl) ?_
  refine ev_s (is_bipush (nI 32) rfl rfl) ?_
  refine ev_s (is_bipush (nI 115) rfl rfl) ?_
  refine ev_s (is_iastore 32 rfl (sf_at (k := 122) rfl rfl) rfl rfl (by decide)) ?_
  refine ev_s (is_dup rfl rfl) ?_
  refine ev_s (is_bipush (nI 33) rfl rfl) ?_
  refine ev_s (is_bipush (nI 32) rfl rfl) ?_
  refine ev_s (is_iastore 33 rfl (sf_at (k := 122) rfl rfl) rfl rfl (by decide)) ?_
  refine ev_s (is_dup rfl rfl) ?_
  refine ev_s (is_bipush (nI 34) rfl rfl) ?_
  refine ev_s (is_bipush (nI 50) rfl rfl) ?_
  refine ev_s (is_iastore 34 rfl (sf_at (k := 122) rfl rfl) rfl rfl (by decide)) ?_
  refine ev_s (is_dup rfl rfl) ?_
  refine ev_s (is_bipush (nI 35) rfl rfl) ?_
  refine ev_s (is_bipush (nI 48) rfl rfl) ?_
  refine ev_s (is_iastore 35 rfl (sf_at (k := 122) rfl rfl) rfl rfl (by decide)) ?_
  refine ev_s (is_dup rfl rfl) ?_
  refine ev_s (is_bipush (nI 36) rfl rfl) ?_
  refine ev_s (is_bipush (nI 32) rfl rfl) ?_
  refine ev_s (is_iastore 36 rfl (sf_at (k := 122) rfl rfl) rfl rfl (by decide)) ?_
  refine ev_s (is_dup rfl rfl) ?_
  refine ev_s (is_bipush (nI 37) rfl rfl) ?_
  refine ev_s (is_bipush (nI 59) rfl rfl) ?_
  refine ev_s (is_iastore 37 rfl (sf_at (k := 122) rfl rfl) rfl rfl (by decide)) ?_
  exact k
theorem xi10_a (hz : nz_ 111 mi mr) (k : Ev d 130 113 [.ref 110, im_bad] [.ref 122, .ref 110] (sf_ LL 123) (im_u (im_u (im_u (im_u mi 119 0 (-1)) 119 1 (-1)) 119 2 (-1)) 119 3 (-1)) (r10_a mr) Q) : Ev d 130 0 [.ref 110, im_bad] [] (sf_ LL 111) mi mr Q := by
  refine ev_s (is_aload_n rfl rfl) ?_
  refine ev_s (is_oinit rfl (Nat.le_of_ble_eq_true rfl)) ?_
  refine ev_s (is_aload_n rfl rfl) ?_
  refine ev_s (is_bipush (nI 6) rfl rfl) ?_
  refine ev_s (en_I 6 rfl rfl (by decide) rfl rfl rfl rfl (by repeat (first | exact hz | exact nz_m hz (by decide) | refine nz_i ?_ (by decide) | refine nz_r ?_ (by decide)))) ?_
  refine ev_s (is_putR rfl (sf_at (k := 110) rfl rfl) rfl rfl rfl (sf_lt (by decide) (by decide))) ?_
  refine ev_s (is_aload_n rfl rfl) ?_
  refine ev_s (is_bipush (nI 6) rfl rfl) ?_
  refine ev_s (en_I 6 rfl rfl (by decide) rfl rfl rfl rfl (by repeat (first | exact hz | exact nz_m hz (by decide) | refine nz_i ?_ (by decide) | refine nz_r ?_ (by decide)))) ?_
  refine ev_s (is_putR rfl (sf_at (k := 110) rfl rfl) rfl rfl rfl (sf_lt (by decide) (by decide))) ?_
  refine ev_s (is_aload_n rfl rfl) ?_
  refine ev_s (is_bipush (nI 84) rfl rfl) ?_
  refine ev_s (en_I 84 rfl rfl (by decide) rfl rfl rfl rfl (by repeat (first | exact hz | exact nz_m hz (by decide) | refine nz_i ?_ (by decide) | refine nz_r ?_ (by decide)))) ?_
  refine ev_s (is_putR rfl (sf_at (k := 110) rfl rfl) rfl rfl rfl (sf_lt (by decide) (by decide))) ?_
  refine ev_s (is_aload_n rfl rfl) ?_
  refine ev_s (is_sipush (nI 160) rfl rfl) ?_
  refine ev_s (en_I 160 rfl rfl (by decide) rfl rfl rfl rfl (by repeat (first | exact hz | exact nz_m hz (by decide) | refine nz_i ?_ (by decide) | refine nz_r ?_ (by decide)))) ?_
  refine ev_s (is_putR rfl (sf_at (k := 110) rfl rfl) rfl rfl rfl (sf_lt (by decide) (by decide))) ?_
  refine ev_s (is_aload_n rfl rfl) ?_
  refine ev_s (is_sipush (nI 1200) rfl rfl) ?_
  refine ev_s (en_I 1200 rfl rfl (by decide) rfl rfl rfl rfl (by repeat (first | exact hz | exact nz_m hz (by decide) | refine nz_i ?_ (by decide) | refine nz_r ?_ (by decide)))) ?_
  refine ev_s (is_putR rfl (sf_at (k := 110) rfl rfl) rfl rfl rfl (sf_lt (by decide) (by decide))) ?_
  refine ev_s (is_aload_n rfl rfl) ?_
  refine ev_s (is_bipush (nI 24) rfl rfl) ?_
  refine ev_s (en_I 24 rfl rfl (by decide) rfl rfl rfl rfl (by repeat (first | exact hz | exact nz_m hz (by decide) | refine nz_i ?_ (by decide) | refine nz_r ?_ (by decide)))) ?_
  refine ev_s (is_putR rfl (sf_at (k := 110) rfl rfl) rfl rfl rfl (sf_lt (by decide) (by decide))) ?_
  refine ev_s (is_aload_n rfl rfl) ?_
  refine ev_s (is_bipush (nI 84) rfl rfl) ?_
  refine ev_s (en_I 84 rfl rfl (by decide) rfl rfl rfl rfl (by repeat (first | exact hz | exact nz_m hz (by decide) | refine nz_i ?_ (by decide) | refine nz_r ?_ (by decide)))) ?_
  refine ev_s (is_putR rfl (sf_at (k := 110) rfl rfl) rfl rfl rfl (sf_lt (by decide) (by decide))) ?_
  refine ev_s (is_aload_n rfl rfl) ?_
  refine ev_s (is_iconst (nI 3) rfl rfl) ?_
  refine ev_s (en_I 3 rfl rfl (by decide) rfl rfl rfl rfl (by repeat (first | exact hz | exact nz_m hz (by decide) | refine nz_i ?_ (by decide) | refine nz_r ?_ (by decide)))) ?_
  refine ev_s (is_putR rfl (sf_at (k := 110) rfl rfl) rfl rfl rfl (sf_lt (by decide) (by decide))) ?_
  refine ev_s (is_aload_n rfl rfl) ?_
  refine ev_s (is_iconst (nI 4) rfl rfl) ?_
  refine ev_s (en_I 4 rfl rfl (by decide) rfl rfl rfl rfl (by repeat (first | exact hz | exact nz_m hz (by decide) | refine nz_i ?_ (by decide) | refine nz_r ?_ (by decide)))) ?_
  refine ev_s (is_dup rfl rfl) ?_
  refine ev_s (is_iconst (nI 0) rfl rfl) ?_
  refine ev_s (is_iconst ((-1)) rfl rfl) ?_
  refine ev_s (is_iastore 0 rfl (sf_at (k := 119) rfl rfl) rfl rfl (by decide)) ?_
  refine ev_s (is_dup rfl rfl) ?_
  refine ev_s (is_iconst (nI 1) rfl rfl) ?_
  refine ev_s (is_iconst ((-1)) rfl rfl) ?_
  refine ev_s (is_iastore 1 rfl (sf_at (k := 119) rfl rfl) rfl rfl (by decide)) ?_
  refine ev_s (is_dup rfl rfl) ?_
  refine ev_s (is_iconst (nI 2) rfl rfl) ?_
  refine ev_s (is_iconst ((-1)) rfl rfl) ?_
  refine ev_s (is_iastore 2 rfl (sf_at (k := 119) rfl rfl) rfl rfl (by decide)) ?_
  refine ev_s (is_dup rfl rfl) ?_
  refine ev_s (is_iconst (nI 3) rfl rfl) ?_
  refine ev_s (is_iconst ((-1)) rfl rfl) ?_
  refine ev_s (is_iastore 3 rfl (sf_at (k := 119) rfl rfl) rfl rfl (by decide)) ?_
  refine ev_s (is_putR rfl (sf_at (k := 110) rfl rfl) rfl rfl rfl (sf_lt (by decide) (by decide))) ?_
  refine ev_s (is_aload_n rfl rfl) ?_
  refine ev_s (is_iconst (nI 4) rfl rfl) ?_
  refine ev_s (en_I 4 rfl rfl (by decide) rfl rfl rfl rfl (by repeat (first | exact hz | exact nz_m hz (by decide) | refine nz_i ?_ (by decide) | refine nz_r ?_ (by decide)))) ?_
  refine ev_s (is_putR rfl (sf_at (k := 110) rfl rfl) rfl rfl rfl (sf_lt (by decide) (by decide))) ?_
  refine ev_s (is_aload_n rfl rfl) ?_
  refine ev_s (is_sipush (nI 160) rfl rfl) ?_
  refine ev_s (en_I 160 rfl rfl (by decide) rfl rfl rfl rfl (by repeat (first | exact hz | exact nz_m hz (by decide) | refine nz_i ?_ (by decide) | refine nz_r ?_ (by decide)))) ?_
  refine ev_s (is_putR rfl (sf_at (k := 110) rfl rfl) rfl rfl rfl (sf_lt (by decide) (by decide))) ?_
  refine ev_s (is_aload_n rfl rfl) ?_
  refine ev_s (is_bipush (nI 38) rfl rfl) ?_
  refine ev_s (en_I 38 rfl rfl (by decide) rfl rfl rfl rfl (by repeat (first | exact hz | exact nz_m hz (by decide) | refine nz_i ?_ (by decide) | refine nz_r ?_ (by decide)))) ?_
  exact k
end
theorem r_text0 {d : Nat} {sh : im_Sh} {mi : im_MI} {mr : im_MR} (hC : pu_C sh mr) (hT : re_M mi lb_ 38) (h9 : mi 110 9 = nI 0) : EvM (d + 4) 149 [.ref 110] sh mi mr (fun r sh2 m2 r2 => sh2 = sh ∧ (r = .int (nI 0) ∧ r2 = mr ∧ ∃ m1, ru_ 0 mi m1 ∧ rg_ 0 m1 lw_l ∧ m2 = im_u (im_u m1 110 6 (nI 0)) 110 9 (nI 1))) := by
  show Ev (d + 4) 149 0 [.ref 110, im_bad, im_bad] [] sh mi mr _
  refine ev_s (is_aload_n rfl rfl) ?_
  refine ev_s (is_getI' rfl (pu_s hC 110 rfl rfl) rfl rfl h9) ?_
  refine ev_s (is_bipush (nI 6) rfl rfl) ?_
  refine ev_s (is_icmp_ne_t rfl (by decide)) ?_
  refine ev_s (is_aload_n rfl rfl) ?_
  refine ev_s (is_iconst (nI 0) rfl rfl) ?_
  refine ev_s (is_putI rfl (pu_s hC 110 rfl rfl) rfl rfl rfl) ?_
  refine ev_s (is_aload_n rfl rfl) ?_
  refine ev_s (is_iconst (nI 0) rfl rfl) ?_
  refine ev_s (is_putI rfl (pu_s hC 110 rfl rfl) rfl rfl rfl) ?_
  refine ev_s (is_iconst (nI 1) rfl rfl) ?_
  refine ev_s (st_istore_n_1 rfl rfl) ?_
  refine ev_s (is_iconst (nI 0) rfl rfl) ?_
  refine ev_s (st_istore_n_2 rfl rfl) ?_
  refine ev_imp (rT_loop (t := 0) hC hT (by decide) h9 3 0 0 [] _ rfl (ru_u (ru_u ru_rf (Or.inl ⟨rfl, by decide⟩)) (Or.inl ⟨rfl, by decide⟩)) (Nat.zero_le _) ((im_u_j _ _ _ _ (by decide)).trans (im_u_s _ _ _ _)) ⟨im_u_s _ _ _ _, fun k hk => absurd hk (Nat.not_lt_zero _)⟩ (Nat.le_refl _) rfl (fun k hk => absurd hk (Nat.not_lt_zero _)) (fun c hc => absurd hc List.not_mem_nil)) (fun r sh2 m2 r2 hh => ?_)
  obtain ⟨rfl, rfl, m1, hu, hq⟩ := hh
  rw [lw_reads] at hq
  exact ⟨rfl, hq.1, rfl, m1, hu, hq.2.2, hq.2.1⟩
def r10_ (mr : im_MR) : im_MR := r10_e (r10_c (r10_a mr))
def i10_ (mi : im_MI) : im_MI := im_u (tp_ 38 (stw_ 123 wd_l 0 (stw_ 122 lb_l 0 (im_u (im_u (im_u (im_u mi 119 0 (-1)) 119 1 (-1)) 119 2 (-1)) 119 3 (-1))))) 110 6 (nI 38)
theorem lb_256 (j : Nat) : lb_ j < 256 := by
  by_cases c : j < 38
  · have := lb_lt j c; omega
  · unfold lb_; rw [List.getD_eq_getElem?_getD, List.getElem?_eq_none (by show 38 ≤ j; omega)]; decide
theorem xi_ref {d LL : Nat} {mi0 : im_MI} {mr0 : im_MR} (hz : nz_ 111 mi0 mr0) (h110 : mi0 110 = fun _ => 0) (hC : pu_C (sf_ LL 133) (r10_ mr0)) : EvM (d + 5) 130 [.ref 110] (sf_ LL 111) mi0 mr0 (fun _ s2 m2 r2 => s2 = sf_ LL 133 ∧ r2 = r10_ mr0 ∧ ∃ m1, ru_ 0 (i10_ mi0) m1 ∧ rg_ 0 m1 lw_l ∧ m2 = im_u (im_u m1 110 6 (nI 0)) 110 9 (nI 1)) := by
  show Ev (d + 5) 130 0 [.ref 110, im_bad] [] (sf_ LL 111) mi0 mr0 _
  refine xi10_a hz ?_
  refine xi10_b ?_
  refine xi10_c (by unfold r10_a; exact (by repeat (first | exact hz | exact nz_m hz (by decide) | refine nz_stw (by decide) _ _ _ ?_ | refine nz_i ?_ (by decide) | refine nz_r ?_ (by decide)))) ?_
  refine xi10_d ?_
  refine xi10_e (by unfold r10_c r10_a; exact (by repeat (first | exact hz | exact nz_m hz (by decide) | refine nz_stw (by decide) _ _ _ ?_ | refine nz_i ?_ (by decide) | refine nz_r ?_ (by decide)))) ?_
  show Ev (d + 5) 130 990 [.ref 110, im_bad] [] (sf_ LL 133) (stw_ 123 wd_l 0 (stw_ 122 lb_l 0 (im_u (im_u (im_u (im_u mi0 119 0 (-1)) 119 1 (-1)) 119 2 (-1)) 119 3 (-1)))) (r10_ mr0) _
  have hl : ∀ j, j < 38 → (stw_ 123 wd_l 0 (stw_ 122 lb_l 0 (im_u (im_u (im_u (im_u mi0 119 0 (-1)) 119 1 (-1)) 119 2 (-1)) 119 3 (-1)))) 122 j = nI (lb_ j) := fun j hj => by
    rw [stw_row (by decide)]
    have := stw_at (c := 122) lb_l 0 (im_u (im_u (im_u (im_u mi0 119 0 (-1)) 119 1 (-1)) 119 2 (-1)) 119 3 (-1)) j hj
    rw [Nat.zero_add] at this
    exact this
  have hw : ∀ j, j < 96 → (stw_ 123 wd_l 0 (stw_ 122 lb_l 0 (im_u (im_u (im_u (im_u mi0 119 0 (-1)) 119 1 (-1)) 119 2 (-1)) 119 3 (-1)))) 123 j = nI (wd_ j) := fun j hj => by
    have := stw_at (c := 123) wd_l 0 (stw_ 122 lb_l 0 (im_u (im_u (im_u (im_u mi0 119 0 (-1)) 119 1 (-1)) 119 2 (-1)) 119 3 (-1))) j hj
    rw [Nat.zero_add] at this
    exact this
  have h1 : ∀ j, (stw_ 123 wd_l 0 (stw_ 122 lb_l 0 (im_u (im_u (im_u (im_u mi0 119 0 (-1)) 119 1 (-1)) 119 2 (-1)) 119 3 (-1)))) 110 j = 0 := fun j => by
    rw [stw_row (by decide), stw_row (by decide), im_u_k _ _ _ _ (by decide), im_u_k _ _ _ _ (by decide), im_u_k _ _ _ _ (by decide), im_u_k _ _ _ _ (by decide), h110]
  unfold i10_
  generalize (stw_ 123 wd_l 0 (stw_ 122 lb_l 0 (im_u (im_u (im_u (im_u mi0 119 0 (-1)) 119 1 (-1)) 119 2 (-1)) 119 3 (-1)))) = mb at hl hw h1 ⊢
  have loop : ∀ (j i : Nat), i + j = 38 → Ev (d + 5) 130 992 [.ref 110, .int (nI i)] [] (sf_ LL 133) (tp_ i mb) (r10_ mr0) (fun _ s2 m2 r2 => s2 = sf_ LL 133 ∧ r2 = r10_ mr0 ∧ ∃ m1, ru_ 0 (im_u (tp_ 38 mb) 110 6 (nI 38)) m1 ∧ rg_ 0 m1 lw_l ∧ m2 = im_u (im_u m1 110 6 (nI 0)) 110 9 (nI 1)) := by
    intro j
    induction j with
    | zero =>
      intro i hi
      obtain rfl : i = 38 := hi
      refine ev_s (is_iload_n rfl rfl) ?_
      refine ev_s (is_bipush (nI 38) rfl rfl) ?_
      refine ev_s (is_icmp_ge_t rfl (nI_le (by omega) (by omega))) ?_
      refine ev_s (is_aload_n rfl rfl) ?_
      refine ev_s (is_bipush (nI 38) rfl rfl) ?_
      refine ev_s (is_putI rfl (pu_s hC 110 rfl rfl) rfl rfl rfl) ?_
      have hT0 : re_M (im_u (tp_ 38 mb) 110 6 (nI 38)) lb_ 38 := ⟨im_u_s _ _ _ _, fun j hj => by rw [im_u_k _ _ _ _ (by decide)]; exact tp_at 38 j hj, by decide, lb_256, fun j hj => by rw [im_u_k _ _ _ _ (by decide), tp_row (by decide)]; exact hw j hj⟩
      have h90 : (im_u (tp_ 38 mb) 110 6 (nI 38)) 110 9 = nI 0 := by rw [im_u_j _ _ _ _ (by decide), tp_row (by decide), h1]; rfl
      refine ev_s (is_aload_n rfl rfl) ?_
      refine ev_q1 (is_callR 1 [] [] rfl rfl rfl rfl rfl (Nat.le_of_ble_eq_true rfl) rfl rfl rfl (pu_s hC 110 rfl rfl)) rfl rfl (r_text0 hC hT0 h90) (fun r_1023 mi mr hq_1023 => ?_)
      obtain ⟨rfl, rfl, m1, hu, hg, rfl⟩ := hq_1023
      refine ev_s (is_pop rfl rfl) ?_
      refine ev_ret (is_return rfl) ?_
      exact ⟨rfl, rfl, m1, hu, hg, rfl⟩
    | succ j ih =>
      intro i hi
      refine ev_s (is_iload_n rfl rfl) ?_
      refine ev_s (is_bipush (nI 38) rfl rfl) ?_
      refine ev_s (is_icmp_ge_f rfl (nI_ge (by omega) (by omega))) ?_
      refine ev_s (is_aload_n rfl rfl) ?_
      refine ev_s (is_getR rfl (pu_s hC 110 rfl rfl) rfl rfl (pu_r hC 110 5 rfl rfl)) ?_
      refine ev_s (is_iload_n rfl rfl) ?_
      refine ev_s (is_aload_n rfl rfl) ?_
      refine ev_s (is_getR rfl (pu_s hC 110 rfl rfl) rfl rfl (pu_r hC 110 17 rfl rfl)) ?_
      refine ev_s (is_iload_n rfl rfl) ?_
      refine ev_s (is_iaload' (i) rfl (pu_s hC 122 rfl rfl) rfl rfl (by omega) (show tp_ i mb 122 i = nI (lb_ i) by rw [tp_row (by decide)]; exact hl i (by omega))) ?_
      refine ev_s (is_iastore (i) rfl (pu_s hC 114 rfl rfl) rfl rfl (by omega)) ?_
      refine ev_s (st_iinc_1 _ rfl rfl (nI_inc _)) ?_
      refine ev_s (is_goto rfl) ?_
      exact ih (i + 1) (by omega)
  refine ev_s (is_iconst (nI 0) rfl rfl) ?_
  refine ev_s (st_istore_n_1 rfl rfl) ?_
  exact loop 38 0 rfl
