/-! ===== PURE, the class: taken, film, menBy ===== -/

/-- a kind's kind above -/
def kd_up (k : Nat) : Nat := if k = 3 then 1 else if k = 4 then 2 else 0
theorem kd_up_lt (k : Nat) : kd_up k < 6 := by unfold kd_up; split <;> (try split) <;> decide
def kd_lp (q : Nat) : Nat → Nat → Bool
  | 0, _ => false
  | j + 1, a => if a = q then true else kd_lp q j (kd_up a)
theorem kd_lp_one : ∀ k, k < 6 → ∀ q, q < 6 → kd_lp q 3 k = kd_one k q := by decide
def xk_up (mi : im_MI) : Prop := ∀ j, j < 6 → mi 1 j = nI (kd_up j)

theorem x_isOne {d : Nat} {sh : im_Sh} {mi : im_MI} {mr : im_MR} (hC : pu_C sh mr) (hA : xk_up mi) {k q : Nat} (hk : k < 6) (hq : q < 6) : EvM (d + 1) 5 [.int (nI k), .int (nI q)] sh mi mr (ev_R sh (.int (pu_b (kd_one k q = true))) mi mr) := by
  show Ev (d + 1) 5 0 [.int (nI k), .int (nI q), im_bad, im_bad] [] sh mi mr _
  rw [← kd_lp_one k hk q hq]
  have loop : ∀ (j i : Nat) (a : Nat), i + j = 3 → a < 6 → Ev (d + 1) 5 4 [.int (nI k), .int (nI q), .int (nI a), .int (nI i)] [] sh mi mr (ev_R sh (.int (pu_b (kd_lp q j a = true))) mi mr) := by
    intro j
    induction j with
    | zero =>
      intro i a hi ha
      refine ev_s (is_iload_n rfl rfl) ?_
      refine ev_s (is_iconst (nI 3) rfl rfl) ?_
      refine ev_s (is_icmp_ge_t rfl (nI_le (by omega) (by omega))) ?_
      refine ev_s (is_iconst (nI 0) rfl rfl) ?_
      refine ev_ret (is_ireturn rfl rfl (by first | rfl | exact pu_b_nar | decide)) ?_
      exact ⟨rfl, rfl, rfl, rfl⟩
    | succ j ih =>
      intro i a hi ha
      refine ev_s (is_iload_n rfl rfl) ?_
      refine ev_s (is_iconst (nI 3) rfl rfl) ?_
      refine ev_s (is_icmp_ge_f rfl (nI_ge (by omega) (by omega))) ?_
      refine ev_s (is_iload_n rfl rfl) ?_
      refine ev_s (is_iload_n rfl rfl) ?_
      refine ev_icmpN_ne rfl (by omega) (by omega) (fun h_11 => ?_) (fun h_11 => ?_)
      · refine ev_s (is_iload_n rfl rfl) ?_
        refine ev_s (is_iconst (nI 0) rfl rfl) ?_
        refine ev_s (is_iconst (nI 5) rfl rfl) ?_
        refine ev_c1 (is_call0 3 [_, _, _] [] rfl rfl rfl rfl rfl (Nat.le_of_ble_eq_true rfl) rfl rfl rfl) rfl rfl (x_within' _ _ _) ?_
        refine ev_ifB_ne rfl (fun h_22 => ?_) (fun h_22 => ?_)
        · refine ev_s (is_gets rfl) ?_
          refine ev_s (is_iload_n rfl rfl) ?_
          refine ev_s (is_ialoadX a rfl (pu_s hC 1 rfl rfl) rfl rfl ha) ?_
          rw [hA a ha]
          refine ev_s (st_istore_n_2 rfl rfl) ?_
          refine ev_s (st_iinc_3 _ rfl rfl (nI_inc _)) ?_
          refine ev_s (is_goto rfl) ?_
          have := ih (i + 1) (kd_up a) (by omega) (kd_up_lt a)
          rw [kd_lp, if_neg h_11]
          exact this
        · refine ev_s (is_iconst (nI 0) rfl rfl) ?_
          refine ev_ret (is_ireturn rfl rfl (by first | rfl | exact pu_b_nar | decide)) ?_
          exact absurd (ho_rng_t (lo := 0) (hi := 5) (by omega) (by omega) (by decide)) h_22
      · refine ev_s (is_iconst (nI 1) rfl rfl) ?_
        refine ev_ret (is_ireturn rfl rfl (by first | rfl | exact pu_b_nar | decide)) ?_
        exact ⟨by rw [kd_lp, if_pos h_11]; rfl, rfl, rfl, rfl⟩
  refine ev_s (is_iload_n rfl rfl) ?_
  refine ev_s (st_istore_n_2 rfl rfl) ?_
  refine ev_s (is_iconst (nI 0) rfl rfl) ?_
  refine ev_s (st_istore_n_3 rfl rfl) ?_
  exact loop 3 0 k (by omega) hk

theorem x_taken {d : Nat} {sh : im_Sh} {mi : im_MI} {mr : im_MR} (hC : pu_C sh mr) {H : ho_T} {G : ho_G} (hx : xa_ok H G mi mr) (hA : xk_up mi) (i k : Int32) : EvM (d + 2) 102 [.ref 29, .int i, .int k] sh mi mr (ev_R sh (.int (an_taken H i k)) mi mr) := by
  show Ev (d + 2) 102 0 [.ref 29, .int i, .int k] [] sh mi mr _
  have hn6 := xa_n hx
  have hs : sc_ xQ mi mi := sc_rf
  refine ev_s (is_iload_n rfl rfl) ?_
  refine ev_s (is_iconst (nI 0) rfl rfl) ?_
  refine ev_s (is_bipush (nI 6) rfl rfl) ?_
  refine ev_c1 (is_call0 3 [_, _, _] [] rfl rfl rfl rfl rfl (Nat.le_of_ble_eq_true rfl) rfl rfl rfl) rfl rfl (x_within' _ _ _) ?_
  refine ev_ifB_ne rfl (fun h_7 => ?_) (fun h_7 => ?_)
  · obtain ⟨k0, rfl, lk0, uk0, ek0⟩ := ho_rng_n h_7 (by decide) (by decide)
    refine ev_s (is_iload_n rfl rfl) ?_
    refine ev_s (is_iconst (nI 0) rfl rfl) ?_
    refine ev_s (is_bipush (nI 17) rfl rfl) ?_
    refine ev_c1 (is_call0 3 [_, _, _] [] rfl rfl rfl rfl rfl (Nat.le_of_ble_eq_true rfl) rfl rfl rfl) rfl rfl (x_within' _ _ _) ?_
    refine ev_ifB_ne rfl (fun h_20 => ?_) (fun h_20 => ?_)
    · obtain ⟨i0, rfl, li0, ui0, ei0⟩ := ho_rng_n h_20 (by decide) (by decide)
      refine ev_s (is_iload_n rfl rfl) ?_
      refine ev_s (is_bipush (nI 6) rfl rfl) ?_
      first
        | refine ev_icmpN_lt rfl (by omega) (by omega) (fun h_29 => ?_) (fun h_29 => ?_)
        | refine ev_icmp_lt rfl (fun h_29 => ?_) (fun h_29 => ?_)
      · have e29 : ¬ 6 ≤ i0 := by omega
        refine ev_s (is_aload_n rfl rfl) ?_
        refine ev_s (is_iload_n rfl rfl) ?_
        refine ev_c1 (is_callR 2 [_] [] rfl rfl rfl rfl rfl (Nat.le_of_ble_eq_true rfl) rfl rfl rfl (pu_s hC 29 rfl rfl)) rfl rfl (x_noMan' hC hx _) ?_
        refine ev_ifB_eq rfl (fun h_66 => ?_) (fun h_66 => ?_)
        · have h_66b := Decidable.of_not_not h_66
          have e66 : ¬ H 0 0 ≤ i0 := fun q => by obtain ⟨p, hp, hpl, _⟩ := ho_isM_n hn6 h_66b; have := (nI_eq (by omega) (by omega)).mp hp; omega
          refine ev_s (is_iload_n rfl rfl) ?_
          refine ev_s (is_bipush (nI 6) rfl rfl) ?_
          first
            | refine ev_icmpN_ge rfl (by omega) (by omega) (fun h_75 => ?_) (fun h_75 => ?_)
            | refine ev_icmp_ge rfl (fun h_75 => ?_) (fun h_75 => ?_)
          · have e75 : nI k0 = nI 6 := by rw [show k0 = 6 by omega]
            refine ev_s (is_bipush ((-13)) rfl rfl) ?_
            refine ev_ret (is_ireturn rfl rfl (by first | rfl | exact pu_b_nar | decide)) ?_
            refine ⟨?_, rfl, rfl, rfl⟩
            simp [an_taken, show ho_rng (nI 0) (nI 6) (nI 6) = true by decide, h_7, ek0, h_20, ei0, e29, e66, e75]
          · have e75 : ¬ nI k0 = nI 6 := fun q => absurd ((nI_eq (by omega) (by decide)).mp q) (by omega)
            refine ev_s (is_aload_n rfl rfl) ?_
            refine ev_s (is_getR rfl (pu_s hC 29 rfl rfl) rfl rfl (pu_r hC 29 0 rfl rfl)) ?_
            refine ev_s (is_iload_n rfl rfl) ?_
            refine ev_s (is_aaload (k := 1) (i0) rfl (pu_s hC 30 rfl rfl) rfl rfl rfl (by omega) (pu_rows hC (by omega)).1) ?_
            have hlt : i0 < H 0 0 := by omega
            refine ev_s (is_getI' rfl (pu_M hC (xm_Mi (m := i0) (by omega))).1 rfl rfl (xa_kind hx (by omega))) ?_
            refine ev_s (is_iload_n rfl rfl) ?_
            refine ev_c1 (is_call0 2 [_, _] [] rfl rfl rfl rfl rfl (Nat.le_of_ble_eq_true rfl) rfl rfl rfl) rfl rfl (x_isOne hC hA (k := H 1 i0) (q := k0) (xa_bd hx |>.2.2.2.2.2.1 i0) (by omega)) ?_
            refine ev_ifB_eq rfl (fun h_91 => ?_) (fun h_91 => ?_)
            · refine ev_s (is_bipush ((-13)) rfl rfl) ?_
              refine ev_ret (is_ireturn rfl rfl (by first | rfl | exact pu_b_nar | decide)) ?_
              refine ⟨?_, rfl, rfl, rfl⟩
              simp [an_taken, show ho_rng (nI 0) (nI 6) (nI 6) = true by decide, h_7, ek0, h_20, ei0, e29, e66, e75, h_91]
            · refine ev_s (is_iload_n rfl rfl) ?_
              refine ev_s (is_goto rfl) ?_
              refine ev_ret (is_ireturn rfl rfl (by first | rfl | exact pu_b_nar | decide)) ?_
              refine ⟨?_, rfl, rfl, rfl⟩
              simp [an_taken, show ho_rng (nI 0) (nI 6) (nI 6) = true by decide, h_7, ek0, h_20, ei0, e29, e66, e75, h_91]
        · have e66 : H 0 0 ≤ i0 := by rcases Nat.lt_or_ge i0 (H 0 0) with q | q; exact absurd (ho_isM_t hn6 q) h_66; exact q
          refine ev_s (is_bipush ((-11)) rfl rfl) ?_
          refine ev_ret (is_ireturn rfl rfl (by first | rfl | exact pu_b_nar | decide)) ?_
          refine ⟨?_, rfl, rfl, rfl⟩
          simp [an_taken, show ho_rng (nI 0) (nI 6) (nI 6) = true by decide, h_7, ek0, h_20, ei0, e29, e66]
      · have e29 : 6 ≤ i0 := by omega
        refine ev_s (is_iload_n rfl rfl) ?_
        refine ev_s (is_bipush (nI 6) rfl rfl) ?_
        first
          | refine ev_icmpN_eq rfl (by omega) (by omega) (fun h_35 => ?_) (fun h_35 => ?_)
          | refine ev_icmp_eq rfl (fun h_35 => ?_) (fun h_35 => ?_)
        · have e35 : nI k0 = nI 6 := by rw [h_35]
          refine ev_s (is_aload_n rfl rfl) ?_
          refine ev_s (is_getR rfl (pu_s hC 29 rfl rfl) rfl rfl (pu_r hC 29 3 rfl rfl)) ?_
          refine ev_s (is_iload_n rfl rfl) ?_
          refine ev_s (is_bipush (nI 6) rfl rfl) ?_
          first
            | refine ev_s (is_isub _ rfl (pk_sub (by omega))) ?_
            | refine ev_s (is_isub _ rfl rfl) ?_
          refine ev_c1 (is_callR 2 [_] [] rfl rfl rfl rfl rfl (Nat.le_of_ble_eq_true rfl) rfl rfl rfl (pu_s hC 104 rfl rfl)) rfl rfl (x_isWatched hC (Or.inl rfl) (i := i0 - 6) hx.2.2.2.1 (by have := xa_w hx; omega) (by omega)) ?_
          refine ev_ifB_eq rfl (fun h_52 => ?_) (fun h_52 => ?_)
          · have e52 : ho_w H (i0 - 6) = 0 := by have := ho_w_lt H (i0 - 6); have h0 : ¬ ho_w H (i0 - 6) = 1 := h_52; omega
            refine ev_s (is_iconst (nI 0) rfl rfl) ?_
            refine ev_ret (is_ireturn rfl rfl (by first | rfl | exact pu_b_nar | decide)) ?_
            refine ⟨?_, rfl, rfl, rfl⟩
            simp [an_taken, show ho_rng (nI 0) (nI 6) (nI 6) = true by decide, h_7, ek0, h_20, ei0, e29, e35, e52]
          · have e52 : ho_w H (i0 - 6) = 1 := h_52
            refine ev_s (is_iconst (nI 1) rfl rfl) ?_
            refine ev_s (is_goto rfl) ?_
            refine ev_ret (is_ireturn rfl rfl (by first | rfl | exact pu_b_nar | decide)) ?_
            refine ⟨?_, rfl, rfl, rfl⟩
            simp [an_taken, show ho_rng (nI 0) (nI 6) (nI 6) = true by decide, h_7, ek0, h_20, ei0, e29, e35, e52]
        · have e35 : ¬ nI k0 = nI 6 := fun q => h_35 ((nI_eq (by omega) (by decide)).mp q)
          refine ev_s (is_bipush ((-13)) rfl rfl) ?_
          refine ev_ret (is_ireturn rfl rfl (by first | rfl | exact pu_b_nar | decide)) ?_
          refine ⟨?_, rfl, rfl, rfl⟩
          simp [an_taken, show ho_rng (nI 0) (nI 6) (nI 6) = true by decide, h_7, ek0, h_20, ei0, e29, e35]
    · refine ev_s (is_bipush ((-12)) rfl rfl) ?_
      refine ev_ret (is_ireturn rfl rfl (by first | rfl | exact pu_b_nar | decide)) ?_
      refine ⟨?_, rfl, rfl, rfl⟩
      simp [an_taken, show ho_rng (nI 0) (nI 6) (nI 6) = true by decide, h_7, ek0, h_20]
  · refine ev_s (is_bipush ((-2)) rfl rfl) ?_
    refine ev_ret (is_ireturn rfl rfl (by first | rfl | exact pu_b_nar | decide)) ?_
    refine ⟨?_, rfl, rfl, rfl⟩
    simp [an_taken, show ho_rng (nI 0) (nI 6) (nI 6) = true by decide, h_7]

def an_film (H : ho_T) (s m n : Int32) : Int32 := if ho_rng (nI 0) s (nI 3) = true then (if ho_isM H m = true then (if ho_rng (nI 0) n (nI 12) = true then n else -7) else -5) else -2
def fl_K (H K : ho_T) (G : ho_G) (s m n : Nat) : ho_T := fun i j => if i = 4 ∧ j = s then 2 else if i = 5 ∧ j = s then n else if i = 20 + s then (if j < n then ho_comp H G m j else 0) else K i j
def st_film (H K : ho_T) (G : ho_G) (s m n : Int32) : ho_T := if ho_rng (nI 0) s (nI 3) = true then (if ho_isM H m = true then (if ho_rng (nI 0) n (nI 12) = true then fl_K H K G (jn s) (jn m) (jn n) else K) else K) else K
theorem sc_split {S T : Nat → Bool} {a c : im_MI} (h : sc_ (fun k => S k || T k) a c) : ∃ b, sc_ S a b ∧ sc_ T b c := by
  refine ⟨fun k => bif S k then c k else a k, fun k hk => ?_, fun k hk => ?_⟩
  · show (bif S k then c k else a k) = a k
    rw [hk]; rfl
  · show c k = (bif S k then c k else a k)
    cases e : S k with
    | true => rfl
    | false => exact h k (by show (S k || T k) = false; rw [e, hk]; rfl)
theorem sh_v2 : ∀ v, v < 110 → sh_v 2 (nI v) = nI v := by decide +kernel
theorem ho_comp_le' {H : ho_T} {G : ho_G} {mi : im_MI} {mr : im_MR} (hx : xa_ok H G mi mr) (m h : Nat) : ho_comp H G m h ≤ 109 := ho_comp_le H G (xa_bd hx) m h

theorem x_film {d : Nat} {sh : im_Sh} {mi : im_MI} {mr : im_MR} (hC : pu_C sh mr) {H K : ho_T} {G : ho_G} (hx : xa_ok H G mi mr) (hz : xh_ok H K mi) (s m n : Int32) : EvM (d + 4) 93 [.ref 29, .int s, .int m, .int n] sh mi mr (fun r sh2 m2 r2 => sh2 = sh ∧ (r = .int (an_film H s m n) ∧ r2 = mr ∧ xa_ok (H) G m2 mr ∧ xh_ok (H) (st_film H K G s m n) m2 ∧ sc_ xAll mi m2)) := by
  show Ev (d + 4) 93 0 [.ref 29, .int s, .int m, .int n, im_bad, im_bad] [] sh mi mr _
  have hn6 := xa_n hx
  have hs : sc_ xQ mi mi := sc_rf
  refine ev_s (is_iload_n rfl rfl) ?_
  refine ev_c1 (is_call0 1 [_] [] rfl rfl rfl rfl rfl (Nat.le_of_ble_eq_true rfl) rfl rfl rfl) rfl rfl (x_noSheet _) ?_
  refine ev_ifB_eq rfl (fun h_4 => ?_) (fun h_4 => ?_)
  · have h_4 := Decidable.of_not_not h_4
    obtain ⟨s0, rfl, ls0, us0, es0⟩ := ho_rng_n h_4 (by decide) (by decide)
    refine ev_s (is_aload_n rfl rfl) ?_
    refine ev_s (is_iload_n rfl rfl) ?_
    refine ev_c1 (is_callR 2 [_] [] rfl rfl rfl rfl rfl (Nat.le_of_ble_eq_true rfl) rfl rfl rfl (pu_s hC 29 rfl rfl)) rfl rfl (x_noMan' hC hx _) ?_
    refine ev_ifB_eq rfl (fun h_15 => ?_) (fun h_15 => ?_)
    · have h_15 := Decidable.of_not_not h_15
      obtain ⟨m0, rfl, hm0, em0⟩ := ho_isM_n hn6 h_15
      refine ev_s (is_iload_n rfl rfl) ?_
      refine ev_s (is_iconst (nI 0) rfl rfl) ?_
      refine ev_s (is_bipush (nI 12) rfl rfl) ?_
      refine ev_c1 (is_call0 3 [_, _, _] [] rfl rfl rfl rfl rfl (Nat.le_of_ble_eq_true rfl) rfl rfl rfl) rfl rfl (x_within' _ _ _) ?_
      refine ev_ifB_ne rfl (fun h_28 => ?_) (fun h_28 => ?_)
      · obtain ⟨n0, rfl, ln0, un0, en0⟩ := ho_rng_n h_28 (by decide) (by decide)
        have hx0 := hx
        have ha : an_film H (nI s0) (nI m0) (nI n0) = nI n0 := by simp [an_film, es0, em0, en0, h_28, h_4, ho_isM_t hn6 hm0]
        have hst : st_film H K G (nI s0) (nI m0) (nI n0) = fl_K H K G s0 m0 n0 := by simp [st_film, es0, em0, en0, h_28, h_4, ho_isM_t hn6 hm0]
        rw [ha, hst]
        have loop : ∀ (j i : Nat) (ma : im_MI), i + j = n0 → sc_ (fun k => xQ k || xM2 (96 + 2 * s0) k) mi ma → xa_ok H G ma mr → ma (96 + 2 * s0) 1 = nI 2 - 1 → ma (96 + 2 * s0) 2 = nI n0 → (∀ j, j < 40 → ma (97 + 2 * s0) j = nI (if j < i then ho_comp H G m0 j else 0)) → Ev (d + 4) 93 55 [.ref 29, .int (nI s0), .int (nI m0), .int (nI n0), xoc (ho_mcell H m0), .int (nI i)] [] sh ma mr (fun r sh2 m2 r2 => sh2 = sh ∧ (r = .int (nI n0) ∧ r2 = mr ∧ xa_ok (H) G m2 mr ∧ xh_ok (H) (fl_K H K G s0 m0 n0) m2 ∧ sc_ xAll mi m2)) := by
          intro j
          induction j with
          | zero =>
            intro i ma hi hs hx g1 g2 g3
            refine ev_s (is_iload rfl rfl) ?_
            refine ev_s (is_iload_n rfl rfl) ?_
            refine ev_s (is_icmp_ge_t rfl (nI_le (by omega) (by omega))) ?_
            refine ev_s (is_iload_n rfl rfl) ?_
            refine ev_ret (is_ireturn rfl rfl (by first | rfl | exact pu_b_nar | decide)) ?_
            obtain ⟨mb, hb1, hb2⟩ := sc_split hs
            have hxQ := xh_sc hx0 hz hb1
            refine ⟨rfl, rfl, rfl, hx, ?_, (hb1.mono xQ_all).trans ((hb2.mono (xM2_host (by omega))).mono xHost_all)⟩
            refine xh_sheet hxQ hn6 (z := 2) (n := n0) (by omega) (by decide) (by omega) hb2 g1 g2 (f := fun j => if j < n0 then ho_comp H G m0 j else 0) (fun j => ?_) (fun j hj => ?_) (fun q => ?_) (fun q => ?_) (fun q j hq => ?_) (fun a b h4 h5 hi => ?_)
            · show (if j < n0 then ho_comp H G m0 j else 0) < _
              have := ho_comp_le' hx0 m0 j
              split <;> omega
            · rw [g3 j hj, show i = n0 by omega]
            · unfold fl_K
              by_cases h : q = s0
              · rw [if_pos ⟨rfl, h⟩, if_pos h]
              · rw [if_neg (by omega), if_neg (by omega), if_neg (by omega), if_neg h]
            · unfold fl_K
              rw [if_neg (by omega)]
              by_cases h : q = s0
              · rw [if_pos ⟨rfl, h⟩, if_pos h]
              · rw [if_neg (by omega), if_neg (by omega), if_neg h]
            · unfold fl_K
              rw [if_neg (by omega), if_neg (by omega)]
              by_cases h : q = s0
              · rw [if_pos (by omega), if_pos h]
              · rw [if_neg (by omega), if_neg h]
            · unfold fl_K
              rw [if_neg (by omega), if_neg (by omega), if_neg (by omega)]
          | succ j ih =>
            intro i ma hi hs hx g1 g2 g3
            refine ev_s (is_iload rfl rfl) ?_
            refine ev_s (is_iload_n rfl rfl) ?_
            refine ev_s (is_icmp_ge_f rfl (nI_ge (by omega) (by omega))) ?_
            refine ev_s (is_aload_n rfl rfl) ?_
            refine ev_s (is_getR rfl (pu_s hC 29 rfl rfl) rfl rfl (pu_r hC 29 12 rfl rfl)) ?_
            refine ev_s (is_iload_n rfl rfl) ?_
            refine ev_s (is_aaload (k := 4) (s0) rfl (pu_s hC 39 rfl rfl) rfl rfl rfl (by omega) (pu_sheet hC (by omega)).1) ?_
            refine ev_s (is_iload rfl rfl) ?_
            refine ev_s (is_aload_n rfl rfl) ?_
            refine ev_s (is_getR rfl (pu_s hC 29 rfl rfl) rfl rfl (pu_r hC 29 3 rfl rfl)) ?_
            refine ev_s (is_aload_n rfl rfl) ?_
            refine ev_s (is_getR rfl (pu_s hC 29 rfl rfl) rfl rfl (pu_r hC 29 0 rfl rfl)) ?_
            refine ev_s (is_iload_n rfl rfl) ?_
            refine ev_s (is_aaload (k := 1) (m0) rfl (pu_s hC 30 rfl rfl) rfl rfl rfl (by omega) (pu_rows hC (by omega)).1) ?_
            refine ev_s (is_aloadO rfl rfl) ?_
            refine ev_s (is_iload rfl rfl) ?_
            refine ev_q1 (is_callR 4 [_, _, _] [_, _] rfl rfl rfl rfl rfl (Nat.le_of_ble_eq_true rfl) rfl rfl rfl (pu_s hC 104 rfl rfl)) rfl (by cases ho_mcell H m0 <;> rfl) (x_compO hC (xa_r hx) (h := i) (xm_Mi (m := m0) (by omega)) (xa_m hx (by omega)) (xa_mate hx m0) (by omega)) (fun r_83 mi mr hq_83 => ?_)
            obtain ⟨rfl, hmr, hsc⟩ := hq_83
            have hmr := hmr.symm
            subst hmr
            rw [← ho_comp_md H G m0 i (by omega)]
            have g1 := (congrFun (hsc _ (xS_f (by omega) (by omega))) 1).trans g1
            have g2 := (congrFun (hsc _ (xS_f (by omega) (by omega))) 2).trans g2
            have g3 : ∀ j, j < 40 → mi (97 + 2 * s0) j = nI (if j < i then ho_comp H G m0 j else 0) := fun j hj => (congrFun (hsc _ (xS_f (by omega) (by omega))) j).trans (g3 j hj)
            have hsc := hsc.mono (xS_xQ (Or.inl rfl))
            have hx := xa_sc hx hsc
            have hs := hs.trans (hsc.mono (fun k hk => by show (xQ k || xM2 (96 + 2 * s0) k) = true; rw [hk]; rfl))
            have hcl := ho_comp_le' hx m0 i
            refine ev_c0 (is_callR 3 [_, _] [] rfl rfl rfl rfl rfl (Nat.le_of_ble_eq_true rfl) rfl rfl rfl (pu_sheet hC (j := s0) (by omega)).2.1) rfl rfl (x_setc hC (s := s0) (n := n0) (j := i) (z := 2) (by omega) g2 (by omega) (by omega) (by decide) g1 _) ?_
            refine ev_s (st_iinc_5 _ rfl (xoc_nL _) (nI_inc _)) ?_
            refine ev_s (is_goto rfl) ?_
            have hm2 : sc_ xHost mi (im_u mi (97 + 2 * s0) i (sh_v 2 (nI (ho_comp H G m0 i)))) := sc_rf.u (xHost_t (by omega))
            refine ih (i + 1) _ (by omega) (hs.u (by show (xQ _ || xM2 (96 + 2 * s0) _) = true; rw [show xM2 (96 + 2 * s0) (97 + 2 * s0) = true from decide_eq_true (Or.inr (by omega)), Bool.or_true])) (xa_host' hx hm2) (by rw [im_u_k _ _ _ _ (by omega)]; exact g1) (by rw [im_u_k _ _ _ _ (by omega)]; exact g2) (fun j hj => ?_)
            by_cases hji : j = i
            · rw [hji, im_u_s, if_pos (by omega), sh_v2 _ (by omega)]
            · rw [im_u_j _ _ _ _ hji, g3 j hj]
              by_cases h1 : j < i
              · rw [if_pos h1, if_pos (by omega)]
              · rw [if_neg h1, if_neg (by omega)]
        refine ev_s (is_aload_n rfl rfl) ?_
        refine ev_s (is_iload_n rfl rfl) ?_
        refine ev_c1 (is_callR 2 [_] [] rfl rfl rfl rfl rfl (Nat.le_of_ble_eq_true rfl) rfl rfl rfl (pu_s hC 29 rfl rfl)) rfl rfl (x_mate hC hx (by omega)) ?_
        refine ev_s (st_astoreO_4 rfl rfl) ?_
        refine ev_s (is_aload_n rfl rfl) ?_
        refine ev_s (is_getR rfl (pu_s hC 29 rfl rfl) rfl rfl (pu_r hC 29 12 rfl rfl)) ?_
        refine ev_s (is_iload_n rfl rfl) ?_
        refine ev_s (is_aaload (k := 4) (s0) rfl (pu_s hC 39 rfl rfl) rfl rfl rfl (by omega) (pu_sheet hC (by omega)).1) ?_
        refine ev_s (is_iconst (nI 1) rfl rfl) ?_
        refine ev_s (is_iload_n rfl rfl) ?_
        refine ev_q0 (is_callR 3 [_, _] [] rfl rfl rfl rfl rfl (Nat.le_of_ble_eq_true rfl) rfl rfl rfl (pu_sheet hC (j := s0) (by omega)).2.1) rfl rfl (x_become4 hC (s := s0) (n := n0) (z := nI 1) (by omega) (by omega)) (fun r_49 mi mr hq_49 => ?_)
        obtain ⟨hmr, hsc, g1, g2, g3⟩ := hq_49
        have hmr := hmr.symm
        subst hmr
        refine ev_s (is_iconst (nI 0) rfl rfl) ?_
        refine ev_s (st_istore_5 rfl (xoc_nL _)) ?_
        exact loop n0 0 mi (by omega) (hsc.mono (fun k hk => by show (xQ k || xM2 (96 + 2 * s0) k) = true; rw [hk, Bool.or_true])) (xa_host' hx (hsc.mono (xM2_host (by omega)))) g1 g2 (fun j hj => by rw [g3 j hj, if_neg (by omega)])
      · refine ev_s (is_bipush ((-7)) rfl rfl) ?_
        refine ev_ret (is_ireturn rfl rfl (by first | rfl | exact pu_b_nar | decide)) ?_
        refine ⟨rfl, by simp [an_film, h_4, es0, h_15, em0, h_28], rfl, hx, ?_, sc_rf⟩
        rw [show st_film H K G (nI s0) (nI m0) n = K by simp [st_film, h_4, es0, h_15, em0, h_28]]; exact hz
    · refine ev_s (is_bipush ((-5)) rfl rfl) ?_
      refine ev_ret (is_ireturn rfl rfl (by first | rfl | exact pu_b_nar | decide)) ?_
      refine ⟨rfl, by simp [an_film, h_4, es0, h_15], rfl, hx, ?_, sc_rf⟩
      rw [show st_film H K G (nI s0) m n = K by simp [st_film, h_4, es0, h_15]]; exact hz
  · refine ev_s (is_bipush ((-2)) rfl rfl) ?_
    refine ev_ret (is_ireturn rfl rfl (by first | rfl | exact pu_b_nar | decide)) ?_
    refine ⟨rfl, by simp [an_film, h_4], rfl, hx, ?_, sc_rf⟩
    rw [show st_film H K G s m n = K by simp [st_film, h_4]]; exact hz

theorem pu_sortz {a b : Nat} (ha : a < 4) (hb : b < 3) : (nI a - 1 = nI b) ↔ a = b + 1 := by
  rcases (show a = 0 ∨ a = 1 ∨ a = 2 ∨ a = 3 by omega) with rfl | rfl | rfl | rfl <;> rcases (show b = 0 ∨ b = 1 ∨ b = 2 by omega) with rfl | rfl | rfl <;> decide

theorem x_menBy {d : Nat} {sh : im_Sh} {mi : im_MI} {mr : im_MR} (hC : pu_C sh mr) {H K : ho_T} {G : ho_G} (hx : xa_ok H G mi mr) (hz : xh_ok H K mi) (s sort frm n : Int32) : EvM (d + 2) 101 [.ref 29, .int s, .int sort, .int frm, .int n] sh mi mr (fun r sh2 m2 r2 => sh2 = sh ∧ (r = .int ((an_menBy H K s sort frm n).1) ∧ r2 = mr ∧ xa_ok ((an_menBy H K s sort frm n).2) G m2 mr ∧ xh_ok ((an_menBy H K s sort frm n).2) (K) m2 ∧ sc_ xAll mi m2)) := by
  show Ev (d + 2) 101 0 [.ref 29, .int s, .int sort, .int frm, .int n, im_bad, im_bad] [] sh mi mr _
  have hn6 := xa_n hx
  have hs : sc_ xQ mi mi := sc_rf
  refine ev_s (is_iload_n rfl rfl) ?_
  refine ev_c1 (is_call0 1 [_] [] rfl rfl rfl rfl rfl (Nat.le_of_ble_eq_true rfl) rfl rfl rfl) rfl rfl (x_noSheet _) ?_
  refine ev_ifB_ne rfl (fun h_4 => ?_) (fun h_4 => ?_)
  · refine ev_s (is_bipush ((-2)) rfl rfl) ?_
    refine ev_ret (is_ireturn rfl rfl (by first | rfl | exact pu_b_nar | decide)) ?_
    rw [show an_menBy H K s sort frm n = (-2, H) by simp [an_menBy, h_4]]
    exact ⟨rfl, rfl, rfl, hx, hz, sc_rf⟩
  · have h_4 := Decidable.of_not_not h_4
    obtain ⟨s0, rfl, ls0, us0, es0⟩ := ho_rng_n h_4 (by decide) (by decide)
    refine ev_s (is_iload_n rfl rfl) ?_
    refine ev_s (is_iconst (nI 0) rfl rfl) ?_
    refine ev_s (is_iconst (nI 2) rfl rfl) ?_
    refine ev_c1 (is_call0 3 [_, _, _] [] rfl rfl rfl rfl rfl (Nat.le_of_ble_eq_true rfl) rfl rfl rfl) rfl rfl (x_within' _ _ _) ?_
    refine ev_ifB_eq rfl (fun h_13 => ?_) (fun h_13 => ?_)
    · refine ev_s (is_bipush ((-2)) rfl rfl) ?_
      refine ev_ret (is_ireturn rfl rfl (by first | rfl | exact pu_b_nar | decide)) ?_
      rw [show an_menBy H K (nI s0) sort frm n = (-2, H) by simp [an_menBy, h_4, es0, h_13]]
      exact ⟨rfl, rfl, rfl, hx, hz, sc_rf⟩
    · obtain ⟨z0, rfl, lz0, uz0, ez0⟩ := ho_rng_n h_13 (by decide) (by decide)
      refine ev_s (is_iload rfl rfl) ?_
      refine ev_s (is_iconst (nI 0) rfl rfl) ?_
      refine ev_s (is_bipush (nI 6) rfl rfl) ?_
      refine ev_c1 (is_call0 3 [_, _, _] [] rfl rfl rfl rfl rfl (Nat.le_of_ble_eq_true rfl) rfl rfl rfl) rfl rfl (x_within' _ _ _) ?_
      refine ev_ifB_ne rfl (fun h_24 => ?_) (fun h_24 => ?_)
      · obtain ⟨n0, rfl, ln0, un0, en0⟩ := ho_rng_n h_24 (by decide) (by decide)
        refine ev_s (is_aload_n rfl rfl) ?_
        refine ev_s (is_getR rfl (pu_s hC 29 rfl rfl) rfl rfl (pu_r hC 29 12 rfl rfl)) ?_
        refine ev_s (is_iload_n rfl rfl) ?_
        refine ev_s (is_aaload (k := 4) (s0) rfl (pu_s hC 39 rfl rfl) rfl rfl rfl (by omega) (pu_sheet hC (by omega)).1) ?_
        refine ev_c1 (is_callR 1 [] [] rfl rfl rfl rfl rfl (Nat.le_of_ble_eq_true rfl) rfl rfl rfl (pu_sheet hC (j := s0) (by omega)).2.1) rfl rfl (x_missing hC hz (s := s0) (by omega)) ?_
        refine ev_ifB_eq rfl (fun h_39 => ?_) (fun h_39 => ?_)
        · refine ev_s (is_aload_n rfl rfl) ?_
          refine ev_s (is_getR rfl (pu_s hC 29 rfl rfl) rfl rfl (pu_r hC 29 12 rfl rfl)) ?_
          refine ev_s (is_iload_n rfl rfl) ?_
          refine ev_s (is_aaload (k := 4) (s0) rfl (pu_s hC 39 rfl rfl) rfl rfl rfl (by omega) (pu_sheet hC (by omega)).1) ?_
          refine ev_s (is_getI' rfl (pu_sheet hC (j := s0) (by omega)).2.1 rfl rfl ((hz.1 s0 (by omega)).1)) ?_
          refine ev_s (is_iload_n rfl rfl) ?_
          refine ev_icmp_eq rfl (fun h_55 => ?_) (fun h_55 => ?_)
          · have e55 : K 4 s0 = z0 + 1 := (pu_sortz (hz.2.2.2.2.2.1 s0) (by omega)).mp h_55
            refine ev_s (is_iconst (nI 0) rfl rfl) ?_
            refine ev_s (st_istore_5 rfl rfl) ?_
            refine ev_s (is_iconst (nI 0) rfl rfl) ?_
            refine ev_s (st_istore_6 rfl rfl) ?_
            rw [show an_menBy H K (nI s0) (nI z0) frm (nI n0) = mb_run K s0 frm n0 n0 0 0 H by simp [an_menBy, h_4, es0, h_13, ez0, h_24, en0, h_39, e55]]
            have loop : ∀ (j i : Nat) (c : Nat) (H2 : ho_T) (ma : im_MI), i + j = n0 → xa_ok H2 G ma mr → xh_ok H2 K ma → sc_ xAll mi ma → Ev (d + 2) 101 67 [.ref 29, .int (nI s0), .int (nI z0), .int frm, .int (nI n0), .int (nI c), .int (nI i)] [] sh ma mr (fun r sh2 m2 r2 => sh2 = sh ∧ (r = .int (mb_run K s0 frm n0 j i c H2).1 ∧ r2 = mr ∧ xa_ok (mb_run K s0 frm n0 j i c H2).2 G m2 mr ∧ xh_ok (mb_run K s0 frm n0 j i c H2).2 K m2 ∧ sc_ xAll mi m2)) := by
              intro j
              induction j with
              | zero =>
                intro i c H2 ma hi hx hz hs
                refine ev_s (is_iload rfl rfl) ?_
                refine ev_s (is_iload rfl rfl) ?_
                refine ev_s (is_icmp_ge_t rfl (nI_le (by omega) (by omega))) ?_
                refine ev_s (is_iload rfl rfl) ?_
                refine ev_ret (is_ireturn rfl rfl (by first | rfl | exact pu_b_nar | decide)) ?_
                exact ⟨rfl, rfl, rfl, hx, hz, hs⟩
              | succ j ih =>
                intro i c H2 ma hi hx hz hs
                have hbs := hz.2.2.2.2.2.2.1 s0
                refine ev_s (is_iload rfl rfl) ?_
                refine ev_s (is_iload rfl rfl) ?_
                refine ev_s (is_icmp_ge_f rfl (nI_ge (by omega) (by omega))) ?_
                refine ev_s (is_aload_n rfl rfl) ?_
                refine ev_s (is_getR rfl (pu_s hC 29 rfl rfl) rfl rfl (pu_r hC 29 12 rfl rfl)) ?_
                refine ev_s (is_iload_n rfl rfl) ?_
                refine ev_s (is_aaload (k := 4) (s0) rfl (pu_s hC 39 rfl rfl) rfl rfl rfl (by omega) (pu_sheet hC (by omega)).1) ?_
                refine ev_s (is_iload_n rfl rfl) ?_
                refine ev_s (is_iload rfl rfl) ?_
                first
                  | refine ev_s (is_iadd _ rfl (nI_add _ _)) ?_
                  | refine ev_s (is_iadd _ rfl rfl) ?_
                refine ev_c1 (is_callR 2 [_] [] rfl rfl rfl rfl rfl (Nat.le_of_ble_eq_true rfl) rfl rfl rfl (pu_sheet hC (j := s0) (by omega)).2.1) rfl rfl (x_hasPlace hC hz (s := s0) (by omega) _) ?_
                refine ev_ifB_ne rfl (fun h_87 => ?_) (fun h_87 => ?_)
                · obtain ⟨j0, e87, hj0, ej0⟩ := ho_inS_n hbs h_87
                  refine ev_s (is_aload_n rfl rfl) ?_
                  refine ev_s (is_aload_n rfl rfl) ?_
                  refine ev_s (is_getR rfl (pu_s hC 29 rfl rfl) rfl rfl (pu_r hC 29 12 rfl rfl)) ?_
                  refine ev_s (is_iload_n rfl rfl) ?_
                  refine ev_s (is_aaload (k := 4) (s0) rfl (pu_s hC 39 rfl rfl) rfl rfl rfl (by omega) (pu_sheet hC (by omega)).1) ?_
                  refine ev_s (is_getR rfl (pu_sheet hC (j := s0) (by omega)).2.1 rfl rfl (pu_sheet hC (j := s0) (by omega)).2.2.2) ?_
                  refine ev_s (is_iload_n rfl rfl) ?_
                  refine ev_s (is_iload rfl rfl) ?_
                  first
                    | refine ev_s (is_iadd _ rfl (nI_add _ _)) ?_
                    | refine ev_s (is_iadd _ rfl rfl) ?_
                  refine ev_s (is_iaload' (j0) rfl ((pu_sheet hC (j := s0) (by omega)).2.2.1) rfl e87 (by omega) ((hz.1 s0 (by omega)).2.2 j0 (by omega))) ?_
                  refine ev_q1 (is_callR 2 [_] [] rfl rfl rfl rfl rfl (Nat.le_of_ble_eq_true rfl) rfl rfl rfl (pu_s hC 29 rfl rfl)) rfl rfl (x_man hC hx hz _) (fun r_108 mi mr hq_108 => ?_)
                  obtain ⟨rfl, hmr, hx, hz, hsc⟩ := hq_108
                  have hmr := hmr.symm
                  subst hmr
                  have hs := hs.trans hsc
                  refine ev_if_lt rfl (fun h_111 => ?_) (fun h_111 => ?_)
                  · refine ev_s (st_iinc_6 _ rfl rfl (nI_inc _)) ?_
                    refine ev_s (is_goto rfl) ?_
                    rw [show mb_run K s0 frm n0 (j + 1) i c H2 = mb_run K s0 frm n0 j (i + 1) (c + (if 0 ≤ an_man H2 (nI (K (20 + s0) j0)) then 1 else 0)) (st_man H2 (nI (K (20 + s0) j0))) by rw [mb_run, if_pos h_87, e87, ej0]]
                    first
                      | (rw [if_neg (Int32.not_le.mpr h_111)]; exact ih (i + 1) c _ _ (by omega) hx hz hs)
                      | (rw [if_pos (Int32.not_lt.mp h_111)]; exact ih (i + 1) (c + 1) _ _ (by omega) hx hz hs)
                  · refine ev_s (st_iinc_5 _ rfl rfl (nI_inc _)) ?_
                    refine ev_s (st_iinc_6 _ rfl rfl (nI_inc _)) ?_
                    refine ev_s (is_goto rfl) ?_
                    rw [show mb_run K s0 frm n0 (j + 1) i c H2 = mb_run K s0 frm n0 j (i + 1) (c + (if 0 ≤ an_man H2 (nI (K (20 + s0) j0)) then 1 else 0)) (st_man H2 (nI (K (20 + s0) j0))) by rw [mb_run, if_pos h_87, e87, ej0]]
                    first
                      | (rw [if_neg (Int32.not_le.mpr h_111)]; exact ih (i + 1) c _ _ (by omega) hx hz hs)
                      | (rw [if_pos (Int32.not_lt.mp h_111)]; exact ih (i + 1) (c + 1) _ _ (by omega) hx hz hs)
                · refine ev_s (is_bipush ((-12)) rfl rfl) ?_
                  refine ev_ret (is_ireturn rfl rfl (by first | rfl | exact pu_b_nar | decide)) ?_
                  rw [show mb_run K s0 frm n0 (j + 1) i c H2 = (-12, H2) by rw [mb_run, if_neg h_87]]
                  exact ⟨rfl, rfl, rfl, hx, hz, hs⟩
            exact loop n0 0 0 H mi (by omega) hx hz sc_rf
          · have e55 : ¬ K 4 s0 = z0 + 1 := fun q => h_55 ((pu_sortz (hz.2.2.2.2.2.1 s0) (by omega)).mpr q)
            refine ev_s (is_bipush ((-13)) rfl rfl) ?_
            refine ev_ret (is_ireturn rfl rfl (by first | rfl | exact pu_b_nar | decide)) ?_
            rw [show an_menBy H K (nI s0) (nI z0) frm (nI n0) = (-13, H) by simp [an_menBy, h_4, es0, h_13, ez0, h_24, en0, h_39, e55]]
            exact ⟨rfl, rfl, rfl, hx, hz, sc_rf⟩
        · refine ev_s (is_bipush ((-11)) rfl rfl) ?_
          refine ev_ret (is_ireturn rfl rfl (by first | rfl | exact pu_b_nar | decide)) ?_
          rw [show an_menBy H K (nI s0) (nI z0) frm (nI n0) = (-11, H) by simp [an_menBy, h_4, es0, h_13, ez0, h_24, en0, h_39]]
          exact ⟨rfl, rfl, rfl, hx, hz, sc_rf⟩
      · refine ev_s (is_bipush ((-2)) rfl rfl) ?_
        refine ev_ret (is_ireturn rfl rfl (by first | rfl | exact pu_b_nar | decide)) ?_
        rw [show an_menBy H K (nI s0) (nI z0) frm n = (-2, H) by simp [an_menBy, h_4, es0, h_13, ez0, h_24]]
        exact ⟨rfl, rfl, rfl, hx, hz, sc_rf⟩
