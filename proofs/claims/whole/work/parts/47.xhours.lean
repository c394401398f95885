/-! ===== PURE, the class: hours of company, quiet doings, sheets ===== -/

def lo_max (f : Nat → Nat) : Nat → Nat
  | 0 => 0
  | n + 1 => if lo_max f n < f n then f n else lo_max f n
theorem lo_max_le {f : Nat → Nat} {b : Nat} : ∀ n, (∀ i, i < n → f i ≤ b) → lo_max f n ≤ b
  | 0, _ => Nat.zero_le _
  | n + 1, h => by
    have h1 := lo_max_le n (fun i hi => h i (by omega))
    have h2 := h n (by omega)
    show (if lo_max f n < f n then f n else lo_max f n) ≤ b
    split <;> omega
def lo_one (p : Nat → Bool) : Nat → Nat := lo_sum fun h => if p h = true then 1 else 0
theorem lo_one_s (p : Nat → Bool) (n : Nat) : lo_one p (n + 1) = lo_one p n + (if p n = true then 1 else 0) := rfl
theorem lo_one_le (p : Nat → Bool) : ∀ n, lo_one p n ≤ n
  | 0 => Nat.le_refl _
  | n + 1 => by
    have := lo_one_le p n
    rw [lo_one_s]
    split <;> omega
theorem lo_find_s (p : Nat → Bool) : ∀ (j i : Nat), lo_find p (j + 1) i = (match lo_find p j i with
    | some k => some k
    | none => bif p (i + j) then some (i + j) else none)
  | 0, i => by show (bif p i then some i else none) = (bif p (i + 0) then some (i + 0) else none); rw [Nat.add_zero]
  | j + 1, i => by
    rw [lo_find]
    cases h : p i with
    | true => rw [lo_find_t h]; rfl
    | false =>
      rw [lo_find_f h, cond_false, lo_find_s p j (i + 1), show i + 1 + j = i + (j + 1) by omega]
theorem lo_find_eq {p q : Nat → Bool} : ∀ (j i : Nat), (∀ k, i ≤ k → k < i + j → p k = q k) → lo_find p j i = lo_find q j i
  | 0, _, _ => rfl
  | j + 1, i, h => by rw [lo_find, lo_find, h i (by omega) (by omega), lo_find_eq j (i + 1) (fun k h1 h2 => h k (by omega) (by omega))]
theorem nI_eq32 {a b : Nat} (ha : a < 2 ^ 32) (hb : b < 2 ^ 32) : nI a = nI b ↔ a = b := by
  constructor
  · intro h
    have := congrArg (fun x : Int32 => x.toBitVec.toNat) h
    rw [pk_tn ha, pk_tn hb] at this
    exact this
  · intro h; rw [h]
theorem ev_icmpN_eq32 {d y pc nx tg b0 c0 : Nat} {L st : List Value} {sh : im_Sh} {mi : im_MI} {mr : im_MR} {Q : ev_Q} {o : Int} {a b : Nat} (hi : im_ins y pc = some (nx, .if_icmp .eq o, tg, b0, c0)) (ha : a < 2 ^ 32) (hb : b < 2 ^ 32) (kt : (a = b) → Ev d y tg L st sh mi mr Q) (kf : (a ≠ b) → Ev d y nx L st sh mi mr Q) : Ev d y pc L (.int (nI b) :: .int (nI a) :: st) sh mi mr Q :=
  ev_icmp_eq hi (fun h => kt ((nI_eq32 ha hb).mp h)) (fun h => kf fun q => h ((nI_eq32 ha hb).mpr q))
theorem nI_sur (v : Int32) : ∃ n, n < 2 ^ 32 ∧ v = nI n := ⟨v.toBitVec.toNat, v.toBitVec.isLt, by
  apply Int32.toBitVec_inj.mp
  show v.toBitVec = BitVec.ofNat 32 v.toBitVec.toNat
  rw [BitVec.ofNat_toNat]
  simp⟩

theorem x_hoursN {d : Nat} {sh : im_Sh} {mi : im_MI} {mr : im_MR} (hC : pu_C sh mr) {H : ho_T} {G : ho_G} (hx : xa_ok H G mi mr) {k : Nat} {a b : Nat → Nat} (hk : xm_M k) (ha : xm_ok mi k a)  (ho : xo_ok mi none b) : EvM (d + 4) 114 [.ref 29, .ref k, .null] sh mi mr (fun r sh2 m2 r2 => sh2 = sh ∧ (r = .int (nI (lo_one (fun h => decide (0 < md_compO G (H 0 3) (H 0 1) a none b h)) 12)) ∧ r2 = mr ∧ sc_ (xS 104) mi m2)) := by
  show Ev (d + 4) 114 0 [.ref 29, .ref k, .null, im_bad, im_bad] [] sh mi mr _
  have loop : ∀ (j i : Nat) (ma : im_MI), i + j = 12 → sc_ (xS 104) mi ma → Ev (d + 4) 114 5 [.ref 29, .ref k, .null, .int (nI (lo_one (fun h => decide (0 < md_compO G (H 0 3) (H 0 1) a none b h)) i)), .int (nI i)] [] sh ma mr (fun r sh2 m2 r2 => sh2 = sh ∧ (r = .int (nI (lo_one (fun h => decide (0 < md_compO G (H 0 3) (H 0 1) a none b h)) 12)) ∧ r2 = mr ∧ sc_ (xS 104) mi m2)) := by
    intro j
    induction j with
    | zero =>
      intro i ma hi hs
      have hx := xa_sc hx (hs.mono (xS_xQ (Or.inl rfl)))
      have ha := xm_sc hk ha (Or.inl rfl) hs
      have ho := xo_sc ho 104 (Or.inl rfl) hs
      refine ev_s (is_iload rfl rfl) ?_
      refine ev_s (is_bipush (nI 12) rfl rfl) ?_
      refine ev_s (is_icmp_ge_t rfl (nI_le (by omega) (by omega))) ?_
      refine ev_s (is_iload_n rfl rfl) ?_
      refine ev_ret (is_ireturn rfl rfl (by first | rfl | exact pu_b_nar | decide)) ?_
      exact ⟨rfl, by rw [show i = 12 by omega], rfl, hs⟩
    | succ j ih =>
      intro i ma hi hs
      have hx := xa_sc hx (hs.mono (xS_xQ (Or.inl rfl)))
      have ha := xm_sc hk ha (Or.inl rfl) hs
      have ho := xo_sc ho 104 (Or.inl rfl) hs
      refine ev_s (is_iload rfl rfl) ?_
      refine ev_s (is_bipush (nI 12) rfl rfl) ?_
      refine ev_s (is_icmp_ge_f rfl (nI_ge (by omega) (by omega))) ?_
      first
        | refine ev_s (is_aload_n rfl rfl) ?_
        | refine ev_s (is_aload_nN rfl rfl) ?_
      refine ev_s (is_getR rfl (pu_s hC 29 rfl rfl) rfl rfl (pu_r hC 29 3 rfl rfl)) ?_
      first
        | refine ev_s (is_aload_n rfl rfl) ?_
        | refine ev_s (is_aload_nN rfl rfl) ?_
      first
        | refine ev_s (is_aload_n rfl rfl) ?_
        | refine ev_s (is_aload_nN rfl rfl) ?_
      refine ev_s (is_iload rfl rfl) ?_
      refine ev_q1 (is_callR 4 [_, _, _] [] rfl rfl rfl rfl rfl (Nat.le_of_ble_eq_true rfl) rfl rfl rfl (pu_s hC 104 rfl rfl)) rfl rfl (x_compO hC (xa_r hx) (h := i) hk ha (o := none) ho (by omega)) (fun r_20 mi mr hq_20 => ?_)
      obtain ⟨rfl, hmr, hsc⟩ := hq_20
      have hmr := hmr.symm
      subst hmr
      have hs := hs.trans hsc
      have hcl := md_compO_le G (H 0 3) (H 0 1) a none b i ha.2.2.2.2.2.2.1
      refine ev_ifN_le rfl (by omega) (fun h_23 => ?_) (fun h_23 => ?_)
      · refine ev_s (st_iinc_4 _ rfl rfl (nI_inc _)) ?_
        refine ev_s (is_goto rfl) ?_
        have := ih (i + 1) _ (by omega) hs
        rw [lo_one_s] at this
        first
          | (rw [if_pos (by simpa using h_23)] at this; exact this)
          | (rw [if_neg (by simpa using h_23)] at this; exact this)
      · refine ev_s (st_iinc_3 _ rfl rfl (nI_inc _)) ?_
        refine ev_s (st_iinc_4 _ rfl rfl (nI_inc _)) ?_
        refine ev_s (is_goto rfl) ?_
        have := ih (i + 1) _ (by omega) hs
        rw [lo_one_s] at this
        first
          | (rw [if_pos (by simpa using h_23)] at this; exact this)
          | (rw [if_neg (by simpa using h_23)] at this; exact this)
  refine ev_s (is_iconst (nI 0) rfl rfl) ?_
  refine ev_s (st_istore_n_3 rfl rfl) ?_
  refine ev_s (is_iconst (nI 0) rfl rfl) ?_
  refine ev_s (st_istore_4 rfl rfl) ?_
  exact loop 12 0 mi (by omega) sc_rf

theorem x_hoursS {d : Nat} {sh : im_Sh} {mi : im_MI} {mr : im_MR} (hC : pu_C sh mr) {H : ho_T} {G : ho_G} (hx : xa_ok H G mi mr) {k : Nat} {a b : Nat → Nat} (hk : xm_M k) (ha : xm_ok mi k a) {q : Nat} (ho : xo_ok mi (some q) b) : EvM (d + 4) 114 [.ref 29, .ref k, .ref q] sh mi mr (fun r sh2 m2 r2 => sh2 = sh ∧ (r = .int (nI (lo_one (fun h => decide (0 < md_compO G (H 0 3) (H 0 1) a (some q) b h)) 12)) ∧ r2 = mr ∧ sc_ (xS 104) mi m2)) := by
  show Ev (d + 4) 114 0 [.ref 29, .ref k, .ref q, im_bad, im_bad] [] sh mi mr _
  have loop : ∀ (j i : Nat) (ma : im_MI), i + j = 12 → sc_ (xS 104) mi ma → Ev (d + 4) 114 5 [.ref 29, .ref k, .ref q, .int (nI (lo_one (fun h => decide (0 < md_compO G (H 0 3) (H 0 1) a (some q) b h)) i)), .int (nI i)] [] sh ma mr (fun r sh2 m2 r2 => sh2 = sh ∧ (r = .int (nI (lo_one (fun h => decide (0 < md_compO G (H 0 3) (H 0 1) a (some q) b h)) 12)) ∧ r2 = mr ∧ sc_ (xS 104) mi m2)) := by
    intro j
    induction j with
    | zero =>
      intro i ma hi hs
      have hx := xa_sc hx (hs.mono (xS_xQ (Or.inl rfl)))
      have ha := xm_sc hk ha (Or.inl rfl) hs
      have ho := xo_sc ho 104 (Or.inl rfl) hs
      refine ev_s (is_iload rfl rfl) ?_
      refine ev_s (is_bipush (nI 12) rfl rfl) ?_
      refine ev_s (is_icmp_ge_t rfl (nI_le (by omega) (by omega))) ?_
      refine ev_s (is_iload_n rfl rfl) ?_
      refine ev_ret (is_ireturn rfl rfl (by first | rfl | exact pu_b_nar | decide)) ?_
      exact ⟨rfl, by rw [show i = 12 by omega], rfl, hs⟩
    | succ j ih =>
      intro i ma hi hs
      have hx := xa_sc hx (hs.mono (xS_xQ (Or.inl rfl)))
      have ha := xm_sc hk ha (Or.inl rfl) hs
      have ho := xo_sc ho 104 (Or.inl rfl) hs
      refine ev_s (is_iload rfl rfl) ?_
      refine ev_s (is_bipush (nI 12) rfl rfl) ?_
      refine ev_s (is_icmp_ge_f rfl (nI_ge (by omega) (by omega))) ?_
      first
        | refine ev_s (is_aload_n rfl rfl) ?_
        | refine ev_s (is_aload_nN rfl rfl) ?_
      refine ev_s (is_getR rfl (pu_s hC 29 rfl rfl) rfl rfl (pu_r hC 29 3 rfl rfl)) ?_
      first
        | refine ev_s (is_aload_n rfl rfl) ?_
        | refine ev_s (is_aload_nN rfl rfl) ?_
      first
        | refine ev_s (is_aload_n rfl rfl) ?_
        | refine ev_s (is_aload_nN rfl rfl) ?_
      refine ev_s (is_iload rfl rfl) ?_
      refine ev_q1 (is_callR 4 [_, _, _] [] rfl rfl rfl rfl rfl (Nat.le_of_ble_eq_true rfl) rfl rfl rfl (pu_s hC 104 rfl rfl)) rfl rfl (x_compO hC (xa_r hx) (h := i) hk ha (o := (some q)) ho (by omega)) (fun r_20 mi mr hq_20 => ?_)
      obtain ⟨rfl, hmr, hsc⟩ := hq_20
      have hmr := hmr.symm
      subst hmr
      have hs := hs.trans hsc
      have hcl := md_compO_le G (H 0 3) (H 0 1) a (some q) b i ha.2.2.2.2.2.2.1
      refine ev_ifN_le rfl (by omega) (fun h_23 => ?_) (fun h_23 => ?_)
      · refine ev_s (st_iinc_4 _ rfl rfl (nI_inc _)) ?_
        refine ev_s (is_goto rfl) ?_
        have := ih (i + 1) _ (by omega) hs
        rw [lo_one_s] at this
        first
          | (rw [if_pos (by simpa using h_23)] at this; exact this)
          | (rw [if_neg (by simpa using h_23)] at this; exact this)
      · refine ev_s (st_iinc_3 _ rfl rfl (nI_inc _)) ?_
        refine ev_s (st_iinc_4 _ rfl rfl (nI_inc _)) ?_
        refine ev_s (is_goto rfl) ?_
        have := ih (i + 1) _ (by omega) hs
        rw [lo_one_s] at this
        first
          | (rw [if_pos (by simpa using h_23)] at this; exact this)
          | (rw [if_neg (by simpa using h_23)] at this; exact this)
  refine ev_s (is_iconst (nI 0) rfl rfl) ?_
  refine ev_s (st_istore_n_3 rfl rfl) ?_
  refine ev_s (is_iconst (nI 0) rfl rfl) ?_
  refine ev_s (st_istore_4 rfl rfl) ?_
  exact loop 12 0 mi (by omega) sc_rf

theorem x_hours {d : Nat} {sh : im_Sh} {mi : im_MI} {mr : im_MR} (hC : pu_C sh mr) {H : ho_T} {G : ho_G} (hx : xa_ok H G mi mr) {k : Nat} {a b : Nat → Nat} (hk : xm_M k) (ha : xm_ok mi k a) {o : Option Nat} (ho : xo_ok mi o b) : EvM (d + 4) 114 [.ref 29, .ref k, xoc o] sh mi mr (fun r sh2 m2 r2 => sh2 = sh ∧ (r = .int (nI (lo_one (fun h => decide (0 < md_compO G (H 0 3) (H 0 1) a o b h)) 12)) ∧ r2 = mr ∧ sc_ (xS 104) mi m2)) := by
  cases o with
  | none => exact x_hoursN hC hx hk ha ho
  | some q => exact x_hoursS hC hx hk ha ho

theorem x_firstCN {d : Nat} {sh : im_Sh} {mi : im_MI} {mr : im_MR} (hC : pu_C sh mr) {H : ho_T} {G : ho_G} (hx : xa_ok H G mi mr) {k : Nat} {a b : Nat → Nat} (hk : xm_M k) (ha : xm_ok mi k a)  (ho : xo_ok mi none b) : EvM (d + 4) 115 [.ref 29, .ref k, .null] sh mi mr (fun r sh2 m2 r2 => sh2 = sh ∧ (r = .int (pu_o (lo_find (fun h => decide (0 < md_compO G (H 0 3) (H 0 1) a none b h)) 12 0)) ∧ r2 = mr ∧ sc_ (xS 104) mi m2)) := by
  show Ev (d + 4) 115 0 [.ref 29, .ref k, .null, im_bad] [] sh mi mr _
  have loop : ∀ (j i : Nat) (ma : im_MI), i + j = 12 → sc_ (xS 104) mi ma → Ev (d + 4) 115 2 [.ref 29, .ref k, .null, .int (nI i)] [] sh ma mr (fun r sh2 m2 r2 => sh2 = sh ∧ (r = .int (pu_o (lo_find (fun h => decide (0 < md_compO G (H 0 3) (H 0 1) a none b h)) j i)) ∧ r2 = mr ∧ sc_ (xS 104) mi m2)) := by
    intro j
    induction j with
    | zero =>
      intro i ma hi hs
      have hx := xa_sc hx (hs.mono (xS_xQ (Or.inl rfl)))
      have ha := xm_sc hk ha (Or.inl rfl) hs
      have ho := xo_sc ho 104 (Or.inl rfl) hs
      refine ev_s (is_iload_n rfl rfl) ?_
      refine ev_s (is_bipush (nI 12) rfl rfl) ?_
      refine ev_s (is_icmp_ge_t rfl (nI_le (by omega) (by omega))) ?_
      refine ev_s (is_iconst ((-1)) rfl rfl) ?_
      refine ev_ret (is_ireturn rfl rfl (by first | rfl | exact pu_b_nar | decide)) ?_
      exact ⟨rfl, rfl, rfl, hs⟩
    | succ j ih =>
      intro i ma hi hs
      have hx := xa_sc hx (hs.mono (xS_xQ (Or.inl rfl)))
      have ha := xm_sc hk ha (Or.inl rfl) hs
      have ho := xo_sc ho 104 (Or.inl rfl) hs
      refine ev_s (is_iload_n rfl rfl) ?_
      refine ev_s (is_bipush (nI 12) rfl rfl) ?_
      refine ev_s (is_icmp_ge_f rfl (nI_ge (by omega) (by omega))) ?_
      first
        | refine ev_s (is_aload_n rfl rfl) ?_
        | refine ev_s (is_aload_nN rfl rfl) ?_
      refine ev_s (is_getR rfl (pu_s hC 29 rfl rfl) rfl rfl (pu_r hC 29 3 rfl rfl)) ?_
      first
        | refine ev_s (is_aload_n rfl rfl) ?_
        | refine ev_s (is_aload_nN rfl rfl) ?_
      first
        | refine ev_s (is_aload_n rfl rfl) ?_
        | refine ev_s (is_aload_nN rfl rfl) ?_
      refine ev_s (is_iload_n rfl rfl) ?_
      refine ev_q1 (is_callR 4 [_, _, _] [] rfl rfl rfl rfl rfl (Nat.le_of_ble_eq_true rfl) rfl rfl rfl (pu_s hC 104 rfl rfl)) rfl rfl (x_compO hC (xa_r hx) (h := i) hk ha (o := none) ho (by omega)) (fun r_15 mi mr hq_15 => ?_)
      obtain ⟨rfl, hmr, hsc⟩ := hq_15
      have hmr := hmr.symm
      subst hmr
      have hs := hs.trans hsc
      have hcl := md_compO_le G (H 0 3) (H 0 1) a none b i ha.2.2.2.2.2.2.1
      refine ev_ifN_le rfl (by omega) (fun h_18 => ?_) (fun h_18 => ?_)
      · refine ev_s (st_iinc_3 _ rfl rfl (nI_inc _)) ?_
        refine ev_s (is_goto rfl) ?_
        rw [lo_find_f (by simpa using h_18)]
        exact ih (i + 1) _ (by omega) hs
      · refine ev_s (is_iload_n rfl rfl) ?_
        refine ev_ret (is_ireturn rfl rfl (by first | rfl | exact pu_b_nar | decide)) ?_
        exact ⟨rfl, by rw [lo_find_t (by simpa using h_18)]; rfl, rfl, hs⟩
  refine ev_s (is_iconst (nI 0) rfl rfl) ?_
  refine ev_s (st_istore_n_3 rfl rfl) ?_
  exact loop 12 0 mi (by omega) sc_rf

theorem x_firstCS {d : Nat} {sh : im_Sh} {mi : im_MI} {mr : im_MR} (hC : pu_C sh mr) {H : ho_T} {G : ho_G} (hx : xa_ok H G mi mr) {k : Nat} {a b : Nat → Nat} (hk : xm_M k) (ha : xm_ok mi k a) {q : Nat} (ho : xo_ok mi (some q) b) : EvM (d + 4) 115 [.ref 29, .ref k, .ref q] sh mi mr (fun r sh2 m2 r2 => sh2 = sh ∧ (r = .int (pu_o (lo_find (fun h => decide (0 < md_compO G (H 0 3) (H 0 1) a (some q) b h)) 12 0)) ∧ r2 = mr ∧ sc_ (xS 104) mi m2)) := by
  show Ev (d + 4) 115 0 [.ref 29, .ref k, .ref q, im_bad] [] sh mi mr _
  have loop : ∀ (j i : Nat) (ma : im_MI), i + j = 12 → sc_ (xS 104) mi ma → Ev (d + 4) 115 2 [.ref 29, .ref k, .ref q, .int (nI i)] [] sh ma mr (fun r sh2 m2 r2 => sh2 = sh ∧ (r = .int (pu_o (lo_find (fun h => decide (0 < md_compO G (H 0 3) (H 0 1) a (some q) b h)) j i)) ∧ r2 = mr ∧ sc_ (xS 104) mi m2)) := by
    intro j
    induction j with
    | zero =>
      intro i ma hi hs
      have hx := xa_sc hx (hs.mono (xS_xQ (Or.inl rfl)))
      have ha := xm_sc hk ha (Or.inl rfl) hs
      have ho := xo_sc ho 104 (Or.inl rfl) hs
      refine ev_s (is_iload_n rfl rfl) ?_
      refine ev_s (is_bipush (nI 12) rfl rfl) ?_
      refine ev_s (is_icmp_ge_t rfl (nI_le (by omega) (by omega))) ?_
      refine ev_s (is_iconst ((-1)) rfl rfl) ?_
      refine ev_ret (is_ireturn rfl rfl (by first | rfl | exact pu_b_nar | decide)) ?_
      exact ⟨rfl, rfl, rfl, hs⟩
    | succ j ih =>
      intro i ma hi hs
      have hx := xa_sc hx (hs.mono (xS_xQ (Or.inl rfl)))
      have ha := xm_sc hk ha (Or.inl rfl) hs
      have ho := xo_sc ho 104 (Or.inl rfl) hs
      refine ev_s (is_iload_n rfl rfl) ?_
      refine ev_s (is_bipush (nI 12) rfl rfl) ?_
      refine ev_s (is_icmp_ge_f rfl (nI_ge (by omega) (by omega))) ?_
      first
        | refine ev_s (is_aload_n rfl rfl) ?_
        | refine ev_s (is_aload_nN rfl rfl) ?_
      refine ev_s (is_getR rfl (pu_s hC 29 rfl rfl) rfl rfl (pu_r hC 29 3 rfl rfl)) ?_
      first
        | refine ev_s (is_aload_n rfl rfl) ?_
        | refine ev_s (is_aload_nN rfl rfl) ?_
      first
        | refine ev_s (is_aload_n rfl rfl) ?_
        | refine ev_s (is_aload_nN rfl rfl) ?_
      refine ev_s (is_iload_n rfl rfl) ?_
      refine ev_q1 (is_callR 4 [_, _, _] [] rfl rfl rfl rfl rfl (Nat.le_of_ble_eq_true rfl) rfl rfl rfl (pu_s hC 104 rfl rfl)) rfl rfl (x_compO hC (xa_r hx) (h := i) hk ha (o := (some q)) ho (by omega)) (fun r_15 mi mr hq_15 => ?_)
      obtain ⟨rfl, hmr, hsc⟩ := hq_15
      have hmr := hmr.symm
      subst hmr
      have hs := hs.trans hsc
      have hcl := md_compO_le G (H 0 3) (H 0 1) a (some q) b i ha.2.2.2.2.2.2.1
      refine ev_ifN_le rfl (by omega) (fun h_18 => ?_) (fun h_18 => ?_)
      · refine ev_s (st_iinc_3 _ rfl rfl (nI_inc _)) ?_
        refine ev_s (is_goto rfl) ?_
        rw [lo_find_f (by simpa using h_18)]
        exact ih (i + 1) _ (by omega) hs
      · refine ev_s (is_iload_n rfl rfl) ?_
        refine ev_ret (is_ireturn rfl rfl (by first | rfl | exact pu_b_nar | decide)) ?_
        exact ⟨rfl, by rw [lo_find_t (by simpa using h_18)]; rfl, rfl, hs⟩
  refine ev_s (is_iconst (nI 0) rfl rfl) ?_
  refine ev_s (st_istore_n_3 rfl rfl) ?_
  exact loop 12 0 mi (by omega) sc_rf

theorem x_firstC {d : Nat} {sh : im_Sh} {mi : im_MI} {mr : im_MR} (hC : pu_C sh mr) {H : ho_T} {G : ho_G} (hx : xa_ok H G mi mr) {k : Nat} {a b : Nat → Nat} (hk : xm_M k) (ha : xm_ok mi k a) {o : Option Nat} (ho : xo_ok mi o b) : EvM (d + 4) 115 [.ref 29, .ref k, xoc o] sh mi mr (fun r sh2 m2 r2 => sh2 = sh ∧ (r = .int (pu_o (lo_find (fun h => decide (0 < md_compO G (H 0 3) (H 0 1) a o b h)) 12 0)) ∧ r2 = mr ∧ sc_ (xS 104) mi m2)) := by
  cases o with
  | none => exact x_firstCN hC hx hk ha ho
  | some q => exact x_firstCS hC hx hk ha ho

theorem x_mostCN {d : Nat} {sh : im_Sh} {mi : im_MI} {mr : im_MR} (hC : pu_C sh mr) {H : ho_T} {G : ho_G} (hx : xa_ok H G mi mr) {k : Nat} {a b : Nat → Nat} (hk : xm_M k) (ha : xm_ok mi k a)  (ho : xo_ok mi none b) : EvM (d + 4) 116 [.ref 29, .ref k, .null] sh mi mr (fun r sh2 m2 r2 => sh2 = sh ∧ (r = .int (nI (lo_max (fun h => md_compO G (H 0 3) (H 0 1) a none b h) 12)) ∧ r2 = mr ∧ sc_ (xS 104) mi m2)) := by
  show Ev (d + 4) 116 0 [.ref 29, .ref k, .null, im_bad, im_bad] [] sh mi mr _
  have loop : ∀ (j i : Nat) (ma : im_MI), i + j = 12 → sc_ (xS 104) mi ma → Ev (d + 4) 116 5 [.ref 29, .ref k, .null, .int (nI (lo_max (fun h => md_compO G (H 0 3) (H 0 1) a none b h) i)), .int (nI i)] [] sh ma mr (fun r sh2 m2 r2 => sh2 = sh ∧ (r = .int (nI (lo_max (fun h => md_compO G (H 0 3) (H 0 1) a none b h) 12)) ∧ r2 = mr ∧ sc_ (xS 104) mi m2)) := by
    intro j
    induction j with
    | zero =>
      intro i ma hi hs
      have hx := xa_sc hx (hs.mono (xS_xQ (Or.inl rfl)))
      have ha := xm_sc hk ha (Or.inl rfl) hs
      have ho := xo_sc ho 104 (Or.inl rfl) hs
      refine ev_s (is_iload rfl rfl) ?_
      refine ev_s (is_bipush (nI 12) rfl rfl) ?_
      refine ev_s (is_icmp_ge_t rfl (nI_le (by omega) (by omega))) ?_
      refine ev_s (is_iload_n rfl rfl) ?_
      refine ev_ret (is_ireturn rfl rfl (by first | rfl | exact pu_b_nar | decide)) ?_
      exact ⟨rfl, by rw [show i = 12 by omega], rfl, hs⟩
    | succ j ih =>
      intro i ma hi hs
      have hx := xa_sc hx (hs.mono (xS_xQ (Or.inl rfl)))
      have ha := xm_sc hk ha (Or.inl rfl) hs
      have ho := xo_sc ho 104 (Or.inl rfl) hs
      refine ev_s (is_iload rfl rfl) ?_
      refine ev_s (is_bipush (nI 12) rfl rfl) ?_
      refine ev_s (is_icmp_ge_f rfl (nI_ge (by omega) (by omega))) ?_
      refine ev_s (is_iload_n rfl rfl) ?_
      first
        | refine ev_s (is_aload_n rfl rfl) ?_
        | refine ev_s (is_aload_nN rfl rfl) ?_
      refine ev_s (is_getR rfl (pu_s hC 29 rfl rfl) rfl rfl (pu_r hC 29 3 rfl rfl)) ?_
      first
        | refine ev_s (is_aload_n rfl rfl) ?_
        | refine ev_s (is_aload_nN rfl rfl) ?_
      first
        | refine ev_s (is_aload_n rfl rfl) ?_
        | refine ev_s (is_aload_nN rfl rfl) ?_
      refine ev_s (is_iload rfl rfl) ?_
      refine ev_q1 (is_callR 4 [_, _, _] [_] rfl rfl rfl rfl rfl (Nat.le_of_ble_eq_true rfl) rfl rfl rfl (pu_s hC 104 rfl rfl)) rfl rfl (x_compO hC (xa_r hx) (h := i) hk ha (o := none) ho (by omega)) (fun r_21 mi mr hq_21 => ?_)
      obtain ⟨rfl, hmr, hsc⟩ := hq_21
      have hmr := hmr.symm
      subst hmr
      have hs := hs.trans hsc
      have hcl := md_compO_le G (H 0 3) (H 0 1) a none b i ha.2.2.2.2.2.2.1
      refine ev_c1 (is_call0 2 [_, _] [] rfl rfl rfl rfl rfl (Nat.le_of_ble_eq_true rfl) rfl rfl rfl) rfl rfl (x_max _ _) ?_
      refine ev_s (st_istore_n_3 rfl rfl) ?_
      refine ev_s (st_iinc_4 _ rfl rfl (nI_inc _)) ?_
      refine ev_s (is_goto rfl) ?_
      have := ih (i + 1) _ (by omega) hs
      rw [lo_max] at this
      have hml : lo_max (fun h => md_compO G (H 0 3) (H 0 1) a none b h) i ≤ 109 := lo_max_le i (fun i _ => md_compO_le G (H 0 3) (H 0 1) a none b i ha.2.2.2.2.2.2.1)
      by_cases hlt : lo_max (fun h => md_compO G (H 0 3) (H 0 1) a none b h) i < md_compO G (H 0 3) (H 0 1) a none b i
      · rw [if_pos hlt] at this
        rw [if_pos ((nI_ltI (by omega) (by omega)).mpr hlt)]
        exact this
      · rw [if_neg hlt] at this
        rw [if_neg (nI_nlt (by omega) (by omega))]
        exact this
  refine ev_s (is_iconst (nI 0) rfl rfl) ?_
  refine ev_s (st_istore_n_3 rfl rfl) ?_
  refine ev_s (is_iconst (nI 0) rfl rfl) ?_
  refine ev_s (st_istore_4 rfl rfl) ?_
  exact loop 12 0 mi (by omega) sc_rf

theorem x_mostCS {d : Nat} {sh : im_Sh} {mi : im_MI} {mr : im_MR} (hC : pu_C sh mr) {H : ho_T} {G : ho_G} (hx : xa_ok H G mi mr) {k : Nat} {a b : Nat → Nat} (hk : xm_M k) (ha : xm_ok mi k a) {q : Nat} (ho : xo_ok mi (some q) b) : EvM (d + 4) 116 [.ref 29, .ref k, .ref q] sh mi mr (fun r sh2 m2 r2 => sh2 = sh ∧ (r = .int (nI (lo_max (fun h => md_compO G (H 0 3) (H 0 1) a (some q) b h) 12)) ∧ r2 = mr ∧ sc_ (xS 104) mi m2)) := by
  show Ev (d + 4) 116 0 [.ref 29, .ref k, .ref q, im_bad, im_bad] [] sh mi mr _
  have loop : ∀ (j i : Nat) (ma : im_MI), i + j = 12 → sc_ (xS 104) mi ma → Ev (d + 4) 116 5 [.ref 29, .ref k, .ref q, .int (nI (lo_max (fun h => md_compO G (H 0 3) (H 0 1) a (some q) b h) i)), .int (nI i)] [] sh ma mr (fun r sh2 m2 r2 => sh2 = sh ∧ (r = .int (nI (lo_max (fun h => md_compO G (H 0 3) (H 0 1) a (some q) b h) 12)) ∧ r2 = mr ∧ sc_ (xS 104) mi m2)) := by
    intro j
    induction j with
    | zero =>
      intro i ma hi hs
      have hx := xa_sc hx (hs.mono (xS_xQ (Or.inl rfl)))
      have ha := xm_sc hk ha (Or.inl rfl) hs
      have ho := xo_sc ho 104 (Or.inl rfl) hs
      refine ev_s (is_iload rfl rfl) ?_
      refine ev_s (is_bipush (nI 12) rfl rfl) ?_
      refine ev_s (is_icmp_ge_t rfl (nI_le (by omega) (by omega))) ?_
      refine ev_s (is_iload_n rfl rfl) ?_
      refine ev_ret (is_ireturn rfl rfl (by first | rfl | exact pu_b_nar | decide)) ?_
      exact ⟨rfl, by rw [show i = 12 by omega], rfl, hs⟩
    | succ j ih =>
      intro i ma hi hs
      have hx := xa_sc hx (hs.mono (xS_xQ (Or.inl rfl)))
      have ha := xm_sc hk ha (Or.inl rfl) hs
      have ho := xo_sc ho 104 (Or.inl rfl) hs
      refine ev_s (is_iload rfl rfl) ?_
      refine ev_s (is_bipush (nI 12) rfl rfl) ?_
      refine ev_s (is_icmp_ge_f rfl (nI_ge (by omega) (by omega))) ?_
      refine ev_s (is_iload_n rfl rfl) ?_
      first
        | refine ev_s (is_aload_n rfl rfl) ?_
        | refine ev_s (is_aload_nN rfl rfl) ?_
      refine ev_s (is_getR rfl (pu_s hC 29 rfl rfl) rfl rfl (pu_r hC 29 3 rfl rfl)) ?_
      first
        | refine ev_s (is_aload_n rfl rfl) ?_
        | refine ev_s (is_aload_nN rfl rfl) ?_
      first
        | refine ev_s (is_aload_n rfl rfl) ?_
        | refine ev_s (is_aload_nN rfl rfl) ?_
      refine ev_s (is_iload rfl rfl) ?_
      refine ev_q1 (is_callR 4 [_, _, _] [_] rfl rfl rfl rfl rfl (Nat.le_of_ble_eq_true rfl) rfl rfl rfl (pu_s hC 104 rfl rfl)) rfl rfl (x_compO hC (xa_r hx) (h := i) hk ha (o := (some q)) ho (by omega)) (fun r_21 mi mr hq_21 => ?_)
      obtain ⟨rfl, hmr, hsc⟩ := hq_21
      have hmr := hmr.symm
      subst hmr
      have hs := hs.trans hsc
      have hcl := md_compO_le G (H 0 3) (H 0 1) a (some q) b i ha.2.2.2.2.2.2.1
      refine ev_c1 (is_call0 2 [_, _] [] rfl rfl rfl rfl rfl (Nat.le_of_ble_eq_true rfl) rfl rfl rfl) rfl rfl (x_max _ _) ?_
      refine ev_s (st_istore_n_3 rfl rfl) ?_
      refine ev_s (st_iinc_4 _ rfl rfl (nI_inc _)) ?_
      refine ev_s (is_goto rfl) ?_
      have := ih (i + 1) _ (by omega) hs
      rw [lo_max] at this
      have hml : lo_max (fun h => md_compO G (H 0 3) (H 0 1) a (some q) b h) i ≤ 109 := lo_max_le i (fun i _ => md_compO_le G (H 0 3) (H 0 1) a (some q) b i ha.2.2.2.2.2.2.1)
      by_cases hlt : lo_max (fun h => md_compO G (H 0 3) (H 0 1) a (some q) b h) i < md_compO G (H 0 3) (H 0 1) a (some q) b i
      · rw [if_pos hlt] at this
        rw [if_pos ((nI_ltI (by omega) (by omega)).mpr hlt)]
        exact this
      · rw [if_neg hlt] at this
        rw [if_neg (nI_nlt (by omega) (by omega))]
        exact this
  refine ev_s (is_iconst (nI 0) rfl rfl) ?_
  refine ev_s (st_istore_n_3 rfl rfl) ?_
  refine ev_s (is_iconst (nI 0) rfl rfl) ?_
  refine ev_s (st_istore_4 rfl rfl) ?_
  exact loop 12 0 mi (by omega) sc_rf

theorem x_mostC {d : Nat} {sh : im_Sh} {mi : im_MI} {mr : im_MR} (hC : pu_C sh mr) {H : ho_T} {G : ho_G} (hx : xa_ok H G mi mr) {k : Nat} {a b : Nat → Nat} (hk : xm_M k) (ha : xm_ok mi k a) {o : Option Nat} (ho : xo_ok mi o b) : EvM (d + 4) 116 [.ref 29, .ref k, xoc o] sh mi mr (fun r sh2 m2 r2 => sh2 = sh ∧ (r = .int (nI (lo_max (fun h => md_compO G (H 0 3) (H 0 1) a o b h) 12)) ∧ r2 = mr ∧ sc_ (xS 104) mi m2)) := by
  cases o with
  | none => exact x_mostCN hC hx hk ha ho
  | some q => exact x_mostCS hC hx hk ha ho

theorem x_leastOf {d : Nat} {sh : im_Sh} {mi : im_MI} {mr : im_MR} {s : Nat} (hs : s < 2 ^ 31) : EvM (d + 1) 122 [.int (nI s)] sh mi mr (ev_R sh (.int (pu_o (lo_find (fun i => decide (s / 2 ^ i % 2 = 1)) 6 0))) mi mr) := by
  show Ev (d + 1) 122 0 [.int (nI s), im_bad] [] sh mi mr _
  have loop : ∀ (j i : Nat), i + j = 6 → Ev (d + 1) 122 2 [.int (nI s), .int (nI i)] [] sh mi mr (ev_R sh (.int (pu_o (lo_find (fun i => decide (s / 2 ^ i % 2 = 1)) j i))) mi mr) := by
    intro j
    induction j with
    | zero =>
      intro i  hi 
      refine ev_s (is_iload_n rfl rfl) ?_
      refine ev_s (is_bipush (nI 6) rfl rfl) ?_
      refine ev_s (is_icmp_ge_t rfl (nI_le (by omega) (by omega))) ?_
      refine ev_s (is_iconst ((-1)) rfl rfl) ?_
      refine ev_ret (is_ireturn rfl rfl (by first | rfl | exact pu_b_nar | decide)) ?_
      exact ⟨rfl, rfl, rfl, rfl⟩
    | succ j ih =>
      intro i  hi 
      refine ev_s (is_iload_n rfl rfl) ?_
      refine ev_s (is_bipush (nI 6) rfl rfl) ?_
      refine ev_s (is_icmp_ge_f rfl (nI_ge (by omega) (by omega))) ?_
      refine ev_s (is_iload_n rfl rfl) ?_
      refine ev_s (is_iload_n rfl rfl) ?_
      refine ev_c1 (is_call0 2 [_, _] [] rfl rfl rfl rfl rfl (Nat.le_of_ble_eq_true rfl) rfl rfl rfl) rfl rfl (x_has (by omega) (by omega)) ?_
      refine ev_ifB_eq rfl (fun h_13 => ?_) (fun h_13 => ?_)
      · refine ev_s (st_iinc_1 _ rfl rfl (nI_inc _)) ?_
        refine ev_s (is_goto rfl) ?_
        rw [lo_find_f (by simpa using h_13)]
        exact ih (i + 1) (by omega)
      · refine ev_s (is_iload_n rfl rfl) ?_
        refine ev_ret (is_ireturn rfl rfl (by first | rfl | exact pu_b_nar | decide)) ?_
        exact ⟨by rw [lo_find_t (by simpa using h_13)]; rfl, rfl, rfl, rfl⟩
  refine ev_s (is_iconst (nI 0) rfl rfl) ?_
  refine ev_s (st_istore_n_1 rfl rfl) ?_
  exact loop 6 0 (by omega)

/-- the class's sheets, tape, image; K 0: 0 is there an image, 1 its men, 2 watched, 3 law; K 4 a sheet's sort, 1 more; K 5 its size; K 6 the tape; K (10 + m) the image's men; K (20 + s) a sheet's numbers -/
def ho_irow (H K : ho_T) (m j : Nat) : Nat := if j = 14 then H 1 m else if j = 15 then H 2 m else K (10 + m) j
def ho_hb (H K : ho_T) : Prop := (∀ s, K 4 s < 4) ∧ (∀ s, K 5 s ≤ 40) ∧ (∀ s j, s < 4 → K (20 + s) j < 2 ^ 32) ∧ (∀ j, K 6 j < 256) ∧ K 0 0 < 2 ∧ (K 0 0 = 1 → K 0 1 ≤ H 0 0 ∧ K 0 2 < 4096 ∧ K 0 3 < H 0 2 ∧ (∀ m h, m < 6 → h < 12 → K (10 + m) h < 6) ∧ (∀ m, m < 6 → K (10 + m) 12 ≤ 9999) ∧ (∀ m, m < 6 → K (10 + m) 13 < 1000) ∧ (∀ m, m < K 0 1 → K (10 + m) 13 < K 0 1) ∧ (∀ m o, m < K 0 1 → o < K 0 1 → K (10 + m) 13 = K (10 + o) 13 → m = o))
def xh_ok (H K : ho_T) (mi : im_MI) : Prop := (∀ s, s < 4 → mi (96 + 2 * s) 1 = nI (K 4 s) - 1 ∧ mi (96 + 2 * s) 2 = nI (K 5 s) ∧ ∀ j, j < 40 → mi (97 + 2 * s) j = nI (K (20 + s) j)) ∧ mi 33 1 = nI (H 0 4) ∧ (∀ j, j < H 0 4 → mi 34 j = nI (K 6 j)) ∧ mi 40 1 = nI (K 0 0) ∧ (K 0 0 = 1 → mi 40 2 = nI (K 0 1) ∧ mi 40 3 = nI (K 0 2) ∧ mi 40 4 = nI (K 0 3) ∧ ∀ m, m < K 0 1 → xm_ok mi (42 + 2 * m) (ho_irow H K m)) ∧ ho_hb H K
theorem xh_row {H K : ho_T} {mi mi2 : im_MI} (h : xh_ok H K mi) (hs : ∀ k, k = 33 ∨ k = 34 ∨ (40 ≤ k ∧ k ≤ 53) ∨ (96 ≤ k ∧ k ≤ 103) → mi2 k = mi k) (hn : K 0 0 = 1 → K 0 1 ≤ 6) : xh_ok H K mi2 := by
  obtain ⟨h1, h2, h3, h4, h5, h6⟩ := h
  refine ⟨fun s hs2 => ?_, by rw [hs 33 (by omega)]; exact h2, fun j hj => by rw [hs 34 (by omega)]; exact h3 j hj, by rw [hs 40 (by omega)]; exact h4, fun hi => ?_, h6⟩
  · rw [hs (96 + 2 * s) (by omega), hs (97 + 2 * s) (by omega)]
    exact h1 s hs2
  · have := hn hi
    rw [hs 40 (by omega)]
    obtain ⟨q1, q2, q3, q4⟩ := h5 hi
    exact ⟨q1, q2, q3, fun m hm => xm_row (q4 m hm) (hs _ (by omega)) (hs _ (by omega))⟩
theorem xh_i6 {H K : ho_T} {mi : im_MI} (h : xh_ok H K mi) (hn : H 0 0 ≤ 6) : K 0 0 = 1 → K 0 1 ≤ 6 := fun hi => Nat.le_trans (h.2.2.2.2.2.2.2.2.2.2 hi).1 hn
theorem xh_sc {H K : ho_T} {mi mi2 : im_MI} {G : ho_G} {mr : im_MR} (hx : xa_ok H G mi mr) (h : xh_ok H K mi) (hs : sc_ xQ mi mi2) : xh_ok H K mi2 := xh_row h (fun k hk => hs k (xQ_f (by omega))) (xh_i6 h (xa_n hx))

theorem x_firstON {d : Nat} {sh : im_Sh} {mi : im_MI} {mr : im_MR} (hC : pu_C sh mr) {R t w : Nat} {G : ho_G} (hr : xr_ok mi mr R G t w) {k : Nat} {a b : Nat → Nat} (hk : xm_M k) (ha : xm_ok mi k a) {s z : Nat} {v : Nat → Nat} (hs4 : s < 4) (hz : mi (96 + 2 * s) 2 = nI z) (hz2 : z ≤ 12) (hv : ∀ j, j < 40 → mi (97 + 2 * s) j = nI (v j)) (hv2 : ∀ j, v j < 2 ^ 32)  (ho : xo_ok mi none b) : EvM (d + 4) 127 [.ref R, .ref (96 + 2 * s), .ref k, .null] sh mi mr (fun r sh2 m2 r2 => sh2 = sh ∧ (r = .int (pu_o (lo_find (fun h => decide (v h ≠ md_compO G t w a none b h)) z 0)) ∧ r2 = mr ∧ sc_ (xS R) mi m2)) := by
  show Ev (d + 4) 127 0 [.ref R, .ref (96 + 2 * s), .ref k, .null, im_bad] [] sh mi mr _
  have loop : ∀ (j i : Nat) (ma : im_MI), i + j = z → sc_ (xS R) mi ma → Ev (d + 4) 127 3 [.ref R, .ref (96 + 2 * s), .ref k, .null, .int (nI i)] [] sh ma mr (fun r sh2 m2 r2 => sh2 = sh ∧ (r = .int (pu_o (lo_find (fun h => decide (v h ≠ md_compO G t w a none b h)) j i)) ∧ r2 = mr ∧ sc_ (xS R) mi m2)) := by
    intro j
    induction j with
    | zero =>
      intro i ma hi hs
      have hRb : 104 ≤ R ∧ R ≤ 107 := by rcases hr.1 with rfl | rfl <;> omega
      have hR := hr.1
      have hr := xr_sc hr hR hs
      have ha := xm_sc hk ha hR hs
      have ho := xo_sc ho R hR hs
      have hz : ma (96 + 2 * s) 2 = nI z := by rw [hs _ (xS_f (by omega) (by omega))]; exact hz
      have hv : ∀ j, j < 40 → ma (97 + 2 * s) j = nI (v j) := by rw [hs _ (xS_f (by omega) (by omega))]; exact hv
      refine ev_s (is_iload rfl rfl) ?_
      first
        | refine ev_s (is_aload_n rfl rfl) ?_
        | refine ev_s (is_aload_nN rfl rfl) ?_
      refine ev_s (is_getI' rfl (pu_sheet hC (j := s) (by omega)).2.1 rfl rfl hz) ?_
      refine ev_s (is_icmp_ge_t rfl (nI_le (by omega) (by omega))) ?_
      refine ev_s (is_iconst ((-1)) rfl rfl) ?_
      refine ev_ret (is_ireturn rfl rfl (by first | rfl | exact pu_b_nar | decide)) ?_
      exact ⟨rfl, rfl, rfl, hs⟩
    | succ j ih =>
      intro i ma hi hs
      have hRb : 104 ≤ R ∧ R ≤ 107 := by rcases hr.1 with rfl | rfl <;> omega
      have hR := hr.1
      have hr := xr_sc hr hR hs
      have ha := xm_sc hk ha hR hs
      have ho := xo_sc ho R hR hs
      have hz : ma (96 + 2 * s) 2 = nI z := by rw [hs _ (xS_f (by omega) (by omega))]; exact hz
      have hv : ∀ j, j < 40 → ma (97 + 2 * s) j = nI (v j) := by rw [hs _ (xS_f (by omega) (by omega))]; exact hv
      refine ev_s (is_iload rfl rfl) ?_
      first
        | refine ev_s (is_aload_n rfl rfl) ?_
        | refine ev_s (is_aload_nN rfl rfl) ?_
      refine ev_s (is_getI' rfl (pu_sheet hC (j := s) (by omega)).2.1 rfl rfl hz) ?_
      refine ev_s (is_icmp_ge_f rfl (nI_ge (by omega) (by omega))) ?_
      refine ev_s (is_iload rfl rfl) ?_
      refine ev_s (is_bipush (nI 12) rfl rfl) ?_
      refine ev_s (is_icmp_ge_f rfl (nI_ge (by omega) (by omega))) ?_
      first
        | refine ev_s (is_aload_n rfl rfl) ?_
        | refine ev_s (is_aload_nN rfl rfl) ?_
      refine ev_s (is_getR rfl (pu_sheet hC (j := s) (by omega)).2.1 rfl rfl (pu_sheet hC (j := s) (by omega)).2.2.2) ?_
      refine ev_s (is_iload rfl rfl) ?_
      refine ev_s (is_iaload' (i) rfl ((pu_sheet hC (j := s) (by omega)).2.2.1) rfl rfl (by omega) (hv i (by omega))) ?_
      first
        | refine ev_s (is_aload_n rfl rfl) ?_
        | refine ev_s (is_aload_nN rfl rfl) ?_
      first
        | refine ev_s (is_aload_n rfl rfl) ?_
        | refine ev_s (is_aload_nN rfl rfl) ?_
      first
        | refine ev_s (is_aload_n rfl rfl) ?_
        | refine ev_s (is_aload_nN rfl rfl) ?_
      refine ev_s (is_iload rfl rfl) ?_
      refine ev_q1 (is_callR 4 [_, _, _] [_] rfl rfl rfl rfl rfl (Nat.le_of_ble_eq_true rfl) rfl rfl rfl (pu_R hC hr.1).1) rfl rfl (x_compO hC hr (h := i) hk ha (o := none) ho (by omega)) (fun r_31 mi mr hq_31 => ?_)
      obtain ⟨rfl, hmr, hsc⟩ := hq_31
      have hmr := hmr.symm
      subst hmr
      have hs := hs.trans hsc
      have hcl : md_compO G t w a none b i ≤ 109 := md_compO_le G t w a none b i ha.2.2.2.2.2.2.1
      refine ev_icmpN_eq32 rfl (hv2 _) (by omega) (fun h_34 => ?_) (fun h_34 => ?_)
      · refine ev_s (st_iinc_4 _ rfl rfl (nI_inc _)) ?_
        refine ev_s (is_goto rfl) ?_
        rw [lo_find_f (by simpa using h_34)]
        exact ih (i + 1) _ (by omega) hs
      · refine ev_s (is_iload rfl rfl) ?_
        refine ev_ret (is_ireturn rfl rfl (by first | rfl | exact pu_b_nar | decide)) ?_
        exact ⟨rfl, by rw [lo_find_t (by simpa using h_34)]; rfl, rfl, hs⟩
  refine ev_s (is_iconst (nI 0) rfl rfl) ?_
  refine ev_s (st_istore_4 rfl rfl) ?_
  exact loop z 0 mi (by omega) sc_rf

theorem x_firstOS {d : Nat} {sh : im_Sh} {mi : im_MI} {mr : im_MR} (hC : pu_C sh mr) {R t w : Nat} {G : ho_G} (hr : xr_ok mi mr R G t w) {k : Nat} {a b : Nat → Nat} (hk : xm_M k) (ha : xm_ok mi k a) {s z : Nat} {v : Nat → Nat} (hs4 : s < 4) (hz : mi (96 + 2 * s) 2 = nI z) (hz2 : z ≤ 12) (hv : ∀ j, j < 40 → mi (97 + 2 * s) j = nI (v j)) (hv2 : ∀ j, v j < 2 ^ 32) {q : Nat} (ho : xo_ok mi (some q) b) : EvM (d + 4) 127 [.ref R, .ref (96 + 2 * s), .ref k, .ref q] sh mi mr (fun r sh2 m2 r2 => sh2 = sh ∧ (r = .int (pu_o (lo_find (fun h => decide (v h ≠ md_compO G t w a (some q) b h)) z 0)) ∧ r2 = mr ∧ sc_ (xS R) mi m2)) := by
  show Ev (d + 4) 127 0 [.ref R, .ref (96 + 2 * s), .ref k, .ref q, im_bad] [] sh mi mr _
  have loop : ∀ (j i : Nat) (ma : im_MI), i + j = z → sc_ (xS R) mi ma → Ev (d + 4) 127 3 [.ref R, .ref (96 + 2 * s), .ref k, .ref q, .int (nI i)] [] sh ma mr (fun r sh2 m2 r2 => sh2 = sh ∧ (r = .int (pu_o (lo_find (fun h => decide (v h ≠ md_compO G t w a (some q) b h)) j i)) ∧ r2 = mr ∧ sc_ (xS R) mi m2)) := by
    intro j
    induction j with
    | zero =>
      intro i ma hi hs
      have hRb : 104 ≤ R ∧ R ≤ 107 := by rcases hr.1 with rfl | rfl <;> omega
      have hR := hr.1
      have hr := xr_sc hr hR hs
      have ha := xm_sc hk ha hR hs
      have ho := xo_sc ho R hR hs
      have hz : ma (96 + 2 * s) 2 = nI z := by rw [hs _ (xS_f (by omega) (by omega))]; exact hz
      have hv : ∀ j, j < 40 → ma (97 + 2 * s) j = nI (v j) := by rw [hs _ (xS_f (by omega) (by omega))]; exact hv
      refine ev_s (is_iload rfl rfl) ?_
      first
        | refine ev_s (is_aload_n rfl rfl) ?_
        | refine ev_s (is_aload_nN rfl rfl) ?_
      refine ev_s (is_getI' rfl (pu_sheet hC (j := s) (by omega)).2.1 rfl rfl hz) ?_
      refine ev_s (is_icmp_ge_t rfl (nI_le (by omega) (by omega))) ?_
      refine ev_s (is_iconst ((-1)) rfl rfl) ?_
      refine ev_ret (is_ireturn rfl rfl (by first | rfl | exact pu_b_nar | decide)) ?_
      exact ⟨rfl, rfl, rfl, hs⟩
    | succ j ih =>
      intro i ma hi hs
      have hRb : 104 ≤ R ∧ R ≤ 107 := by rcases hr.1 with rfl | rfl <;> omega
      have hR := hr.1
      have hr := xr_sc hr hR hs
      have ha := xm_sc hk ha hR hs
      have ho := xo_sc ho R hR hs
      have hz : ma (96 + 2 * s) 2 = nI z := by rw [hs _ (xS_f (by omega) (by omega))]; exact hz
      have hv : ∀ j, j < 40 → ma (97 + 2 * s) j = nI (v j) := by rw [hs _ (xS_f (by omega) (by omega))]; exact hv
      refine ev_s (is_iload rfl rfl) ?_
      first
        | refine ev_s (is_aload_n rfl rfl) ?_
        | refine ev_s (is_aload_nN rfl rfl) ?_
      refine ev_s (is_getI' rfl (pu_sheet hC (j := s) (by omega)).2.1 rfl rfl hz) ?_
      refine ev_s (is_icmp_ge_f rfl (nI_ge (by omega) (by omega))) ?_
      refine ev_s (is_iload rfl rfl) ?_
      refine ev_s (is_bipush (nI 12) rfl rfl) ?_
      refine ev_s (is_icmp_ge_f rfl (nI_ge (by omega) (by omega))) ?_
      first
        | refine ev_s (is_aload_n rfl rfl) ?_
        | refine ev_s (is_aload_nN rfl rfl) ?_
      refine ev_s (is_getR rfl (pu_sheet hC (j := s) (by omega)).2.1 rfl rfl (pu_sheet hC (j := s) (by omega)).2.2.2) ?_
      refine ev_s (is_iload rfl rfl) ?_
      refine ev_s (is_iaload' (i) rfl ((pu_sheet hC (j := s) (by omega)).2.2.1) rfl rfl (by omega) (hv i (by omega))) ?_
      first
        | refine ev_s (is_aload_n rfl rfl) ?_
        | refine ev_s (is_aload_nN rfl rfl) ?_
      first
        | refine ev_s (is_aload_n rfl rfl) ?_
        | refine ev_s (is_aload_nN rfl rfl) ?_
      first
        | refine ev_s (is_aload_n rfl rfl) ?_
        | refine ev_s (is_aload_nN rfl rfl) ?_
      refine ev_s (is_iload rfl rfl) ?_
      refine ev_q1 (is_callR 4 [_, _, _] [_] rfl rfl rfl rfl rfl (Nat.le_of_ble_eq_true rfl) rfl rfl rfl (pu_R hC hr.1).1) rfl rfl (x_compO hC hr (h := i) hk ha (o := (some q)) ho (by omega)) (fun r_31 mi mr hq_31 => ?_)
      obtain ⟨rfl, hmr, hsc⟩ := hq_31
      have hmr := hmr.symm
      subst hmr
      have hs := hs.trans hsc
      have hcl : md_compO G t w a (some q) b i ≤ 109 := md_compO_le G t w a (some q) b i ha.2.2.2.2.2.2.1
      refine ev_icmpN_eq32 rfl (hv2 _) (by omega) (fun h_34 => ?_) (fun h_34 => ?_)
      · refine ev_s (st_iinc_4 _ rfl rfl (nI_inc _)) ?_
        refine ev_s (is_goto rfl) ?_
        rw [lo_find_f (by simpa using h_34)]
        exact ih (i + 1) _ (by omega) hs
      · refine ev_s (is_iload rfl rfl) ?_
        refine ev_ret (is_ireturn rfl rfl (by first | rfl | exact pu_b_nar | decide)) ?_
        exact ⟨rfl, by rw [lo_find_t (by simpa using h_34)]; rfl, rfl, hs⟩
  refine ev_s (is_iconst (nI 0) rfl rfl) ?_
  refine ev_s (st_istore_4 rfl rfl) ?_
  exact loop z 0 mi (by omega) sc_rf

theorem x_firstO {d : Nat} {sh : im_Sh} {mi : im_MI} {mr : im_MR} (hC : pu_C sh mr) {R t w : Nat} {G : ho_G} (hr : xr_ok mi mr R G t w) {k : Nat} {a b : Nat → Nat} (hk : xm_M k) (ha : xm_ok mi k a) {s z : Nat} {v : Nat → Nat} (hs4 : s < 4) (hz : mi (96 + 2 * s) 2 = nI z) (hz2 : z ≤ 12) (hv : ∀ j, j < 40 → mi (97 + 2 * s) j = nI (v j)) (hv2 : ∀ j, v j < 2 ^ 32) {o : Option Nat} (ho : xo_ok mi o b) : EvM (d + 4) 127 [.ref R, .ref (96 + 2 * s), .ref k, xoc o] sh mi mr (fun r sh2 m2 r2 => sh2 = sh ∧ (r = .int (pu_o (lo_find (fun h => decide (v h ≠ md_compO G t w a o b h)) z 0)) ∧ r2 = mr ∧ sc_ (xS R) mi m2)) := by
  cases o with
  | none => exact x_firstON hC hr hk ha hs4 hz hz2 hv hv2 ho
  | some q => exact x_firstOS hC hr hk ha hs4 hz hz2 hv hv2 ho

theorem x_quietD {d : Nat} {sh : im_Sh} {mi : im_MI} {mr : im_MR} (hC : pu_C sh mr) {H : ho_T} {G : ho_G} (hx : xa_ok H G mi mr) {m h : Nat} (hm : m < H 0 0) (hh : h < 12) : EvM (d + 5) 121 [.ref 29, .int (nI m), .int (nI h)] sh mi mr (fun r sh2 m2 r2 => sh2 = sh ∧ (r = .int (nI (lo_bits (fun d => md_quietO G (H 0 3) (H 0 1) (ho_at (ho_row H m) h d) (ho_mcell H m) (ho_mrow H m) h) 6)) ∧ r2 = mr ∧ sc_ xQ mi m2)) := by
  show Ev (d + 5) 121 0 [.ref 29, .int (nI m), .int (nI h), im_bad, im_bad, im_bad] [] sh mi mr _
  have hn6 := xa_n hx
  refine ev_s (is_aload_n rfl rfl) ?_
  refine ev_s (is_iload_n rfl rfl) ?_
  refine ev_c1 (is_callR 2 [_] [] rfl rfl rfl rfl rfl (Nat.le_of_ble_eq_true rfl) rfl rfl rfl (pu_s hC 29 rfl rfl)) rfl rfl (x_mate hC hx hm) ?_
  show Ev _ _ _ _ (xoc (ho_mcell H m) :: _) _ _ _ _
  have hmt := xa_mate hx m
  rcases eo : ho_mcell H m with _ | q
  · rw [eo] at hmt
    show Ev _ _ _ _ (.null :: _) _ _ _ _
    have loop : ∀ (j i : Nat) (ma : im_MI), i + j = 6 → sc_ xQ mi ma → Ev (d + 5) 121 12 [.ref 29, .int (nI m), .int (nI h), .null, .int (nI (lo_bits (fun d => md_quietO G (H 0 3) (H 0 1) (ho_at (ho_row H m) h d) none (ho_mrow H m) h) i)), .int (nI i)] [] sh ma mr (fun r sh2 m2 r2 => sh2 = sh ∧ (r = .int (nI (lo_bits (fun d => md_quietO G (H 0 3) (H 0 1) (ho_at (ho_row H m) h d) none (ho_mrow H m) h) 6)) ∧ r2 = mr ∧ sc_ xQ mi m2)) := by
      intro j
      induction j with
      | zero =>
        intro i ma hi hs
        have hmt : xo_ok ma none (ho_mrow H m) := by rw [← eo]; exact xa_mate (xa_sc hx hs) m
        have hx := xa_sc hx hs
        refine ev_s (is_iload rfl rfl) ?_
        refine ev_s (is_bipush (nI 6) rfl rfl) ?_
        refine ev_s (is_icmp_ge_t rfl (nI_le (by omega) (by omega))) ?_
        refine ev_s (is_iload rfl rfl) ?_
        refine ev_ret (is_ireturn rfl rfl (by first | rfl | exact pu_b_nar | decide)) ?_
        exact ⟨rfl, by rw [show i = 6 by omega], rfl, hs⟩
      | succ j ih =>
        intro i ma hi hs
        have hmt : xo_ok ma none (ho_mrow H m) := by rw [← eo]; exact xa_mate (xa_sc hx hs) m
        have hx := xa_sc hx hs
        refine ev_s (is_iload rfl rfl) ?_
        refine ev_s (is_bipush (nI 6) rfl rfl) ?_
        refine ev_s (is_icmp_ge_f rfl (nI_ge (by omega) (by omega))) ?_
        first
          | refine ev_s (is_aload_n rfl rfl) ?_
          | refine ev_s (is_aload_nN rfl rfl) ?_
        refine ev_s (is_getR rfl (pu_s hC 29 rfl rfl) rfl rfl (pu_r hC 29 3 rfl rfl)) ?_
        first
          | refine ev_s (is_aload_n rfl rfl) ?_
          | refine ev_s (is_aload_nN rfl rfl) ?_
        refine ev_s (is_iload_n rfl rfl) ?_
        refine ev_s (is_iload_n rfl rfl) ?_
        refine ev_s (is_iload rfl rfl) ?_
        refine ev_q1 (is_callR 4 [_, _, _] [_] rfl rfl rfl rfl rfl (Nat.le_of_ble_eq_true rfl) rfl rfl rfl (pu_s hC 29 rfl rfl)) rfl rfl (x_dOther hC hx hm hh (v := i) (by omega)) (fun r_28 mi mr hq_28 => ?_)
        obtain ⟨rfl, hmr, hsc, hok⟩ := hq_28
        have hmr := hmr.symm
        subst hmr
        have hsc := hsc.mono (xM2_xQ (by omega))
        have hs := hs.trans hsc
        have hmt : xo_ok mi none (ho_mrow H m) := by rw [← eo]; exact xa_mate (xa_sc hx hsc) m
        have hx := xa_sc hx hsc
        first
          | refine ev_s (is_aload_n rfl rfl) ?_
          | refine ev_s (is_aload_nN rfl rfl) ?_
        refine ev_s (is_iload_n rfl rfl) ?_
        refine ev_q1 (is_callR 4 [_, _, _] [] rfl rfl rfl rfl rfl (Nat.le_of_ble_eq_true rfl) rfl rfl rfl (pu_s hC 104 rfl rfl)) rfl rfl (x_quietO hC (xa_r hx) (h := h) (xm_Mt (by omega)) hok (o := none) hmt hh) (fun r_33 mi mr hq_33 => ?_)
        obtain ⟨rfl, hmr, hsc⟩ := hq_33
        have hmr := hmr.symm
        subst hmr
        have hsc := hsc.mono (xS_xQ (Or.inl rfl))
        have hs := hs.trans hsc
        have hbl := lo_bits_lt (fun d => md_quietO G (H 0 3) (H 0 1) (ho_at (ho_row H m) h d) none (ho_mrow H m) h) i
        refine ev_ifB_eq rfl (fun h_36 => ?_) (fun h_36 => ?_)
        · refine ev_s (st_iinc_5 _ rfl rfl (nI_inc _)) ?_
          refine ev_s (is_goto rfl) ?_
          have := ih (i + 1) _ (by omega) hs
          rw [lo_bits_s] at this
          first
            | (rw [if_pos h_36] at this; exact this)
            | (rw [if_neg h_36] at this; exact this)
        · refine ev_s (is_iload rfl rfl) ?_
          refine ev_s (is_iconst (nI 1) rfl rfl) ?_
          refine ev_s (is_iload rfl rfl) ?_
          refine ev_s (is_ishl _ rfl (pu_shl1 (by omega))) ?_
          refine ev_s (is_ior _ rfl (pu_or hbl)) ?_
          refine ev_s (st_istore_4 rfl rfl) ?_
          refine ev_s (st_iinc_5 _ rfl rfl (nI_inc _)) ?_
          refine ev_s (is_goto rfl) ?_
          have := ih (i + 1) _ (by omega) hs
          rw [lo_bits_s] at this
          first
            | (rw [if_pos h_36] at this; exact this)
            | (rw [if_neg h_36] at this; exact this)
    refine ev_s (st_astore_nN_3 rfl rfl) ?_
    refine ev_s (is_iconst (nI 0) rfl rfl) ?_
    refine ev_s (st_istore_4 rfl rfl) ?_
    refine ev_s (is_iconst (nI 0) rfl rfl) ?_
    refine ev_s (st_istore_5 rfl rfl) ?_
    exact loop 6 0 mi (by omega) sc_rf
  · rw [eo] at hmt
    show Ev _ _ _ _ (.ref q :: _) _ _ _ _
    have loop : ∀ (j i : Nat) (ma : im_MI), i + j = 6 → sc_ xQ mi ma → Ev (d + 5) 121 12 [.ref 29, .int (nI m), .int (nI h), .ref q, .int (nI (lo_bits (fun d => md_quietO G (H 0 3) (H 0 1) (ho_at (ho_row H m) h d) (some q) (ho_mrow H m) h) i)), .int (nI i)] [] sh ma mr (fun r sh2 m2 r2 => sh2 = sh ∧ (r = .int (nI (lo_bits (fun d => md_quietO G (H 0 3) (H 0 1) (ho_at (ho_row H m) h d) (some q) (ho_mrow H m) h) 6)) ∧ r2 = mr ∧ sc_ xQ mi m2)) := by
      intro j
      induction j with
      | zero =>
        intro i ma hi hs
        have hmt : xo_ok ma (some q) (ho_mrow H m) := by rw [← eo]; exact xa_mate (xa_sc hx hs) m
        have hx := xa_sc hx hs
        refine ev_s (is_iload rfl rfl) ?_
        refine ev_s (is_bipush (nI 6) rfl rfl) ?_
        refine ev_s (is_icmp_ge_t rfl (nI_le (by omega) (by omega))) ?_
        refine ev_s (is_iload rfl rfl) ?_
        refine ev_ret (is_ireturn rfl rfl (by first | rfl | exact pu_b_nar | decide)) ?_
        exact ⟨rfl, by rw [show i = 6 by omega], rfl, hs⟩
      | succ j ih =>
        intro i ma hi hs
        have hmt : xo_ok ma (some q) (ho_mrow H m) := by rw [← eo]; exact xa_mate (xa_sc hx hs) m
        have hx := xa_sc hx hs
        refine ev_s (is_iload rfl rfl) ?_
        refine ev_s (is_bipush (nI 6) rfl rfl) ?_
        refine ev_s (is_icmp_ge_f rfl (nI_ge (by omega) (by omega))) ?_
        first
          | refine ev_s (is_aload_n rfl rfl) ?_
          | refine ev_s (is_aload_nN rfl rfl) ?_
        refine ev_s (is_getR rfl (pu_s hC 29 rfl rfl) rfl rfl (pu_r hC 29 3 rfl rfl)) ?_
        first
          | refine ev_s (is_aload_n rfl rfl) ?_
          | refine ev_s (is_aload_nN rfl rfl) ?_
        refine ev_s (is_iload_n rfl rfl) ?_
        refine ev_s (is_iload_n rfl rfl) ?_
        refine ev_s (is_iload rfl rfl) ?_
        refine ev_q1 (is_callR 4 [_, _, _] [_] rfl rfl rfl rfl rfl (Nat.le_of_ble_eq_true rfl) rfl rfl rfl (pu_s hC 29 rfl rfl)) rfl rfl (x_dOther hC hx hm hh (v := i) (by omega)) (fun r_28 mi mr hq_28 => ?_)
        obtain ⟨rfl, hmr, hsc, hok⟩ := hq_28
        have hmr := hmr.symm
        subst hmr
        have hsc := hsc.mono (xM2_xQ (by omega))
        have hs := hs.trans hsc
        have hmt : xo_ok mi (some q) (ho_mrow H m) := by rw [← eo]; exact xa_mate (xa_sc hx hsc) m
        have hx := xa_sc hx hsc
        first
          | refine ev_s (is_aload_n rfl rfl) ?_
          | refine ev_s (is_aload_nN rfl rfl) ?_
        refine ev_s (is_iload_n rfl rfl) ?_
        refine ev_q1 (is_callR 4 [_, _, _] [] rfl rfl rfl rfl rfl (Nat.le_of_ble_eq_true rfl) rfl rfl rfl (pu_s hC 104 rfl rfl)) rfl rfl (x_quietO hC (xa_r hx) (h := h) (xm_Mt (by omega)) hok (o := (some q)) hmt hh) (fun r_33 mi mr hq_33 => ?_)
        obtain ⟨rfl, hmr, hsc⟩ := hq_33
        have hmr := hmr.symm
        subst hmr
        have hsc := hsc.mono (xS_xQ (Or.inl rfl))
        have hs := hs.trans hsc
        have hbl := lo_bits_lt (fun d => md_quietO G (H 0 3) (H 0 1) (ho_at (ho_row H m) h d) (some q) (ho_mrow H m) h) i
        refine ev_ifB_eq rfl (fun h_36 => ?_) (fun h_36 => ?_)
        · refine ev_s (st_iinc_5 _ rfl rfl (nI_inc _)) ?_
          refine ev_s (is_goto rfl) ?_
          have := ih (i + 1) _ (by omega) hs
          rw [lo_bits_s] at this
          first
            | (rw [if_pos h_36] at this; exact this)
            | (rw [if_neg h_36] at this; exact this)
        · refine ev_s (is_iload rfl rfl) ?_
          refine ev_s (is_iconst (nI 1) rfl rfl) ?_
          refine ev_s (is_iload rfl rfl) ?_
          refine ev_s (is_ishl _ rfl (pu_shl1 (by omega))) ?_
          refine ev_s (is_ior _ rfl (pu_or hbl)) ?_
          refine ev_s (st_istore_4 rfl rfl) ?_
          refine ev_s (st_iinc_5 _ rfl rfl (nI_inc _)) ?_
          refine ev_s (is_goto rfl) ?_
          have := ih (i + 1) _ (by omega) hs
          rw [lo_bits_s] at this
          first
            | (rw [if_pos h_36] at this; exact this)
            | (rw [if_neg h_36] at this; exact this)
    refine ev_s (st_astore_n_3 rfl rfl) ?_
    refine ev_s (is_iconst (nI 0) rfl rfl) ?_
    refine ev_s (st_istore_4 rfl rfl) ?_
    refine ev_s (is_iconst (nI 0) rfl rfl) ?_
    refine ev_s (st_istore_5 rfl rfl) ?_
    exact loop 6 0 mi (by omega) sc_rf
