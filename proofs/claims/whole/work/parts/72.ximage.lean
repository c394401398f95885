/-! ===== PURE, the class: image, back ===== -/

theorem xm_Mk {m : Nat} (h : m < 6) : xm_M (42 + 2 * m) := ⟨m, h, Or.inr (Or.inr rfl)⟩
def xIm (k : Nat) : Bool := decide (40 ≤ k ∧ k ≤ 53)
theorem xIm_t {k : Nat} (h : 40 ≤ k ∧ k ≤ 53) : xIm k = true := decide_eq_true h
theorem xIm_f {k : Nat} (h : ¬ (40 ≤ k ∧ k ≤ 53)) : xIm k = false := decide_eq_false h
theorem xIm_host (k : Nat) (h : xIm k = true) : xHost k = true := by
  have := of_decide_eq_true h
  exact xHost_t (by omega)
theorem st_im_0 (H K : ho_T) (j : Nat) : st_image H K 0 j = if j = 0 then 1 else if j = 1 then H 0 0 else if j = 2 then H 0 1 else if j = 3 then H 0 3 else K 0 j := if_pos rfl
theorem st_im_m (H K : ho_T) {m : Nat} (hm : m < 6) (j : Nat) : st_image H K (10 + m) j = H (10 + m) j := by
  unfold st_image
  rw [if_neg (by omega), if_pos (by omega)]
theorem st_im_o (H K : ho_T) {i : Nat} (h0 : i ≠ 0) (h : i < 10 ∨ 16 ≤ i) (j : Nat) : st_image H K i j = K i j := by
  unfold st_image
  rw [if_neg h0, if_neg (by omega)]
theorem st_im_row (H K : ho_T) {m : Nat} (hm : m < 6) : ho_irow H (st_image H K) m = ho_row H m := by
  funext j
  unfold ho_irow ho_row
  rw [st_im_m H K hm]
theorem xh_image {H K : ho_T} {mi m2 : im_MI} (h : xh_ok H K mi) (hb : ho_bd H) (hv : ho_iv H) (hs : sc_ xIm mi m2) (g1 : m2 40 1 = nI 1) (g2 : m2 40 2 = nI (H 0 0)) (g3 : m2 40 3 = nI (H 0 1)) (g4 : m2 40 4 = nI (H 0 3)) (g5 : ∀ m, m < H 0 0 → xm_ok m2 (42 + 2 * m) (ho_row H m)) : xh_ok H (st_image H K) m2 := by
  obtain ⟨h1, h2, h3, h4, h5, c1, c2, c3, c4, c5, c6⟩ := h
  obtain ⟨b1, b2, b3, b4, b5, b6, b7, b8, b9, b10⟩ := hb
  have e : ∀ k, ¬ (40 ≤ k ∧ k ≤ 53) → m2 k = mi k := fun k hk => hs k (xIm_f hk)
  refine ⟨fun s hs4 => ?_, by rw [e 33 (by omega)]; exact h2, fun j hj => by rw [e 34 (by omega), st_im_o H K (by decide) (by decide)]; exact h3 j hj, by rw [g1]; rfl, fun _ => ⟨by rw [g2]; rfl, by rw [g3]; rfl, by rw [g4]; rfl, fun m hm => ?_⟩, fun s => by rw [st_im_o H K (by decide) (by decide)]; exact c1 s, fun s => by rw [st_im_o H K (by decide) (by decide)]; exact c2 s, fun s j hs4 => by rw [st_im_o H K (by omega) (by omega)]; exact c3 s j hs4, fun j => by rw [st_im_o H K (by decide) (by decide)]; exact c4 j, by show 1 < 2; decide, fun _ => ⟨Nat.le_refl _, b2, b4, fun m h hm hh => by rw [st_im_m H K hm]; exact b8 m h hh, fun m hm => by rw [st_im_m H K hm]; exact b9 m, fun m hm => by rw [st_im_m H K hm]; exact b10 m, fun m hm => ?_, fun m o hm ho q => ?_⟩⟩
  · rw [e _ (by omega), e _ (by omega), st_im_o H K (by decide) (by decide), st_im_o H K (by decide) (by decide)]
    refine ⟨(h1 s hs4).1, (h1 s hs4).2.1, fun j hj => ?_⟩
    rw [st_im_o H K (by omega) (by omega)]
    exact (h1 s hs4).2.2 j hj
  · have hm' : m < H 0 0 := hm
    rw [st_im_row H K (by omega)]
    exact g5 m hm'
  · have hm' : m < H 0 0 := hm
    rw [st_im_m H K (by omega)]
    exact hv.1 m hm'
  · have hm' : m < H 0 0 := hm
    have ho' : o < H 0 0 := ho
    rw [st_im_m H K (by omega), st_im_m H K (by omega)] at q
    exact hv.2 m o hm' ho' q

theorem x_keep {d : Nat} {sh : im_Sh} {mi : im_MI} {mr : im_MR} (hC : pu_C sh mr) {H : ho_T} {G : ho_G} (hx : xa_ok H G mi mr) (w t : Nat) : EvM (d + 1) 1 [.ref 40, .ref 30, .int (nI (H 0 0)), .int (nI w), .int (nI t)] sh mi mr (fun r sh2 m2 r2 => sh2 = sh ∧ (r2 = mr ∧ sc_ xIm mi m2 ∧ m2 40 1 = nI 1 ∧ m2 40 2 = nI (H 0 0) ∧ m2 40 3 = nI w ∧ m2 40 4 = nI t ∧ ∀ m, m < H 0 0 → xm_ok m2 (42 + 2 * m) (ho_row H m))) := by
  show Ev (d + 1) 1 0 [.ref 40, .ref 30, .int (nI (H 0 0)), .int (nI w), .int (nI t), im_bad] [] sh mi mr _
  have hn6 := xa_n hx
  have loop : ∀ (j i : Nat) (ma : im_MI), i + j = H 0 0 → sc_ xIm mi ma → ma 40 2 = nI (H 0 0) → (∀ q, q < i → xm_ok ma (42 + 2 * q) (ho_row H q)) → Ev (d + 1) 1 13 [.ref 40, .ref 30, .int (nI (H 0 0)), .int (nI w), .int (nI t), .int (nI i)] [] sh ma mr (fun r sh2 m2 r2 => sh2 = sh ∧ (r2 = mr ∧ sc_ xIm mi m2 ∧ m2 40 1 = nI 1 ∧ m2 40 2 = nI (H 0 0) ∧ m2 40 3 = nI w ∧ m2 40 4 = nI t ∧ ∀ m, m < H 0 0 → xm_ok m2 (42 + 2 * m) (ho_row H m))) := by
    intro j
    induction j with
    | zero =>
      intro i ma hi hs g2 g5
      refine ev_s (is_iload rfl rfl) ?_
      refine ev_s (is_aload_n rfl rfl) ?_
      refine ev_s (is_getI' rfl (pu_s hC 40 rfl rfl) rfl rfl g2) ?_
      refine ev_s (is_icmp_ge_t rfl (nI_le (by omega) (by omega))) ?_
      refine ev_s (is_aload_n rfl rfl) ?_
      refine ev_s (is_iload_n rfl rfl) ?_
      refine ev_s (is_putI rfl (pu_s hC 40 rfl rfl) rfl rfl rfl) ?_
      refine ev_s (is_aload_n rfl rfl) ?_
      refine ev_s (is_iload rfl rfl) ?_
      refine ev_s (is_putI rfl (pu_s hC 40 rfl rfl) rfl rfl rfl) ?_
      refine ev_s (is_aload_n rfl rfl) ?_
      refine ev_s (is_iconst (nI 1) rfl rfl) ?_
      refine ev_s (is_putB rfl (pu_s hC 40 rfl rfl) rfl rfl rfl (by decide)) ?_
      refine ev_ret (is_return rfl) ?_
      refine ⟨rfl, rfl, ((hs.u (xIm_t (by decide))).u (xIm_t (by decide))).u (xIm_t (by decide)), im_u_s _ _ _ _, ?_, ?_, ?_, fun q hq => ?_⟩
      · rw [im_u_j _ _ _ _ (by decide), im_u_j _ _ _ _ (by decide), im_u_j _ _ _ _ (by decide)]; exact g2
      · rw [im_u_j _ _ _ _ (by decide), im_u_j _ _ _ _ (by decide), im_u_s]
      · rw [im_u_j _ _ _ _ (by decide), im_u_s]
      · exact xm_row (xm_row (xm_row (g5 q (by omega)) (im_u_row' (by omega)) (im_u_row' (by omega))) (im_u_row' (by omega)) (im_u_row' (by omega))) (im_u_row' (by omega)) (im_u_row' (by omega))
    | succ j ih =>
      intro i ma hi hs g2 g5
      refine ev_s (is_iload rfl rfl) ?_
      refine ev_s (is_aload_n rfl rfl) ?_
      refine ev_s (is_getI' rfl (pu_s hC 40 rfl rfl) rfl rfl g2) ?_
      refine ev_s (is_icmp_ge_f rfl (nI_ge (by omega) (by omega))) ?_
      refine ev_s (is_aload_n rfl rfl) ?_
      refine ev_s (is_getR rfl (pu_s hC 40 rfl rfl) rfl rfl (pu_r hC 40 0 rfl rfl)) ?_
      refine ev_s (is_iload rfl rfl) ?_
      refine ev_s (is_aaload (k := 1) (i) rfl (pu_s hC 41 rfl rfl) rfl rfl rfl (by omega) (pu_rows hC (by omega)).2.2.2) ?_
      refine ev_s (is_aload_n rfl rfl) ?_
      refine ev_s (is_iload rfl rfl) ?_
      refine ev_s (is_aaload (k := 1) (i) rfl (pu_s hC 30 rfl rfl) rfl rfl rfl (by omega) (pu_rows hC (by omega)).1) ?_
      refine ev_q0 (is_callR 2 [_] [] rfl rfl rfl rfl rfl (Nat.le_of_ble_eq_true rfl) rfl rfl rfl (pu_M hC (xm_Mk (m := i) (by omega))).1) rfl rfl (x_become hC (k := 42 + 2 * i) (q := 54 + 4 * i) (xm_Mk (m := i) (by omega)) (xm_Mi (m := i) (by omega)) (xm_row (xa_m hx (m := i) (by omega)) (hs _ (xIm_f (by omega))) (hs _ (xIm_f (by omega)))) (by omega) (by omega) (by omega)) (fun r_33 mi mr hq_33 => ?_)
      obtain ⟨hmr, hsc, hok⟩ := hq_33
      have hmr := hmr.symm
      subst hmr
      have g2 := (congrFun (hsc 40 (decide_eq_false (by omega))) 2).trans g2
      have g5 : ∀ q, q < i + 1 → xm_ok mi (42 + 2 * q) (ho_row H q) := fun q hq => by
        rcases Nat.eq_or_lt_of_le (Nat.le_of_lt_succ hq) with c | c
        · rw [c]; exact hok
        · exact xm_row (g5 q c) (hsc _ (decide_eq_false (by omega))) (hsc _ (decide_eq_false (by omega)))
      have hs := hs.trans (hsc.mono (fun k hk => by have := of_decide_eq_true hk; exact xIm_t (by omega)))
      refine ev_s (st_iinc_5 _ rfl rfl (nI_inc _)) ?_
      refine ev_s (is_goto rfl) ?_
      exact ih (i + 1) _ (by omega) hs g2 g5
  refine ev_s (is_aload_n rfl rfl) ?_
  refine ev_s (is_iload_n rfl rfl) ?_
  refine ev_s (is_bipush (nI 6) rfl rfl) ?_
  refine ev_c1 (is_call0 2 [_, _] [_] rfl rfl rfl rfl rfl (Nat.le_of_ble_eq_true rfl) rfl rfl rfl) rfl rfl (x_min _ _) ?_
  rw [if_neg (nI_nlt (a := 6) (b := H 0 0) hn6 (by decide))]
  refine ev_s (is_putI rfl (pu_s hC 40 rfl rfl) rfl rfl rfl) ?_
  refine ev_s (is_iconst (nI 0) rfl rfl) ?_
  refine ev_s (st_istore_5 rfl rfl) ?_
  exact loop (H 0 0) 0 _ (by omega) (sc_rf.u (xIm_t (by decide))) (im_u_s _ _ _ _) (fun q hq => by omega)

theorem x_image {d : Nat} {sh : im_Sh} {mi : im_MI} {mr : im_MR} (hC : pu_C sh mr) {H K : ho_T} {G : ho_G} (hx : xa_ok H G mi mr) (hz : xh_ok H K mi) : EvM (d + 2) 96 [.ref 29] sh mi mr (fun r sh2 m2 r2 => sh2 = sh ∧ (r = .int (nI (H 0 0)) ∧ r2 = mr ∧ xa_ok (H) G m2 mr ∧ xh_ok (H) (st_image H K) m2 ∧ sc_ xAll mi m2)) := by
  show Ev (d + 2) 96 0 [.ref 29] [] sh mi mr _
  have hn6 := xa_n hx
  have hs : sc_ xQ mi mi := sc_rf
  refine ev_s (is_aload_n rfl rfl) ?_
  refine ev_s (is_getR rfl (pu_s hC 29 rfl rfl) rfl rfl (pu_r hC 29 13 rfl rfl)) ?_
  refine ev_s (is_aload_n rfl rfl) ?_
  refine ev_s (is_getR rfl (pu_s hC 29 rfl rfl) rfl rfl (pu_r hC 29 0 rfl rfl)) ?_
  refine ev_s (is_aload_n rfl rfl) ?_
  refine ev_s (is_getI' rfl (pu_s hC 29 rfl rfl) rfl rfl hx.1) ?_
  refine ev_s (is_aload_n rfl rfl) ?_
  refine ev_s (is_getR rfl (pu_s hC 29 rfl rfl) rfl rfl (pu_r hC 29 3 rfl rfl)) ?_
  refine ev_s (is_getI' rfl (pu_s hC 104 rfl rfl) rfl rfl hx.2.2.2.1) ?_
  refine ev_s (is_aload_n rfl rfl) ?_
  refine ev_s (is_getI' rfl (pu_s hC 29 rfl rfl) rfl rfl hx.2.2.1) ?_
  refine ev_q0 (is_callR 5 [_, _, _, _] [] rfl rfl rfl rfl rfl (Nat.le_of_ble_eq_true rfl) rfl rfl rfl (pu_s hC 40 rfl rfl)) rfl rfl (x_keep hC hx (H 0 1) (H 0 3)) (fun r_23 mi mr hq_23 => ?_)
  obtain ⟨hmr, hsc, g1, g2, g3, g4, g5⟩ := hq_23
  have hmr := hmr.symm
  subst hmr
  refine ev_s (is_aload_n rfl rfl) ?_
  refine ev_s (is_getI' rfl (pu_s hC 29 rfl rfl) rfl rfl (xa_host' hx (hsc.mono xIm_host)).1) ?_
  refine ev_ret (is_ireturn rfl rfl (by first | rfl | exact pu_b_nar | decide)) ?_
  exact ⟨rfl, rfl, rfl, xa_host' hx (hsc.mono xIm_host), xh_image hz (xa_bd hx) (xa_iv hx) hsc g1 g2 g3 g4 g5, (hsc.mono xIm_host).mono xHost_all⟩

theorem st_bk_0 (H K : ho_T) (j : Nat) : st_backH H K 0 j = if j = 0 then K 0 1 else if j = 1 then K 0 2 else if j = 3 then K 0 3 else H 0 j := if_pos rfl
theorem st_bk_m (H K : ho_T) {m : Nat} (hm : m < 6) (j : Nat) : st_backH H K (10 + m) j = K (10 + m) j := by
  unfold st_backH
  rw [if_neg (by omega), if_pos (by omega)]
theorem st_bk_o (H K : ho_T) {i : Nat} (h0 : i ≠ 0) (h : i < 10 ∨ 16 ≤ i) (j : Nat) : st_backH H K i j = H i j := by
  unfold st_backH
  rw [if_neg h0, if_neg (by omega)]
theorem st_bk_row (H K : ho_T) {m : Nat} (hm : m < 6) : ho_row (st_backH H K) m = ho_irow H K m := by
  funext j
  unfold ho_irow ho_row
  rw [st_bk_m H K hm, st_bk_o H K (by decide) (by decide), st_bk_o H K (by decide) (by decide)]
theorem st_bk_irow (H K : ho_T) (m : Nat) : ho_irow (st_backH H K) K m = ho_irow H K m := by
  funext j
  unfold ho_irow
  rw [st_bk_o H K (by decide) (by decide), st_bk_o H K (by decide) (by decide)]
theorem ho_bd_back {H K : ho_T} (hb : ho_bd H) (hh : ho_hb H K) (h1 : K 0 0 = 1) : ho_bd (st_backH H K) := by
  obtain ⟨b1, b2, b3, b4, b5, b6, b7, b8, b9, b10⟩ := hb
  obtain ⟨d1, d2, d3, d4, d5, d6, d7, d8⟩ := hh.2.2.2.2.2 h1
  refine ⟨Nat.le_trans d1 b1, d2, b3, d3, b5, fun m => by rw [st_bk_o H K (by decide) (by decide)]; exact b6 m, fun m => by rw [st_bk_o H K (by decide) (by decide)]; exact b7 m, fun m h hh => ?_, fun m => ?_, fun m => ?_⟩
  · rcases Nat.lt_or_ge m 6 with q | q
    · rw [st_bk_m H K q]; exact d4 m h q hh
    · rw [st_bk_o H K (by omega) (by omega)]; exact b8 m h hh
  · rcases Nat.lt_or_ge m 6 with q | q
    · rw [st_bk_m H K q]; exact d5 m q
    · rw [st_bk_o H K (by omega) (by omega)]; exact b9 m
  · rcases Nat.lt_or_ge m 6 with q | q
    · rw [st_bk_m H K q]; exact d6 m q
    · rw [st_bk_o H K (by omega) (by omega)]; exact b10 m
theorem ho_iv_back {H K : ho_T} (hn : H 0 0 ≤ 6) (hh : ho_hb H K) (h1 : K 0 0 = 1) : ho_iv (st_backH H K) := by
  obtain ⟨d1, d2, d3, d4, d5, d6, d7, d8⟩ := hh.2.2.2.2.2 h1
  refine ⟨fun m hm => ?_, fun m o hm ho q => ?_⟩
  · have hm' : m < K 0 1 := hm
    rw [st_bk_m H K (by omega)]
    exact d7 m hm'
  · have hm' : m < K 0 1 := hm
    have ho' : o < K 0 1 := ho
    rw [st_bk_m H K (by omega), st_bk_m H K (by omega)] at q
    exact d8 m o hm' ho' q
/-- what the class's back writes -/
def xBk (k : Nat) : Bool := decide (k = 29 ∨ k = 104 ∨ (54 ≤ k ∧ k ≤ 77))
theorem xBk_t {k : Nat} (h : k = 29 ∨ k = 104 ∨ (54 ≤ k ∧ k ≤ 77)) : xBk k = true := decide_eq_true h
theorem xBk_f {k : Nat} (h : ¬ (k = 29 ∨ k = 104 ∨ (54 ≤ k ∧ k ≤ 77))) : xBk k = false := decide_eq_false h
theorem xBk_all (k : Nat) (h : xBk k = true) : xAll k = true := by
  have := of_decide_eq_true h
  exact decide_eq_true (by omega)
theorem xh_back {H K : ho_T} {mi m2 : im_MI} (h : xh_ok H K mi) (hn : H 0 0 ≤ 6) (h1 : K 0 0 = 1) (hs : sc_ xBk mi m2) : xh_ok (st_backH H K) K m2 := by
  have h3 := xh_row h (fun k hk => hs k (xBk_f (by omega))) (xh_i6 h hn)
  obtain ⟨g1, g2, g3, g4, g5, c1, c2, c3, c4, c5, c6⟩ := h3
  refine ⟨g1, g2, g3, g4, fun q => ?_, c1, c2, c3, c4, c5, fun q => ?_⟩
  · obtain ⟨e1, e2, e3, e4⟩ := g5 q
    exact ⟨e1, e2, e3, fun m hm => by rw [st_bk_irow]; exact e4 m hm⟩
  · obtain ⟨d1, d2, d3, d4⟩ := c6 q
    exact ⟨Nat.le_refl _, d2, d3, d4⟩
theorem xa_back {H K : ho_T} {G : ho_G} {mi m2 : im_MI} {mr r2 : im_MR} (hx : xa_ok H G mi mr) (hz : xh_ok H K mi) (h1 : K 0 0 = 1) (hs : sc_ xBk mi m2) (g1 : m2 29 2 = nI (K 0 1)) (g2 : m2 29 6 = nI (H 0 2)) (g3 : m2 29 7 = nI (K 0 3)) (g4 : m2 104 1 = nI (K 0 2)) (g5 : r2 104 0 = some (78 + 3 * K 0 3)) (g6 : ∀ m, m < K 0 1 → xm_ok m2 (54 + 4 * m) (ho_irow H K m)) : xa_ok (st_backH H K) G m2 r2 := by
  have hn := xa_n hx
  have hd := (hz.2.2.2.2.2.2.2.2.2.2 h1).1
  have hb6 := (xa_bd hx).2.2.1
  refine ⟨g1, g2, g3, g4, g5, fun m hm => ?_, fun t ht => ?_, ho_bd_back (xa_bd hx) hz.2.2.2.2.2 h1, ho_iv_back hn hz.2.2.2.2.2 h1⟩
  · have hm' : m < K 0 1 := hm
    rw [st_bk_row H K (by omega)]
    exact g6 m hm'
  · have ht' : t < H 0 2 := ht
    exact xt_row (xa_t hx ht') (hs _ (xBk_f (by omega))) (hs _ (xBk_f (by omega)))

theorem x_back {d : Nat} {sh : im_Sh} {mi : im_MI} {mr : im_MR} (hC : pu_C sh mr) {H K : ho_T} {G : ho_G} (hx : xa_ok H G mi mr) (hz : xh_ok H K mi) : EvM (d + 1) 97 [.ref 29] sh mi mr (fun r sh2 m2 r2 => sh2 = sh ∧ (r = .int (an_back K) ∧ pu_C sh r2 ∧ xa_ok (st_back H K) G m2 r2 ∧ xh_ok (st_back H K) (K) m2 ∧ sc_ xAll mi m2)) := by
  show Ev (d + 1) 97 0 [.ref 29, im_bad] [] sh mi mr _
  have hn6 := xa_n hx
  have hs : sc_ xQ mi mi := sc_rf
  refine ev_s (is_aload_n rfl rfl) ?_
  refine ev_s (is_getR rfl (pu_s hC 29 rfl rfl) rfl rfl (pu_r hC 29 13 rfl rfl)) ?_
  refine ev_s (is_getI' rfl (pu_s hC 40 rfl rfl) rfl rfl hz.2.2.2.1) ?_
  refine ev_ifN_ne rfl (by have := hz.2.2.2.2.2.2.2.2.2.1; omega) (fun h_7 => ?_) (fun h_7 => ?_)
  · have h1 : K 0 0 = 1 := by have := hz.2.2.2.2.2.2.2.2.2.1; omega
    have hi6 := xh_i6 hz hn6 h1
    rw [an_back, if_pos h1, st_back, if_pos h1]
    have loop : ∀ (j i : Nat) (ma : im_MI), i + j = K 0 1 → sc_ xBk mi ma → ma 29 = mi 29 → (∀ q, q < i → xm_ok ma (54 + 4 * q) (ho_irow H K q)) → Ev (d + 1) 97 15 [.ref 29, .int (nI i)] [] sh ma mr (fun r sh2 m2 r2 => sh2 = sh ∧ (r = .int (nI (K 0 1)) ∧ pu_C sh r2 ∧ xa_ok (st_backH H K) G m2 r2 ∧ xh_ok (st_backH H K) (K) m2 ∧ sc_ xAll mi m2)) := by
      intro j
      induction j with
      | zero =>
        intro i ma hi hs g29 g5
        refine ev_s (is_iload_n rfl rfl) ?_
        refine ev_s (is_aload_n rfl rfl) ?_
        refine ev_s (is_getR rfl (pu_s hC 29 rfl rfl) rfl rfl (pu_r hC 29 13 rfl rfl)) ?_
        refine ev_s (is_getI' rfl (pu_s hC 40 rfl rfl) rfl rfl ((congrFun (hs 40 (xBk_f (by omega))) 2).trans (hz.2.2.2.2.1 h1).1)) ?_
        refine ev_s (is_icmp_ge_t rfl (nI_le (by omega) (by omega))) ?_
        refine ev_s (is_aload_n rfl rfl) ?_
        refine ev_s (is_aload_n rfl rfl) ?_
        refine ev_s (is_getR rfl (pu_s hC 29 rfl rfl) rfl rfl (pu_r hC 29 13 rfl rfl)) ?_
        refine ev_s (is_getI' rfl (pu_s hC 40 rfl rfl) rfl rfl ((congrFun (hs 40 (xBk_f (by omega))) 2).trans (hz.2.2.2.2.1 h1).1)) ?_
        refine ev_s (is_putI rfl (pu_s hC 29 rfl rfl) rfl rfl rfl) ?_
        refine ev_s (is_aload_n rfl rfl) ?_
        refine ev_s (is_getR rfl (pu_s hC 29 rfl rfl) rfl rfl (pu_r hC 29 3 rfl rfl)) ?_
        refine ev_s (is_aload_n rfl rfl) ?_
        refine ev_s (is_getR rfl (pu_s hC 29 rfl rfl) rfl rfl (pu_r hC 29 13 rfl rfl)) ?_
        refine ev_s (is_getI' rfl (pu_s hC 40 rfl rfl) rfl rfl (show im_u ma 29 2 (nI (K 0 1)) 40 3 = nI (K 0 2) by rw [im_u_k _ _ _ _ (by decide)]; exact ((congrFun (hs 40 (xBk_f (by omega))) 3).trans (hz.2.2.2.2.1 h1).2.1))) ?_
        refine ev_s (is_putI rfl (pu_s hC 104 rfl rfl) rfl rfl rfl) ?_
        refine ev_s (is_aload_n rfl rfl) ?_
        refine ev_s (is_aload_n rfl rfl) ?_
        refine ev_s (is_getR rfl (pu_s hC 29 rfl rfl) rfl rfl (pu_r hC 29 13 rfl rfl)) ?_
        refine ev_s (is_getI' rfl (pu_s hC 40 rfl rfl) rfl rfl (show im_u (im_u ma 29 2 (nI (K 0 1))) 104 1 (nI (K 0 2)) 40 4 = nI (K 0 3) by rw [im_u_k _ _ _ _ (by decide), im_u_k _ _ _ _ (by decide)]; exact ((congrFun (hs 40 (xBk_f (by omega))) 4).trans (hz.2.2.2.2.1 h1).2.2.1))) ?_
        refine ev_c0 (is_callR 2 [_] [] rfl rfl rfl rfl rfl (Nat.le_of_ble_eq_true rfl) rfl rfl rfl (pu_s hC 29 rfl rfl)) rfl rfl (x_enforce hC (t := K 0 3) (by have := (hz.2.2.2.2.2.2.2.2.2.2 h1).2.2.1; have := (xa_bd hx).2.2.1; omega)) ?_
        refine ev_s (is_aload_n rfl rfl) ?_
        refine ev_s (is_getI' rfl (pu_s hC 29 rfl rfl) rfl rfl (show (im_u (im_u (im_u ma 29 2 (nI (K 0 1))) 104 1 (nI (K 0 2))) 29 7 (nI (K 0 3))) 29 2 = nI (K 0 1) by rw [im_u_j _ _ _ _ (by decide), im_u_k _ _ _ _ (by decide), im_u_s])) ?_
        refine ev_ret (is_ireturn rfl rfl (by first | rfl | exact pu_b_nar | decide)) ?_
        have hsb : sc_ xBk mi (im_u (im_u (im_u ma 29 2 (nI (K 0 1))) 104 1 (nI (K 0 2))) 29 7 (nI (K 0 3))) := ((hs.u (xBk_t (by decide))).u (xBk_t (by decide))).u (xBk_t (by decide))
        refine ⟨rfl, rfl, pu_C_u hC rfl, xa_back hx hz h1 hsb ?_ ?_ ?_ ?_ (im_u_s _ _ _ _) (fun q hq => ?_), xh_back hz hn6 h1 hsb, hsb.mono xBk_all⟩
        · rw [im_u_j _ _ _ _ (by decide), im_u_k _ _ _ _ (by decide), im_u_s]
        · rw [im_u_j _ _ _ _ (by decide), im_u_k _ _ _ _ (by decide), im_u_j _ _ _ _ (by decide), g29]; exact hx.2.1
        · exact im_u_s _ _ _ _
        · rw [im_u_k _ _ _ _ (by decide), im_u_s]
        · exact xm_row (xm_row (xm_row (g5 q (by omega)) (im_u_row' (by omega)) (im_u_row' (by omega))) (im_u_row' (by omega)) (im_u_row' (by omega))) (im_u_row' (by omega)) (im_u_row' (by omega))
      | succ j ih =>
        intro i ma hi hs g29 g5
        refine ev_s (is_iload_n rfl rfl) ?_
        refine ev_s (is_aload_n rfl rfl) ?_
        refine ev_s (is_getR rfl (pu_s hC 29 rfl rfl) rfl rfl (pu_r hC 29 13 rfl rfl)) ?_
        refine ev_s (is_getI' rfl (pu_s hC 40 rfl rfl) rfl rfl ((congrFun (hs 40 (xBk_f (by omega))) 2).trans (hz.2.2.2.2.1 h1).1)) ?_
        refine ev_s (is_icmp_ge_f rfl (nI_ge (by omega) (by omega))) ?_
        refine ev_s (is_aload_n rfl rfl) ?_
        refine ev_s (is_getR rfl (pu_s hC 29 rfl rfl) rfl rfl (pu_r hC 29 0 rfl rfl)) ?_
        refine ev_s (is_iload_n rfl rfl) ?_
        refine ev_s (is_aaload (k := 1) (i) rfl (pu_s hC 30 rfl rfl) rfl rfl rfl (by omega) (pu_rows hC (by omega)).1) ?_
        refine ev_s (is_aload_n rfl rfl) ?_
        refine ev_s (is_getR rfl (pu_s hC 29 rfl rfl) rfl rfl (pu_r hC 29 13 rfl rfl)) ?_
        refine ev_s (is_getR rfl (pu_s hC 40 rfl rfl) rfl rfl (pu_r hC 40 0 rfl rfl)) ?_
        refine ev_s (is_iload_n rfl rfl) ?_
        refine ev_s (is_aaload (k := 1) (i) rfl (pu_s hC 41 rfl rfl) rfl rfl rfl (by omega) (pu_rows hC (by omega)).2.2.2) ?_
        refine ev_q0 (is_callR 2 [_] [] rfl rfl rfl rfl rfl (Nat.le_of_ble_eq_true rfl) rfl rfl rfl (pu_M hC (xm_Mi (m := i) (by omega))).1) rfl rfl (x_become hC (k := 54 + 4 * i) (q := 42 + 2 * i) (xm_Mi (m := i) (by omega)) (xm_Mk (m := i) (by omega)) (xm_row ((hz.2.2.2.2.1 h1).2.2.2 i (by omega)) (hs _ (xBk_f (by omega))) (hs _ (xBk_f (by omega)))) (by omega) (by omega) (by omega)) (fun r_41 mi mr hq_41 => ?_)
        obtain ⟨hmr, hsc, hok⟩ := hq_41
        have hmr := hmr.symm
        subst hmr
        have e29 := hsc 29 (decide_eq_false (by omega))
        have g5 : ∀ q, q < i + 1 → xm_ok mi (54 + 4 * q) (ho_irow H K q) := fun q hq => by
          rcases Nat.eq_or_lt_of_le (Nat.le_of_lt_succ hq) with c | c
          · rw [c]; exact hok
          · exact xm_row (g5 q c) (hsc _ (decide_eq_false (by omega))) (hsc _ (decide_eq_false (by omega)))
        have hs := hs.trans (hsc.mono (fun k hk => by have := of_decide_eq_true hk; exact xBk_t (by omega)))
        refine ev_s (st_iinc_1 _ rfl rfl (nI_inc _)) ?_
        refine ev_s (is_goto rfl) ?_
        exact ih (i + 1) _ (by omega) hs (by rw [e29]; exact g29) g5
    refine ev_s (is_iconst (nI 0) rfl rfl) ?_
    refine ev_s (st_istore_n_1 rfl rfl) ?_
    exact loop (K 0 1) 0 mi (by omega) sc_rf rfl (fun q hq => by omega)
  · refine ev_s (is_bipush ((-3)) rfl rfl) ?_
    refine ev_ret (is_ireturn rfl rfl (by first | rfl | exact pu_b_nar | decide)) ?_
    rw [an_back, if_neg (show ¬ K 0 0 = 1 by omega), st_back, if_neg (show ¬ K 0 0 = 1 by omega)]
    exact ⟨rfl, rfl, hC, hx, hz, sc_rf⟩
