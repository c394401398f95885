/-! ===== PURE: answers of the host's calls ===== -/
def fd_b (a b c d e k : Nat) : Nat := if k = 0 then a else if k = 1 then b else if k = 2 then c else if k = 3 then d else e
def fd_ok (n a b c d e : Int32) : Bool := ho_rng (nI 1) n (nI 5) && ho_rng (nI 0) a (nI 255) && ho_rng (nI 0) b (nI 255) && ho_rng (nI 0) c (nI 255) && ho_rng (nI 0) d (nI 255) && ho_rng (nI 0) e (nI 255)
def an_feed (H : ho_T) (n a b c d e : Int32) : Int32 := if fd_ok n a b c d e = true then (if 160 < H 0 4 + jn n then -4 else nI (H 0 4 + jn n)) else -2
def fd_K (H K : ho_T) (a b c d e : Nat) : ho_T := fun i j => if i = 6 ∧ H 0 4 ≤ j then fd_b a b c d e (j - H 0 4) else K i j
def st_feedH (H : ho_T) (n a b c d e : Int32) : ho_T := if fd_ok n a b c d e = true then (if 160 < H 0 4 + jn n then H else ho_set H 0 4 (H 0 4 + jn n)) else H
def st_feedK (H K : ho_T) (n a b c d e : Int32) : ho_T := if fd_ok n a b c d e = true then (if 160 < H 0 4 + jn n then K else fd_K H K (jn a) (jn b) (jn c) (jn d) (jn e)) else K
def ho_isT (H : ho_T) (t : Int32) : Bool := ho_rng (nI 0) t (nI (H 0 2) - nI 1)
theorem ho_isT_n {H : ho_T} {v : Int32} (hn : H 0 2 ≤ 6) (h : ho_isT H v = true) : ∃ j, v = nI j ∧ j < H 0 2 ∧ jn (nI j) = j := by
  obtain ⟨j, e, h1⟩ := pu_man (by omega) (of_decide_eq_true h)
  exact ⟨j, e, h1, jn_n (by omega)⟩
def an_force (H : ho_T) (t : Int32) : Int32 := if ho_isT H t = true then nI (H 0 3) else -2
def st_force (H : ho_T) (t : Int32) : ho_T := if ho_isT H t = true then ho_set H 0 3 (jn t) else H
/-- the image -/
def st_image (H K : ho_T) : ho_T := fun i j => if i = 0 then (if j = 0 then 1 else if j = 1 then H 0 0 else if j = 2 then H 0 1 else if j = 3 then H 0 3 else K 0 j) else if 10 ≤ i ∧ i < 16 then H i j else K i j
def an_back (K : ho_T) : Int32 := if K 0 0 = 1 then nI (K 0 1) else -3
def st_backH (H K : ho_T) : ho_T := fun i j => if i = 0 then (if j = 0 then K 0 1 else if j = 1 then K 0 2 else if j = 3 then K 0 3 else H 0 j) else if 10 ≤ i ∧ i < 16 then K i j else H i j
def st_back (H K : ho_T) : ho_T := if K 0 0 = 1 then st_backH H K else H
/-- sheets -/
def an_sheet (s sort n : Int32) : Int32 := if ho_rng (nI 0) s (nI 3) = true then (if ho_rng (-1) sort (nI 2) = true then (if sort = -1 then nI 1 else if nI 40 < n then -2 else if n < 0 then -14 else nI 1) else -2) else -2
def sh_K (K : ho_T) (s z n : Nat) : ho_T := fun i j => if i = 4 ∧ j = s then z else if i = 5 ∧ j = s then n else if i = 20 + s then 0 else K i j
def st_sheet (K : ho_T) (s sort n : Int32) : ho_T := if ho_rng (nI 0) s (nI 3) = true then (if ho_rng (-1) sort (nI 2) = true then (if sort = -1 then sh_K K (jn s) 0 0 else if nI 40 < n then K else if n < 0 then K else sh_K K (jn s) (jn sort + 1) (jn n)) else K) else K
/-- a number as a sheet of this sort (one more) keeps it -/
def sh_v (z : Nat) (v : Int32) : Int32 := if z = 1 then v.toInt8.toInt32 else if z = 2 then v.toInt16.toInt32 else v
def ho_inS (K : ho_T) (s : Nat) (i : Int32) : Bool := ho_rng (nI 0) i (nI (K 5 s) - nI 1)
def an_cell (K : ho_T) (s i : Int32) : Int32 := if ho_rng (nI 0) s (nI 3) = true then (if K 4 (jn s) = 0 then -11 else if ho_inS K (jn s) i = true then nI 1 else -12) else -2
def st_cell (K : ho_T) (s i v : Int32) : ho_T := if ho_rng (nI 0) s (nI 3) = true then (if K 4 (jn s) = 0 then K else if ho_inS K (jn s) i = true then ho_set K (20 + jn s) (jn i) (sh_v (K 4 (jn s)) v).toBitVec.toNat else K) else K
def sh_room (K : ho_T) (s : Nat) (i n : Int32) : Bool := decide (0 ≤ i ∧ 0 ≤ n ∧ i ≤ nI (K 5 s) - n)
def an_copy (K : ho_T) (s i o j n : Int32) : Int32 := if ho_rng (nI 0) s (nI 3) = true then (if ho_rng (nI 0) o (nI 3) = true then (if K 4 (jn s) = 0 then -11 else if K 4 (jn o) = 0 then -11 else if K 4 (jn s) = K 4 (jn o) then (if sh_room K (jn s) i n = true then (if sh_room K (jn o) j n = true then n else -12) else -12) else -13) else -2) else -2
def cp_K (K : ho_T) (s i o j n : Nat) : ho_T := fun a b => if a = 20 + o ∧ j ≤ b ∧ b < j + n then K (20 + s) (i + (b - j)) else K a b
def st_copy (K : ho_T) (s i o j n : Int32) : ho_T := if ho_rng (nI 0) s (nI 3) = true then (if ho_rng (nI 0) o (nI 3) = true then (if K 4 (jn s) = 0 then K else if K 4 (jn o) = 0 then K else if K 4 (jn s) = K 4 (jn o) then (if sh_room K (jn s) i n = true then (if sh_room K (jn o) j n = true then cp_K K (jn s) (jn i) (jn o) (jn j) (jn n) else K) else K) else K) else K) else K
/-- men by a sheet: from the k-th on, so many came; the answer, what is so then -/
def mb_run (K : ho_T) (s : Nat) (frm : Int32) (n : Nat) : Nat → Nat → Nat → ho_T → Int32 × ho_T
  | 0, _, c, H => (nI c, H)
  | j + 1, k, c, H => if ho_inS K s (frm + nI k) = true then (let v := nI (K (20 + s) (jn (frm + nI k))); mb_run K s frm n j (k + 1) (c + (if 0 ≤ an_man H v then 1 else 0)) (st_man H v)) else (-12, H)
def an_menBy (H K : ho_T) (s sort frm n : Int32) : Int32 × ho_T := if ho_rng (nI 0) s (nI 3) = true then (if ho_rng (nI 0) sort (nI 2) = true then (if ho_rng (nI 0) n (nI 6) = true then (if K 4 (jn s) = 0 then (-11, H) else if K 4 (jn s) = jn sort + 1 then mb_run K (jn s) frm (jn n) (jn n) 0 0 H else (-13, H)) else (-2, H)) else (-2, H)) else (-2, H)
/-- whether a kind is one of another -/
def kd_one (k q : Nat) : Bool := decide (q = 0 ∨ k = q ∨ (q = 1 ∧ k = 3) ∨ (q = 2 ∧ k = 4))
def an_taken (H : ho_T) (i k : Int32) : Int32 := if ho_rng (nI 0) k (nI 6) = true then (if ho_rng (nI 0) i (nI 17) = true then (if 6 ≤ jn i then (if k = nI 6 then nI (ho_w H (jn i - 6)) else -13) else if H 0 0 ≤ jn i then -11 else if k = nI 6 then -13 else if kd_one (H 1 (jn i)) (jn k) = true then i else -13) else -12) else -2
theorem ho_set_same (H : ho_T) (i j : Nat) : ho_set H i j (H i j) = H := by
  funext a b
  unfold ho_set
  split
  · rename_i h; rw [h.1, h.2]
  · rfl
def xHost (k : Nat) : Bool := decide ((33 ≤ k ∧ k ≤ 35) ∨ (40 ≤ k ∧ k ≤ 53) ∨ (96 ≤ k ∧ k ≤ 103))
theorem xHost_f {k : Nat} (h : ¬ ((33 ≤ k ∧ k ≤ 35) ∨ (40 ≤ k ∧ k ≤ 53) ∨ (96 ≤ k ∧ k ≤ 103))) : xHost k = false := decide_eq_false h
theorem xHost_t {k : Nat} (h : (33 ≤ k ∧ k ≤ 35) ∨ (40 ≤ k ∧ k ≤ 53) ∨ (96 ≤ k ∧ k ≤ 103)) : xHost k = true := decide_eq_true h
theorem xHost_all (k : Nat) (h : xHost k = true) : xAll k = true := by
  have := of_decide_eq_true h
  exact decide_eq_true (by omega)
theorem ho_bd_04 {H : ho_T} (h : ho_bd H) {v : Nat} (hv : v ≤ 160) : ho_bd (ho_set H 0 4 v) := by
  have e1 : ∀ i j, i ≠ 0 → ho_set H 0 4 v i j = H i j := fun i j hi => ho_set_i _ _ _ _ hi _
  have e2 : ∀ j, j ≠ 4 → ho_set H 0 4 v 0 j = H 0 j := fun j hj => ho_set_j _ _ _ _ hj _
  obtain ⟨b1, b2, b3, b4, b5, b6, b7, b8, b9, b10⟩ := h
  exact ⟨by rw [e2 0 (by decide)]; exact b1, by rw [e2 1 (by decide)]; exact b2, by rw [e2 2 (by decide)]; exact b3, by rw [e2 3 (by decide), e2 2 (by decide)]; exact b4, by rw [ho_set_s]; exact hv, fun m => by rw [e1 1 _ (by decide)]; exact b6 m, fun m => by rw [e1 2 _ (by decide)]; exact b7 m, fun m k hk => by rw [e1 _ _ (by omega)]; exact b8 m k hk, fun m => by rw [e1 _ _ (by omega)]; exact b9 m, fun m => by rw [e1 _ _ (by omega)]; exact b10 m⟩
theorem ho_iv_lo {H H' : ho_T} (h : ho_iv H) (h0 : H' 0 0 = H 0 0) (h1 : ∀ m, H' (10 + m) 13 = H (10 + m) 13) : ho_iv H' := by
  unfold ho_iv
  rw [h0]
  simp only [h1]
  exact h
/-- the men and the law stay where only the host's things are written -/
theorem xa_host {H : ho_T} {G : ho_G} {mi mi' : im_MI} {mr : im_MR} (hx : xa_ok H G mi mr) (hs : sc_ xHost mi mi') {v : Nat} (hv : v ≤ 160) : xa_ok (ho_set H 0 4 v) G mi' mr := by
  have hb := xa_bd hx
  have hn := xa_n hx
  have ht := hb.2.2.1
  have e1 : ∀ i j, i ≠ 0 → ho_set H 0 4 v i j = H i j := fun i j hi => ho_set_i _ _ _ _ hi _
  have e2 : ∀ j, j ≠ 4 → ho_set H 0 4 v 0 j = H 0 j := fun j hj => ho_set_j _ _ _ _ hj _
  have er : ∀ m, ho_row (ho_set H 0 4 v) m = ho_row H m := fun m => by funext j; unfold ho_row; rw [e1 1 _ (by decide), e1 2 _ (by decide), e1 _ _ (by omega)]
  obtain ⟨h1, h2, h3, h4, h5, h6, h7, h8, h9⟩ := hx
  have e29 := hs 29 (xHost_f (by omega))
  have e104 := hs 104 (xHost_f (by omega))
  refine ⟨by rw [e29, e2 0 (by decide)]; exact h1, by rw [e29, e2 2 (by decide)]; exact h2, by rw [e29, e2 3 (by decide)]; exact h3, by rw [e104, e2 1 (by decide)]; exact h4, by rw [e2 3 (by decide)]; exact h5, fun m hm => ?_, fun t ht2 => ?_, ho_bd_04 h8 hv, ho_iv_lo h9 (e2 0 (by decide)) (fun m => e1 _ _ (by omega))⟩
  · rw [e2 0 (by decide)] at hm
    rw [er]
    exact xm_row (h6 m hm) (hs _ (xHost_f (by omega))) (hs _ (xHost_f (by omega)))
  · rw [e2 2 (by decide)] at ht2
    exact xt_row (h7 t ht2) (hs _ (xHost_f (by omega))) (hs _ (xHost_f (by omega)))
theorem xa_host' {H : ho_T} {G : ho_G} {mi mi' : im_MI} {mr : im_MR} (hx : xa_ok H G mi mr) (hs : sc_ xHost mi mi') : xa_ok H G mi' mr := by
  have := xa_host hx hs (v := H 0 4) (xa_bd hx).2.2.2.2.1
  rw [ho_set_same] at this
  exact this
theorem pu_C_u {sh : im_Sh} {mr : im_MR} (h : pu_C sh mr) {k j : Nat} {v : Option Nat} (hm : im_mut k j = true) : pu_C sh (im_u mr k j v) := by
  refine ⟨h.1, h.2.1, fun a b hab => ?_⟩
  unfold im_u
  split
  · rename_i hq; rw [hq.1, hq.2, hm] at hab; cases hab
  · exact h.2.2 a b hab
