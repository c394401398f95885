/-! ===== SOUNDNESS 3: the instructions that read, write and make cells ===== -/
theorem im_K1 {D : va_G} {s : State} {cA : ClassId} {ty : FieldType} (hK : va_K D im_cl [] s) (h1 : ArrOfT s cA ty) (h2 : va_RA s cA ty) : va_K D im_cl [(cA, ty)] s := by
  refine ⟨hK.1, fun k q hq => ?_⟩
  match k, hq with
  | 0, hq => cases hq; exact ⟨h1, h2⟩
  | k + 1, hq => simp at hq
theorem im_ce_obj {ad : Nat → Nat} {ca : Nat → ClassId} {sh : im_Sh} {mi : im_MI} {mr : im_MR} {k t n : Nat} (h : sh[k]? = some (t, n)) (ht : t < 100) : im_ce ad ca sh mi mr k = .inr (t, (List.range n).map (im_fv ad mi mr t k)) := by
  simp only [im_ce, h, if_pos ht]
theorem im_ce_int {ad : Nat → Nat} {ca : Nat → ClassId} {sh : im_Sh} {mi : im_MI} {mr : im_MR} {k t n : Nat} (h : sh[k]? = some (t, n)) (h1 : 100 ≤ t) (h2 : t < 110) : im_ce ad ca sh mi mr k = .inl (ca k, n, .inl (mi k)) := by
  simp only [im_ce, h, if_neg (show ¬ t < 100 by omega), if_pos h2]
theorem im_ce_ref {ad : Nat → Nat} {ca : Nat → ClassId} {sh : im_Sh} {mi : im_MI} {mr : im_MR} {k t n : Nat} (h : sh[k]? = some (t, n)) (h1 : 110 ≤ t) : im_ce ad ca sh mi mr k = .inl (ca k, n, .inr (.inr (.inr (.inr fun j => (mr k j).map ad)))) := by
  simp only [im_ce, h, if_neg (show ¬ t < 100 by omega), if_neg (show ¬ t < 110 by omega)]
theorem im_SO_upd {s : State} {xs : Nat → Int32} {LL : Nat} {ca : Nat → ClassId} {sh : im_Sh} {mi mi' : im_MI} {mr mr' : im_MR} {k : Nat} (h : im_SO s xs LL ca sh mi mr) (hk : 29 ≤ k) (hm : ∀ q, q ≠ k → mi' q = mi q ∧ mr' q = mr q) (hr : ∀ j r, mr' k j = some r → r < sh.length) : im_SO s xs LL ca sh mi' mr' := by
  obtain ⟨h1, h2, h3, h4, h5⟩ := h
  refine ⟨h1, h2, h3, fun q j r hq => ?_, fun q j hq => ?_⟩
  · by_cases e : q = k
    · subst e; exact hr j r hq
    · rw [(hm q e).2] at hq; exact h4 q j r hq
  · rw [(hm q (by omega)).1, (hm q (by omega)).2]; exact h5 q j hq
theorem im_u_row {α : Type} (f : Nat → Nat → α) (k j : Nat) (v : α) : im_u f k j v k = fun q => if q = j then v else f k q := by
  funext q
  simp [im_u]
theorem im_u_ne {α : Type} (f : Nat → Nat → α) (k j : Nat) (v : α) {q : Nat} (h : q ≠ k) : im_u f k j v q = f q := by
  funext i
  simp [im_u, h]
theorem im_row_eq {α : Type} (f : Nat → Nat → α) (k : Nat) (g : Nat → α) : im_row f k g k = g := by simp [im_row]
theorem im_row_ne {α : Type} (f : Nat → Nat → α) (k : Nat) (g : Nat → α) {q : Nat} (h : q ≠ k) : im_row f k g q = f q := by simp [im_row, h]
/-- the heap behind a write into cell k -/
theorem im_HR_wr {D : va_G} {s : State} {A : Nat → Prop} {xs : Nat → Int32} {LL : Nat} {ad : Nat → Nat} {ca : Nat → ClassId} {sh : im_Sh} {mi mi' : im_MI} {mr mr' : im_MR} {H H1 : Heap} {locs locs1 : List Loc} {k : Nat} {e : va_E} (h : im_HR D s A xs LL ad ca sh mi mr H locs) (h1 : 29 ≤ k) (h2 : k < sh.length) (hm : ∀ q, q ≠ k → mi' q = mi q ∧ mr' q = mr q) (hr : ∀ j r, mr' k j = some r → r < sh.length) (he : e = im_ce ad ca sh mi' mr' k)
    (hP : va_P D im_cl ((im_wo ad ca sh mi mr).set (k - 29) (ad k, e)) H1) (hD : va_D A ((im_wo ad ca sh mi mr).set (k - 29) (ad k, e))) (hS : va_S A s.heap H1 locs1) : im_HR D s A xs LL ad ca sh mi' mr' H1 locs1 := by
  subst he
  rw [im_wo_set h1 h2 hm] at hP hD
  exact ⟨hP, hD, hS, im_SO_upd h.2.2.2 h1 hm hr⟩
theorem im_rv_tr {ad : Nat → Nat} (x : Option Nat) : va_rf (x.map ad) = im_tr ad (im_rv x) := by cases x <;> rfl
theorem im_fits_ref {t : FieldType} (h : im_isR t = true) (v : Option Nat) : narrow t (va_rf v) = va_rf v ∧ fits t (va_rf v) = true := by
  cases t <;> first
    | (cases h; done)
    | (cases v <;> exact ⟨rfl, rfl⟩)
section SND3
variable {p : Program} {l : Launch} {e : Env} {R : Room} {s : State} {m : MethodId} {args : Array Value} {below : List Frame} {meth : Method} {c : Code} {Q : State → Prop} {A : Nat → Prop} {D : va_G} {xs : Nat → Int32} {LL y : Nat}
theorem im_SP_getfield (C : im_Cx p R s m args meth c A D y) {i : Nat} : im_SP p l e R s m args below meth c Q A D xs LL y (.getfield i) := by
  intro pc nx a b c0 L st sh mi mr pc2 L2 st2 sh2 mi2 mr2 ad ca H locs cells slots ls hdec hle hok hdo hXF hHR hl hLn hcc hss kk
  obtain ⟨hx, hb, hml, hown, hts, hK, hA, hnm, hRf, hRl⟩ := C
  simp only [im_okR, Bool.and_eq_true] at hok
  obtain ⟨hok1, hok2⟩ := hok
  obtain rfl : nx = pc + 3 := Nat.eq_of_beq_eq_true hok1
  have hdg : decode (im_code y) pc = .ok (.getfield i, 3) := by rw [Nat.add_sub_cancel_left] at hdec; exact hdec
  simp only [im_do] at hdo
  split at hdo
  · rename_i r0 st1
    obtain ⟨r, hr0⟩ : ∃ r : Nat, r = r0 := ⟨r0, rfl⟩; subst hr0
    split at hdo
    · rename_i k n hs
      split at hdo
      · rename_i hc
        obtain ⟨rfl, hbn⟩ := hc
        simp only [im_nx, Option.some.injEq, Sum.inl.injEq, Prod.mk.injEq] at hdo
        obtain ⟨rfl, rfl, rfl, rfl, rfl, rfl⟩ := hdo
        have kk2 := kk ad ca H locs cells slots ls im_ag_rf hHR hl hLn rfl rfl
        have kk2 : W p l e R s m args below meth c H locs cells slots Q (F0 m (pc + 3) ls (im_fv ad mi mr k r b :: st1.map (im_tr ad))) := kk2
        by_cases hk20 : k = 20
        · subst hk20
          simp only [show Nat.beq 20 20 = true from rfl, cond_true] at hok2
          have hr : 3 ≤ r ∧ r < 16 ∧ n = 2 := by
            rcases Nat.lt_or_ge r 29 with h1 | h1
            · rw [hHR.2.2.2.2.1 r h1] at hs
              rcases im_lo h1 hs with ⟨e, -⟩ | ⟨e, -⟩ | ⟨-, e, e1, e2⟩ | ⟨e, -⟩
              · omega
              · omega
              · exact ⟨e1, e2, e⟩
              · omega
            · rcases hHR.2.2.2.2.2.1 r 20 n h1 hs with ⟨e, -⟩ | ⟨e, -⟩ <;> omega
          obtain ⟨hr1, hr2, rfl⟩ := hr
          obtain ⟨-, hco, hva, -⟩ := hXF.2.2.2.2.2.1.1 (r - 3) (by omega)
          simp only [show 3 + (r - 3) = r by omega, show 16 + (r - 3) = r + 13 by omega] at hco hva
          match b, hbn with
          | 0, _ =>
            simp only [show Nat.beq 0 0 = true from rfl, cond_true] at hok2
            refine vk_getf hx hb hva hHR.2.2.1 hown (hts _ (im_at_mem hok2)) (fun _ h => h) hdg ?_
            have e1 : im_fv ad mi mr 20 r 0 = .ref (ad (r + 13)) := by
              simp only [im_fv, im_rd, show Nat.beq (im_ft 20 0) 1 = true from rfl, cond_true, (hHR.2.2.2.2.2.2.2 r 0 (by omega)).2, im_xr]
              rw [if_pos ⟨hr1, hr2, trivial⟩]
              rfl
            rw [e1] at kk2
            exact kk2
          | 1, _ =>
            simp only [show Nat.beq 1 0 = false from rfl, cond_false, Bool.and_eq_true] at hok2
            refine vk_getf hx hb hco hHR.2.2.1 hown (hts _ (im_at_mem hok2.2)) (fun _ h => h) hdg ?_
            have e1 : im_fv ad mi mr 20 r 1 = .int 0 := by
              simp only [im_fv, im_rd, show Nat.beq (im_ft 20 1) 1 = false from rfl, cond_false, im_tr, (hHR.2.2.2.2.2.2.2 r 1 (by omega)).1, im_xi, if_neg (show ¬ r = 0 by omega), if_neg (show ¬ r = 1 by omega), if_neg (show ¬ 16 ≤ r by omega)]
            rw [e1] at kk2
            exact kk2
          | b + 2, h => exact absurd h (by omega)
        · have hbq : Nat.beq k 20 = false := by
            cases h : Nat.beq k 20 with
            | false => rfl
            | true => exact absurd (Nat.eq_of_beq_eq_true h) hk20
          simp only [hbq, cond_false, Bool.and_eq_true] at hok2
          have hk : k < 10 := Nat.blt_eq.mp hok2.1
          obtain ⟨h1, h2⟩ := im_hi hHR.2.2.2 hs (Or.inl (by omega))
          have hn : n = im_nf k := by
            rcases hHR.2.2.2.2.2.1 r k n h1 hs with ⟨-, e⟩ | ⟨e, -⟩
            · exact e
            · omega
          have he := im_wo_get (ad := ad) (ca := ca) (mi := mi) (mr := mr) h1 h2
          rw [im_ce_obj hs (by omega)] at he
          refine va_get (C := im_C k) (T := im_T k) (N := im_nf k) (ci := k) hx hb hts (im_uw k hk) hown hK hHR.1 (r - 29) he (im_cl_get k hk) b (by omega) (hts _ (im_at_mem hok2.2)) (fun x h => by rw [im_decl k hk b (by omega)] at h; exact h) (v := im_fv ad mi mr k r b) ?_ hdg kk2
          rw [List.getElem?_map, List.getElem?_range (by omega)]
          rfl
      · cases hdo
    · cases hdo
  · cases hdo
theorem im_SP_iaload (C : im_Cx p R s m args meth c A D y) : im_SP p l e R s m args below meth c Q A D xs LL y .iaload := by
  intro pc nx a b c0 L st sh mi mr pc2 L2 st2 sh2 mi2 mr2 ad ca H locs cells slots ls hdec hle hok hdo hXF hHR hl hLn hcc hss kk
  obtain ⟨hx, hb, hml, hown, hts, hK, hA, hnm, hRf, hRl⟩ := C
  obtain rfl : nx = pc + 1 := Nat.eq_of_beq_eq_true hok
  have hdg : decode (im_code y) pc = .ok (.iaload, 1) := by rw [Nat.add_sub_cancel_left] at hdec; exact hdec
  simp only [im_do] at hdo
  split at hdo
  · rename_i i r0 st1
    obtain ⟨r, hr0⟩ : ∃ r : Nat, r = r0 := ⟨r0, rfl⟩; subst hr0
    split at hdo
    · rename_i k n hs
      split at hdo
      · rename_i hc
        obtain ⟨hk, hin⟩ := hc
        simp only [im_nx, Option.some.injEq, Sum.inl.injEq, Prod.mk.injEq] at hdo
        obtain ⟨rfl, rfl, rfl, rfl, rfl, rfl⟩ := hdo
        have kk2 := kk ad ca H locs cells slots ls im_ag_rf hHR hl hLn rfl rfl
        rcases hk with rfl | rfl
        · obtain ⟨h1, h2⟩ := im_hi hHR.2.2.2 hs (Or.inr (by omega))
          have he := im_wo_get (ad := ad) (ca := ca) (mi := mi) (mr := mr) h1 h2
          rw [im_ce_int hs (by omega) (by omega)] at he
          rcases hHR.2.2.2.2.2.1 r 100 n h1 hs with ⟨e, -⟩ | ⟨-, e1, e2⟩
          · omega
          exact va_iald hx hb (im_K1 hK e1 e2) hHR.1 (r - 29) 0 he rfl hin hdg kk2
        · have hr : r < 29 := by
            rcases Nat.lt_or_ge r 29 with h1 | h1
            · exact h1
            · rcases hHR.2.2.2.2.2.1 r 200 n h1 hs with ⟨e, -⟩ | ⟨e, -⟩ <;> omega
          have hs2 := hs
          rw [hHR.2.2.2.2.1 r hr] at hs2
          have hv := (hHR.2.2.2.2.2.2.2 r i.toNatClampNeg hr).1
          have hr2 : r < 2 := by
            rcases im_lo hr hs2 with ⟨-, e⟩ | ⟨e, -⟩ | ⟨e, -⟩ | ⟨e, -⟩
            · exact e
            · omega
            · omega
            · omega
          match r, hr2 with
          | 0, _ =>
            cases hs2
            refine va_ti hx hb hXF.1 hHR.2.2.1 hin rfl hdg ?_
            rw [hv] at kk2
            exact kk2
          | 1, _ =>
            cases hs2
            refine va_ti hx hb hXF.2.1 hHR.2.2.1 hin rfl hdg ?_
            rw [hv] at kk2
            exact kk2
          | r + 2, h => exact absurd h (by omega)
      · cases hdo
    · cases hdo
  · cases hdo
theorem im_SP_caload (C : im_Cx p R s m args meth c A D y) : im_SP p l e R s m args below meth c Q A D xs LL y .caload := by
  intro pc nx a b c0 L st sh mi mr pc2 L2 st2 sh2 mi2 mr2 ad ca H locs cells slots ls hdec hle hok hdo hXF hHR hl hLn hcc hss kk
  obtain ⟨hx, hb, hml, hown, hts, hK, hA, hnm, hRf, hRl⟩ := C
  obtain rfl : nx = pc + 1 := Nat.eq_of_beq_eq_true hok
  have hdg : decode (im_code y) pc = .ok (.caload, 1) := by rw [Nat.add_sub_cancel_left] at hdec; exact hdec
  simp only [im_do] at hdo
  split at hdo
  · rename_i i r0 st1
    obtain ⟨r, hr0⟩ : ∃ r : Nat, r = r0 := ⟨r0, rfl⟩; subst hr0
    split at hdo
    · rename_i k n hs
      split at hdo
      · rename_i hc
        obtain ⟨rfl, hin⟩ := hc
        simp only [im_nx, Option.some.injEq, Sum.inl.injEq, Prod.mk.injEq] at hdo
        obtain ⟨rfl, rfl, rfl, rfl, rfl, rfl⟩ := hdo
        have kk2 := kk ad ca H locs cells slots ls im_ag_rf hHR hl hLn rfl rfl
        obtain ⟨h1, h2⟩ := im_hi hHR.2.2.2 hs (Or.inr (by omega))
        have he := im_wo_get (ad := ad) (ca := ca) (mi := mi) (mr := mr) h1 h2
        rw [im_ce_int hs (by omega) (by omega)] at he
        rcases hHR.2.2.2.2.2.1 r 101 n h1 hs with ⟨e, -⟩ | ⟨-, e1, e2⟩
        · omega
        exact va_cald hx hb (im_K1 hK e1 e2) hHR.1 (r - 29) 0 he rfl hin hdg kk2
      · cases hdo
    · cases hdo
  · cases hdo
theorem im_SP_baload (C : im_Cx p R s m args meth c A D y) : im_SP p l e R s m args below meth c Q A D xs LL y .baload := by
  intro pc nx a b c0 L st sh mi mr pc2 L2 st2 sh2 mi2 mr2 ad ca H locs cells slots ls hdec hle hok hdo hXF hHR hl hLn hcc hss kk
  obtain ⟨hx, hb, hml, hown, hts, hK, hA, hnm, hRf, hRl⟩ := C
  obtain rfl : nx = pc + 1 := Nat.eq_of_beq_eq_true hok
  have hdg : decode (im_code y) pc = .ok (.baload, 1) := by rw [Nat.add_sub_cancel_left] at hdec; exact hdec
  simp only [im_do] at hdo
  split at hdo
  · rename_i i r0 st1
    obtain ⟨r, hr0⟩ : ∃ r : Nat, r = r0 := ⟨r0, rfl⟩; subst hr0
    split at hdo
    · rename_i k n hs
      split at hdo
      · rename_i hc
        obtain ⟨rfl, hin⟩ := hc
        simp only [im_nx, Option.some.injEq, Sum.inl.injEq, Prod.mk.injEq] at hdo
        obtain ⟨rfl, rfl, rfl, rfl, rfl, rfl⟩ := hdo
        have kk2 := kk ad ca H locs cells slots ls im_ag_rf hHR hl hLn rfl rfl
        have hr : r < 29 := by
          rcases Nat.lt_or_ge r 29 with h1 | h1
          · exact h1
          · rcases hHR.2.2.2.2.2.1 r 204 n h1 hs with ⟨e, -⟩ | ⟨e, -⟩ <;> omega
        have hs2 := hs
        rw [hHR.2.2.2.2.1 r hr] at hs2
        have hv := (hHR.2.2.2.2.2.2.2 r i.toNatClampNeg hr).1
        have hr2 : 16 ≤ r ∧ n = im_sln.getD (r - 16) 0 := by
          rcases im_lo hr hs2 with ⟨e, -⟩ | ⟨e, -⟩ | ⟨e, -⟩ | ⟨-, e⟩
          · omega
          · omega
          · omega
          · exact e
        obtain ⟨hr3, rfl⟩ := hr2
        obtain ⟨-, -, -, hT⟩ := hXF.2.2.2.2.2.1.1 (r - 16) (by omega)
        simp only [show 16 + (r - 16) = r by omega] at hT
        refine va_tb hx hb hT hHR.2.2.1 hin rfl hdg ?_
        rw [hv, show im_xi xs r i.toNatClampNeg = (im_byt.getD (r - 16) []).getD i.toNatClampNeg 0 by simp only [im_xi, if_neg (show ¬ r = 0 by omega), if_neg (show ¬ r = 1 by omega), if_pos hr3]] at kk2
        exact kk2
      · cases hdo
    · cases hdo
  · cases hdo
theorem im_SP_aaload (C : im_Cx p R s m args meth c A D y) : im_SP p l e R s m args below meth c Q A D xs LL y .aaload := by
  intro pc nx a b c0 L st sh mi mr pc2 L2 st2 sh2 mi2 mr2 ad ca H locs cells slots ls hdec hle hok hdo hXF hHR hl hLn hcc hss kk
  obtain ⟨hx, hb, hml, hown, hts, hK, hA, hnm, hRf, hRl⟩ := C
  obtain rfl : nx = pc + 1 := Nat.eq_of_beq_eq_true hok
  have hdg : decode (im_code y) pc = .ok (.aaload, 1) := by rw [Nat.add_sub_cancel_left] at hdec; exact hdec
  simp only [im_do] at hdo
  split at hdo
  · rename_i i r0 st1
    obtain ⟨r, hr0⟩ : ∃ r : Nat, r = r0 := ⟨r0, rfl⟩; subst hr0
    split at hdo
    · rename_i k n hs
      split at hdo
      · rename_i hc
        obtain ⟨hk1, hk2, hin⟩ := hc
        simp only [im_nx, Option.some.injEq, Sum.inl.injEq, Prod.mk.injEq] at hdo
        obtain ⟨rfl, rfl, rfl, rfl, rfl, rfl⟩ := hdo
        have kk2 := kk ad ca H locs cells slots ls im_ag_rf hHR hl hLn rfl rfl
        obtain ⟨h1, h2⟩ := im_hi hHR.2.2.2 hs (Or.inr (by omega))
        have he := im_wo_get (ad := ad) (ca := ca) (mi := mi) (mr := mr) h1 h2
        rw [im_ce_ref hs hk1] at he
        rcases hHR.2.2.2.2.2.1 r k n h1 hs with ⟨e, -⟩ | ⟨-, e1, e2⟩
        · omega
        rw [im_aty, if_neg (show ¬ k = 100 by omega), if_neg (show ¬ k = 101 by omega)] at e1 e2
        refine va_aldq hx hb (im_K1 hK e1 e2) hHR.1 (r - 29) 0 he rfl hin hdg ?_
        rw [im_rv_tr]
        exact kk2
      · cases hdo
    · cases hdo
  · cases hdo
theorem im_SP_arraylength (C : im_Cx p R s m args meth c A D y) : im_SP p l e R s m args below meth c Q A D xs LL y .arraylength := by
  intro pc nx a b c0 L st sh mi mr pc2 L2 st2 sh2 mi2 mr2 ad ca H locs cells slots ls hdec hle hok hdo hXF hHR hl hLn hcc hss kk
  obtain ⟨hx, hb, hml, hown, hts, hK, hA, hnm, hRf, hRl⟩ := C
  obtain rfl : nx = pc + 1 := Nat.eq_of_beq_eq_true hok
  have hdg : decode (im_code y) pc = .ok (.arraylength, 1) := by rw [Nat.add_sub_cancel_left] at hdec; exact hdec
  simp only [im_do] at hdo
  split at hdo
  · rename_i r0 st1
    obtain ⟨r, hr0⟩ : ∃ r : Nat, r = r0 := ⟨r0, rfl⟩; subst hr0
    split at hdo
    · rename_i k n hs
      split at hdo
      · rename_i hc
        simp only [im_nx, Option.some.injEq, Sum.inl.injEq, Prod.mk.injEq] at hdo
        obtain ⟨rfl, rfl, rfl, rfl, rfl, rfl⟩ := hdo
        have kk2 := kk ad ca H locs cells slots ls im_ag_rf hHR hl hLn rfl rfl
        by_cases hk : k < 200
        · obtain ⟨h1, h2⟩ := im_hi hHR.2.2.2 hs (Or.inr (by omega))
          have he := im_wo_get (ad := ad) (ca := ca) (mi := mi) (mr := mr) h1 h2
          rw [im_ce_int hs (by omega) (by omega)] at he
          rcases hHR.2.2.2.2.2.1 r k n h1 hs with ⟨e, -⟩ | ⟨-, e1, e2⟩
          · omega
          exact va_alen hx hb (im_K1 hK e1 e2) hHR.1 (r - 29) 0 he rfl rfl hdg kk2
        · have hr : r < 29 := by
            rcases Nat.lt_or_ge r 29 with h1 | h1
            · exact h1
            · rcases hHR.2.2.2.2.2.1 r k n h1 hs with ⟨e, -⟩ | ⟨e, -⟩ <;> omega
          have hs2 := hs
          rw [hHR.2.2.2.2.1 r hr] at hs2
          rcases im_lo hr hs2 with ⟨e, e2⟩ | ⟨e, -⟩ | ⟨e, -⟩ | ⟨e, e2, rfl⟩
          · match r, e2 with
            | 0, _ => cases hs2; exact va_tlen hx hb hXF.1 hHR.2.2.1 rfl hdg kk2
            | 1, _ => cases hs2; exact va_tlen hx hb hXF.2.1 hHR.2.2.1 rfl hdg kk2
            | r + 2, h => exact absurd h (by omega)
          · omega
          · omega
          · obtain ⟨-, -, -, hT⟩ := hXF.2.2.2.2.2.1.1 (r - 16) (by omega)
            simp only [show 16 + (r - 16) = r by omega] at hT
            exact va_tlen hx hb hT hHR.2.2.1 rfl hdg kk2
      · cases hdo
    · cases hdo
  · cases hdo
end SND3
