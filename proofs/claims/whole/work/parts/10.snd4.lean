/-! ===== SOUNDNESS 4: writes, new cells ===== -/
section SND4
variable {p : Program} {l : Launch} {e : Env} {R : Room} {s : State} {m : MethodId} {args : Array Value} {below : List Frame} {meth : Method} {c : Code} {Q : State → Prop} {A : Nat → Prop} {D : va_G} {xs : Nat → Int32} {LL y : Nat}
theorem im_fv_set {ad : Nat → Nat} {mi mi' : im_MI} {mr mr' : im_MR} {t k b n : Nat} {v : Value} (hm : ∀ j, j ≠ b → mi' k j = mi k j ∧ mr' k j = mr k j) (hv : im_fv ad mi' mr' t k b = v) : ((List.range n).map (im_fv ad mi mr t k)).set b v = (List.range n).map (im_fv ad mi' mr' t k) := by
  apply List.ext_getElem?
  intro j
  by_cases hj : b = j
  · subst hj
    by_cases hl : b < n
    · rw [List.getElem?_set_self (by simpa using hl), List.getElem?_map, List.getElem?_range hl, Option.map_some, hv]
    · rw [List.getElem?_eq_none (by simpa using hl), List.getElem?_eq_none (by simpa using hl)]
  · rw [List.getElem?_set_ne hj, List.getElem?_map, List.getElem?_map]
    by_cases hl : j < n
    · rw [List.getElem?_range hl, Option.map_some, Option.map_some]
      unfold im_fv
      rw [(hm j (Ne.symm hj)).1, (hm j (Ne.symm hj)).2]
    · rw [List.getElem?_eq_none (by simpa using hl)]
      rfl
theorem im_putW {pc i a b c0 r : Nat} {v : Value} {sh : im_Sh} {mi mi' : im_MI} {mr mr' : im_MR} {ad : Nat → Nat} {ca : Nat → ClassId} {H : Heap} {locs : List Loc} {cells slots : Nat} {ls : Array Slot} {rest : List Value}
    (C : im_Cx p R s m args meth c A D y) (hdg : decode (im_code y) pc = .ok (.putfield i, 3)) (ha : a < 10) (hlk : im_at c0 (.fieldLink (im_mn y).cls i (im_C a) (im_T a b).2.1 (im_T a b).2.2.1) = true) (hfin : (!(im_T a b).2.2.2 || (decide ((im_mn y).name = "<init>") && decide ((im_mn y).cls = im_C a))) = true)
    (hHR : im_HR D s A xs LL ad ca sh mi mr H locs) (hs : sh[r]? = some (a, im_nf a)) (hb0 : b < im_nf a) (hn : narrow (im_ty a b) v = v) (hf : fits (im_ty a b) v = true) (hm : ∀ q, q ≠ r → mi' q = mi q ∧ mr' q = mr q) (hm2 : ∀ j, j ≠ b → mi' r j = mi r j ∧ mr' r j = mr r j) (hr : ∀ j q, mr' r j = some q → q < sh.length) (hv : im_fv ad mi' mr' a r b = v)
    (kk : ∀ (H2 : Heap) (locs2 : List Loc), im_HR D s A xs LL ad ca sh mi' mr' H2 locs2 → W p l e R s m args below meth c H2 locs2 cells slots Q (F0 m (pc + 3) ls rest)) : W p l e R s m args below meth c H locs cells slots Q (F0 m pc ls (v :: .ref (ad r) :: rest)) := by
  obtain ⟨hx, hb, hml, hown, hts, hK, hA, hnm, hRf, hRl⟩ := C
  obtain ⟨h1, h2⟩ := im_hi hHR.2.2.2 hs (Or.inl (by omega))
  have he := im_wo_get (ad := ad) (ca := ca) (mi := mi) (mr := mr) h1 h2
  rw [im_ce_obj hs (by omega)] at he
  have hfl : b < ((List.range (im_nf a)).map (im_fv ad mi mr a r)).length := by simpa using hb0
  cases hfn : (im_T a b).2.2.2 with
  | false =>
    refine va_put (C := im_C a) (T := im_T a) (N := im_nf a) (ci := a) hx hb hts (im_uw a ha) (im_ty a) (im_tyk a ha) (im_nm a ha) hown hK hHR.1 hHR.2.1 hHR.2.2.1 (r - 29) he (im_cl_get a ha) b hb0 (hts _ (im_at_mem hlk)) (fun x h => by rw [im_decl a ha b hb0] at h; exact h) hfn (im_tyk a ha b hb0) hn hf hfl hdg (fun H1 locs1 hP hD hS => ?_)
    exact kk H1 locs1 (im_HR_wr hHR h1 h2 hm hr (by rw [im_ce_obj hs (by omega), im_fv_set hm2 hv]) hP hD hS)
  | true =>
    rw [hfn] at hfin
    simp only [Bool.not_true, Bool.false_or, Bool.and_eq_true, decide_eq_true_eq] at hfin
    refine va_putF (C := im_C a) (T := im_T a) (N := im_nf a) (ci := a) hx hb hts (im_uw a ha) (im_ty a) (im_tyk a ha) (im_nm a ha) hown hK hHR.1 hHR.2.1 hHR.2.2.1 (r - 29) he (im_cl_get a ha) b hb0 (hts _ (im_at_mem hlk)) (fun x h => by rw [im_decl a ha b hb0] at h; exact h) hfn (hnm hfin.1) (by rw [im_decl a ha b hb0, hfin.2]) (im_tyk a ha b hb0) hn hf hfl hdg (fun H1 locs1 hP hD hS => ?_)
    exact kk H1 locs1 (im_HR_wr hHR h1 h2 hm hr (by rw [im_ce_obj hs (by omega), im_fv_set hm2 hv]) hP hD hS)
theorem im_SP_putfield (C : im_Cx p R s m args meth c A D y) {i : Nat} : im_SP p l e R s m args below meth c Q A D xs LL y (.putfield i) := by
  intro pc nx a b c0 L st sh mi mr pc2 L2 st2 sh2 mi2 mr2 ad ca H locs cells slots ls hdec hle hok hdo hXF hHR hl hLn hcc hss kk
  simp only [im_okR, Bool.and_eq_true] at hok
  obtain ⟨⟨⟨hok1, hok2⟩, hok3⟩, hok4⟩ := hok
  obtain rfl : nx = pc + 3 := Nat.eq_of_beq_eq_true hok1
  have hdg : decode (im_code y) pc = .ok (.putfield i, 3) := by rw [Nat.add_sub_cancel_left] at hdec; exact hdec
  have ha : a < 10 := Nat.blt_eq.mp hok2
  simp only [im_do] at hdo
  split at hdo
  · rename_i v r0 st1
    obtain ⟨r, hr0⟩ : ∃ r : Nat, r = r0 := ⟨r0, rfl⟩
    subst hr0
    split at hdo
    · rename_i k n hs
      split at hdo
      · rename_i hc
        obtain ⟨rfl, hbn, -⟩ := hc
        obtain ⟨h1, h2⟩ := im_hi hHR.2.2.2 hs (Or.inl (by omega))
        have hn : n = im_nf k := by
          rcases hHR.2.2.2.2.2.1 r k n h1 hs with ⟨-, e⟩ | ⟨e, -⟩
          · exact e
          · omega
        subst hn
        have hk := im_ftk k ha b hbn
        have hmr := hHR.2.2.2.2.2.2.1
        split at hdo
        · rename_i x1 hft
          simp only [im_nx, Option.some.injEq, Sum.inl.injEq, Prod.mk.injEq] at hdo
          obtain ⟨rfl, rfl, rfl, rfl, rfl, rfl⟩ := hdo
          have hty : im_ty k b = .int := by
            rcases hk with ⟨-, h⟩ | ⟨h, -⟩ | ⟨h, -⟩
            · exact h
            · rw [hft] at h; cases h
            · rw [hft] at h; cases h
          refine im_putW C hdg ha hok3 hok4 hHR hs hbn (v := .int x1) (by rw [hty]; rfl) (by rw [hty]; rfl) (mi' := im_u mi r b x1) (mr' := mr) (fun q hq => ⟨im_u_ne _ _ _ _ hq, rfl⟩) (fun j hj => ⟨by simp [im_u, hj], rfl⟩) (hmr r) (by simp [im_fv, im_rd, hft, im_u, im_tr, show Nat.beq 0 1 = false from rfl]) (fun H2 locs2 hH => ?_)
          exact kk ad ca H2 locs2 cells slots ls im_ag_rf hH hl hLn rfl rfl
        · rename_i hft
          simp only [im_nx, Option.some.injEq, Sum.inl.injEq, Prod.mk.injEq] at hdo
          obtain ⟨rfl, rfl, rfl, rfl, rfl, rfl⟩ := hdo
          have hty : im_isR (im_ty k b) = true := by
            rcases hk with ⟨h, -⟩ | ⟨h, -⟩ | ⟨-, h⟩
            · rw [hft] at h; cases h
            · rw [hft] at h; cases h
            · exact h
          obtain ⟨f1, f2⟩ := im_fits_ref hty none
          refine im_putW C hdg ha hok3 hok4 hHR hs hbn (v := .null) f1 f2 (mi' := mi) (mr' := im_u mr r b none) (fun q hq => ⟨rfl, im_u_ne _ _ _ _ hq⟩) (fun j hj => ⟨rfl, by simp [im_u, hj]⟩) (fun j q hq => ?_) (by simp [im_fv, im_rd, hft, im_u, im_tr, im_rv, show Nat.beq 1 1 = true from rfl]) (fun H2 locs2 hH => ?_)
          · by_cases hj : j = b
            · subst hj; simp [im_u] at hq
            · simp only [im_u, hj, and_false, if_false] at hq; exact hmr r j q hq
          · exact kk ad ca H2 locs2 cells slots ls im_ag_rf hH hl hLn rfl rfl
        · rename_i q1 hft
          split at hdo
          · rename_i hq1
            simp only [im_nx, Option.some.injEq, Sum.inl.injEq, Prod.mk.injEq] at hdo
            obtain ⟨rfl, rfl, rfl, rfl, rfl, rfl⟩ := hdo
            have hty : im_isR (im_ty k b) = true := by
              rcases hk with ⟨h, -⟩ | ⟨h, -⟩ | ⟨-, h⟩
              · rw [hft] at h; cases h
              · rw [hft] at h; cases h
              · exact h
            obtain ⟨f1, f2⟩ := im_fits_ref hty (some (ad q1))
            refine im_putW C hdg ha hok3 hok4 hHR hs hbn (v := .ref (ad q1)) f1 f2 (mi' := mi) (mr' := im_u mr r b (some q1)) (fun q hq => ⟨rfl, im_u_ne _ _ _ _ hq⟩) (fun j hj => ⟨rfl, by simp [im_u, hj]⟩) (fun j q hq => ?_) (by simp [im_fv, im_rd, hft, im_u, im_tr, im_rv, show Nat.beq 1 1 = true from rfl]) (fun H2 locs2 hH => ?_)
            · by_cases hj : j = b
              · subst hj
                simp only [im_u, and_self, if_true] at hq
                cases hq
                exact hq1
              · simp only [im_u, hj, and_false, if_false] at hq; exact hmr r j q hq
            · exact kk ad ca H2 locs2 cells slots ls im_ag_rf hH hl hLn rfl rfl
          · cases hdo
        · rename_i x1 hft
          split at hdo
          · rename_i hx01
            simp only [im_nx, Option.some.injEq, Sum.inl.injEq, Prod.mk.injEq] at hdo
            obtain ⟨rfl, rfl, rfl, rfl, rfl, rfl⟩ := hdo
            have hty : im_ty k b = .boolean := by
              rcases hk with ⟨h, -⟩ | ⟨-, h⟩ | ⟨h, -⟩
              · rw [hft] at h; cases h
              · exact h
              · rw [hft] at h; cases h
            refine im_putW C hdg ha hok3 hok4 hHR hs hbn (v := .int x1) (by rw [hty]; rcases hx01 with rfl | rfl <;> rfl) (by rw [hty]; rcases hx01 with rfl | rfl <;> rfl) (mi' := im_u mi r b x1) (mr' := mr) (fun q hq => ⟨im_u_ne _ _ _ _ hq, rfl⟩) (fun j hj => ⟨by simp [im_u, hj], rfl⟩) (hmr r) (by simp [im_fv, im_rd, hft, im_u, im_tr, show Nat.beq 2 1 = false from rfl]) (fun H2 locs2 hH => ?_)
            exact kk ad ca H2 locs2 cells slots ls im_ag_rf hH hl hLn rfl rfl
          · cases hdo
        · cases hdo
      · cases hdo
    · cases hdo
  · cases hdo
theorem im_SP_iastore (C : im_Cx p R s m args meth c A D y) : im_SP p l e R s m args below meth c Q A D xs LL y .iastore := by
  intro pc nx a b c0 L st sh mi mr pc2 L2 st2 sh2 mi2 mr2 ad ca H locs cells slots ls hdec hle hok hdo hXF hHR hl hLn hcc hss kk
  obtain ⟨hx, hb, hml, hown, hts, hK, hA, hnm, hRf, hRl⟩ := C
  obtain rfl : nx = pc + 1 := Nat.eq_of_beq_eq_true hok
  have hdg : decode (im_code y) pc = .ok (.iastore, 1) := by rw [Nat.add_sub_cancel_left] at hdec; exact hdec
  simp only [im_do] at hdo
  split at hdo
  · rename_i x1 i r0 st1
    obtain ⟨r, hr0⟩ : ∃ r : Nat, r = r0 := ⟨r0, rfl⟩
    subst hr0
    split at hdo
    · rename_i k n hs
      split at hdo
      · rename_i hc
        obtain ⟨rfl, hin⟩ := hc
        simp only [im_nx, Option.some.injEq, Sum.inl.injEq, Prod.mk.injEq] at hdo
        obtain ⟨rfl, rfl, rfl, rfl, rfl, rfl⟩ := hdo
        obtain ⟨h1, h2⟩ := im_hi hHR.2.2.2 hs (Or.inr (by omega))
        have he := im_wo_get (ad := ad) (ca := ca) (mi := mi) (mr := mr) h1 h2
        rw [im_ce_int hs (by omega) (by omega)] at he
        rcases hHR.2.2.2.2.2.1 r 100 n h1 hs with ⟨e, -⟩ | ⟨-, e1, e2⟩
        · omega
        refine va_iast hx hb (im_K1 hK e1 e2) hHR.1 hHR.2.1 hHR.2.2.1 (r - 29) 0 he rfl hin hdg (fun H1 locs1 hP hD hS => ?_)
        exact kk ad ca H1 locs1 cells slots ls im_ag_rf (im_HR_wr hHR h1 h2 (mi' := im_u mi r i.toNatClampNeg x1) (mr' := mr) (fun q hq => ⟨im_u_ne _ _ _ _ hq, rfl⟩) (hHR.2.2.2.2.2.2.1 r) (by rw [im_ce_int hs (by omega) (by omega), im_u_row]; rfl) hP hD hS) hl hLn rfl rfl
      · cases hdo
    · cases hdo
  · cases hdo
theorem im_SP_castore (C : im_Cx p R s m args meth c A D y) : im_SP p l e R s m args below meth c Q A D xs LL y .castore := by
  intro pc nx a b c0 L st sh mi mr pc2 L2 st2 sh2 mi2 mr2 ad ca H locs cells slots ls hdec hle hok hdo hXF hHR hl hLn hcc hss kk
  obtain ⟨hx, hb, hml, hown, hts, hK, hA, hnm, hRf, hRl⟩ := C
  obtain rfl : nx = pc + 1 := Nat.eq_of_beq_eq_true hok
  have hdg : decode (im_code y) pc = .ok (.castore, 1) := by rw [Nat.add_sub_cancel_left] at hdec; exact hdec
  simp only [im_do] at hdo
  split at hdo
  · rename_i x1 i r0 st1
    obtain ⟨r, hr0⟩ : ∃ r : Nat, r = r0 := ⟨r0, rfl⟩
    subst hr0
    split at hdo
    · rename_i k n hs
      split at hdo
      · rename_i hc
        obtain ⟨rfl, hin⟩ := hc
        simp only [im_nx, Option.some.injEq, Sum.inl.injEq, Prod.mk.injEq] at hdo
        obtain ⟨rfl, rfl, rfl, rfl, rfl, rfl⟩ := hdo
        obtain ⟨h1, h2⟩ := im_hi hHR.2.2.2 hs (Or.inr (by omega))
        have he := im_wo_get (ad := ad) (ca := ca) (mi := mi) (mr := mr) h1 h2
        rw [im_ce_int hs (by omega) (by omega)] at he
        rcases hHR.2.2.2.2.2.1 r 101 n h1 hs with ⟨e, -⟩ | ⟨-, e1, e2⟩
        · omega
        refine va_cast hx hb (im_K1 hK e1 e2) hHR.1 hHR.2.1 hHR.2.2.1 (r - 29) 0 he rfl hin hdg (fun H1 locs1 hP hD hS => ?_)
        exact kk ad ca H1 locs1 cells slots ls im_ag_rf (im_HR_wr hHR h1 h2 (mi' := im_u mi r i.toNatClampNeg (vp_nar .char x1)) (mr' := mr) (fun q hq => ⟨im_u_ne _ _ _ _ hq, rfl⟩) (hHR.2.2.2.2.2.2.1 r) (by rw [im_ce_int hs (by omega) (by omega), im_u_row]; rfl) hP hD hS) hl hLn rfl rfl
      · cases hdo
    · cases hdo
  · cases hdo
theorem im_SP_aastore (C : im_Cx p R s m args meth c A D y) : im_SP p l e R s m args below meth c Q A D xs LL y .aastore := by
  intro pc nx a b c0 L st sh mi mr pc2 L2 st2 sh2 mi2 mr2 ad ca H locs cells slots ls hdec hle hok hdo hXF hHR hl hLn hcc hss kk
  obtain ⟨hx, hb, hml, hown, hts, hK, hA, hnm, hRf, hRl⟩ := C
  obtain rfl : nx = pc + 1 := Nat.eq_of_beq_eq_true hok
  have hdg : decode (im_code y) pc = .ok (.aastore, 1) := by rw [Nat.add_sub_cancel_left] at hdec; exact hdec
  simp only [im_do] at hdo
  split at hdo
  · rename_i q0 i r0 st1
    obtain ⟨r, hr0⟩ : ∃ r : Nat, r = r0 := ⟨r0, rfl⟩
    subst hr0
    obtain ⟨q1, hr0⟩ : ∃ r : Nat, r = q0 := ⟨q0, rfl⟩
    subst hr0
    split at hdo
    · rename_i k n k2 n2 hs hs2
      split at hdo
      · rename_i hc
        obtain ⟨hk1, hk2, hin, rfl⟩ := hc
        simp only [im_nx, Option.some.injEq, Sum.inl.injEq, Prod.mk.injEq] at hdo
        obtain ⟨rfl, rfl, rfl, rfl, rfl, rfl⟩ := hdo
        obtain ⟨h1, h2⟩ := im_hi hHR.2.2.2 hs (Or.inr (by omega))
        obtain ⟨h3, h4⟩ := im_hi hHR.2.2.2 hs2 (Or.inl (by omega))
        have he := im_wo_get (ad := ad) (ca := ca) (mi := mi) (mr := mr) h1 h2
        rw [im_ce_ref hs hk1] at he
        have he2 := im_wo_get (ad := ad) (ca := ca) (mi := mi) (mr := mr) h3 h4
        rw [im_ce_obj hs2 (by omega)] at he2
        rcases hHR.2.2.2.2.2.1 r _ n h1 hs with ⟨e, -⟩ | ⟨-, e1, e2⟩
        · omega
        rw [im_aty, if_neg (show ¬ 110 + k2 = 100 by omega), if_neg (show ¬ 110 + k2 = 101 by omega), Nat.add_sub_cancel_left] at e1 e2
        refine va_astq hx hb (im_K1 hK e1 e2) hHR.1 hHR.2.1 hHR.2.2.1 (r - 29) 0 (q1 - 29) k2 (r := (im_C k2, im_T k2, im_nf k2)) he rfl he2 (im_cl_get k2 (by omega)) hin hdg (fun H1 locs1 hP hD hS => ?_)
        refine kk ad ca H1 locs1 cells slots ls im_ag_rf (im_HR_wr hHR h1 h2 (mi' := mi) (mr' := im_u mr r i.toNatClampNeg (some q1)) (fun q hq => ⟨rfl, im_u_ne _ _ _ _ hq⟩) (fun j q hq => ?_) ?_ hP hD hS) hl hLn rfl rfl
        · by_cases hj : j = i.toNatClampNeg
          · subst hj
            simp only [im_u, and_self, if_true] at hq
            cases hq
            exact h4
          · simp only [im_u, hj, and_false, if_false] at hq; exact hHR.2.2.2.2.2.2.1 r j q hq
        · rw [im_ce_ref hs hk1]
          have e9 : va_up (fun j => (mr r j).map ad) i.toNatClampNeg (some (ad q1)) = fun j => (im_u mr r i.toNatClampNeg (some q1) r j).map ad := by
            funext j
            by_cases hj : j = i.toNatClampNeg
            · simp [va_up, im_u, hj]
            · simp [va_up, im_u, hj]
          rw [e9]
      · cases hdo
    · cases hdo
  · cases hdo
end SND4
