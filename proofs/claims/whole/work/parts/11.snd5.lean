/-! ===== SOUNDNESS 5: new cells, Object's constructor, arraycopy ===== -/
theorem im_up_eq {α : Type} (f : Nat → α) (k : Nat) (v : α) : va_up f k v k = v := by simp [va_up]
theorem im_up_ne {α : Type} (f : Nat → α) (k : Nat) (v : α) {q : Nat} (h : q ≠ k) : va_up f k v q = f q := by simp [va_up, h]
theorem im_sl_push (sh : im_Sh) (x : Nat × Nat) : im_sl (sh ++ [x]) = im_sl sh + x.2 := by simp [im_sl]
theorem im_HR_new {D : va_G} {s : State} {A : Nat → Prop} {xs : Nat → Int32} {LL : Nat} {ad : Nat → Nat} {ca : Nat → ClassId} {sh : im_Sh} {mi : im_MI} {mr : im_MR} {H H1 : Heap} {locs locs1 : List Loc} {q : Nat} {cA : ClassId} {e : va_E} {x : Nat × Nat} (h : im_HR D s A xs LL ad ca sh mi mr H locs)
    (hx : (x.1 < 10 ∧ x.2 = im_nf x.1) ∨ ((x.1 = 100 ∨ x.1 = 101 ∨ (110 ≤ x.1 ∧ x.1 < 120)) ∧ ArrOfT s cA (im_aty x.1) ∧ va_RA s cA (im_aty x.1)))
    (he : e = im_ce (va_up ad sh.length q) (va_up ca sh.length cA) (sh ++ [x]) (im_row mi sh.length fun _ => 0) (im_row mr sh.length fun _ => none) sh.length)
    (hP : va_P D im_cl (im_wo ad ca sh mi mr ++ [(q, e)]) H1) (hD : va_D A (im_wo ad ca sh mi mr ++ [(q, e)])) (hS : va_S A s.heap H1 locs1) :
    im_HR D s A xs LL (va_up ad sh.length q) (va_up ca sh.length cA) (sh ++ [x]) (im_row mi sh.length fun _ => 0) (im_row mr sh.length fun _ => none) H1 locs1 := by
  obtain ⟨-, -, -, s1, s2, s3, s4, s5⟩ := h
  have hw := im_wo_push (ad := ad) (ad2 := va_up ad sh.length q) (ca := ca) (ca2 := va_up ca sh.length cA) (x := x) (mi := mi) (mi2 := im_row mi sh.length fun _ => 0) (mr := mr) (mr2 := im_row mr sh.length fun _ => none) s1
    (fun k hk => im_up_ne _ _ _ (by omega)) (fun k hk => im_up_ne _ _ _ (by omega)) (fun k hk => ⟨im_row_ne _ _ _ (by omega), im_row_ne _ _ _ (by omega)⟩) s4
  rw [im_up_eq, ← he] at hw
  rw [← hw] at hP hD
  refine ⟨hP, hD, hS, by simp; omega, fun k hk => ?_, fun k t n hk hs => ?_, fun k j r hr => ?_, fun k j hk => ?_⟩
  · rw [List.getElem?_append_left (by omega)]; exact s2 k hk
  · by_cases hl : k < sh.length
    · rw [List.getElem?_append_left hl] at hs
      rw [im_up_ne _ _ _ (show k ≠ sh.length by omega)]
      exact s3 k t n hk hs
    · have hk2 : k = sh.length := by
        have := (List.getElem?_eq_some_iff.mp hs).1
        simp at this
        omega
      subst hk2
      rw [List.getElem?_append_right (Nat.le_refl _), Nat.sub_self] at hs
      cases hs
      rw [im_up_eq]
      exact hx
  · by_cases hk : k = sh.length
    · subst hk
      rw [im_row_eq] at hr
      cases hr
    · rw [im_row_ne _ _ _ hk] at hr
      have := s4 k j r hr
      simp
      omega
  · rw [im_row_ne _ _ _ (by omega), im_row_ne _ _ _ (by omega)]
    exact s5 k j hk
theorem im_dfl : ∀ a, a < 10 → ∀ b, b < im_nf a → defaultValue (im_ty a b) = (bif Nat.beq (im_ft a b) 1 then .null else .int 0) := by decide +kernel
section SND5
variable {p : Program} {l : Launch} {e : Env} {R : Room} {s : State} {m : MethodId} {args : Array Value} {below : List Frame} {meth : Method} {c : Code} {Q : State → Prop} {A : Nat → Prop} {D : va_G} {xs : Nat → Int32} {LL y : Nat}
theorem im_SP_new (C : im_Cx p R s m args meth c A D y) {i : Nat} : im_SP p l e R s m args below meth c Q A D xs LL y (.new i) := by
  intro pc nx a b c0 L st sh mi mr pc2 L2 st2 sh2 mi2 mr2 ad ca H locs cells slots ls hdec hle hok hdo hXF hHR hl hLn hcc hss kk
  obtain ⟨hx, hb, hml, hown, hts, hK, hA, hnm, hRf, hRl⟩ := C
  simp only [im_okR, Bool.and_eq_true] at hok
  obtain ⟨hok1, hok2⟩ := hok
  obtain rfl : nx = pc + 3 := Nat.eq_of_beq_eq_true hok1
  have hdg : decode (im_code y) pc = .ok (.new i, 3) := by rw [Nat.add_sub_cancel_left] at hdec; exact hdec
  simp only [im_do] at hdo
  split at hdo
  · rename_i hc
    obtain ⟨ha, hvL, hvs⟩ := hc
    simp only [im_nx, Option.some.injEq, Sum.inl.injEq, Prod.mk.injEq] at hdo
    obtain ⟨rfl, rfl, rfl, rfl, rfl, rfl⟩ := hdo
    have hab : Nat.blt a 10 = true := Nat.blt_eq.mpr ha
    rw [hab] at hok2
    simp only [Bool.not_true, Bool.false_or] at hok2
    obtain ⟨hi1, hi2⟩ := im_inst a ha
    have hlen : (sh ++ [(a, im_nf a)]).length = sh.length + 1 := by simp
    rw [im_sl_push] at hss
    refine va_new (C := im_C a) (T := im_T a) (N := im_nf a) (ci := a) (fs := (List.range (im_nf a)).map fun j => bif Nat.beq (im_ft a j) 1 then .null else .int 0) hx hb hts (im_uw a ha) (im_ty a) (im_tyk a ha) hown (hts _ (im_at_mem hok2)) (hts _ hi1) (hts _ hi2) hK hHR.1 hHR.2.1 hHR.2.2.1 hA (im_cl_get a ha) (fun j hj => ?_) (by omega) (by omega) hdg (fun q H1 hP hD hS => ?_)
    · rw [im_dfl a ha j hj]
      simp [vp_V, List.getD_eq_getElem?_getD, List.getElem?_range hj]
    · have hag : ∀ k, k < sh.length → va_up ad sh.length q k = ad k := fun k hk => im_up_ne _ _ _ (by omega)
      have hHR2 := im_HR_new (q := q) (cA := 0) (x := (a, im_nf a)) hHR (Or.inl ⟨ha, rfl⟩) (e := .inr (a, (List.range (im_nf a)).map fun j => bif Nat.beq (im_ft a j) 1 then .null else .int 0)) (by
        rw [im_ce_obj (t := a) (n := im_nf a) (by rw [List.getElem?_append_right (Nat.le_refl _), Nat.sub_self]; rfl) (by omega)]
        congr 2
        refine List.map_congr_left fun j _ => ?_
        unfold im_fv im_rd
        rw [im_row_eq, im_row_eq]
        cases Nat.beq (im_ft a j) 1 <;> rfl) hP hD hS
      have kk2 := kk (va_up ad sh.length q) (va_up ca sh.length 0) H1 locs (cells + 1) (slots + im_nf a) ls ⟨fun k hk => ⟨hag k hk, im_up_ne _ _ _ (by omega)⟩, fun h => absurd h (by omega)⟩ hHR2 (by rw [im_va_lv hag hvL]; exact hl) hLn (by omega) (by rw [im_sl_push]; omega)
      rw [List.map_cons, im_va_tr hag st hvs] at kk2
      have e1 : im_tr (va_up ad sh.length q) (.ref sh.length) = .ref q := congrArg Value.ref (im_up_eq _ _ _)
      rw [e1] at kk2
      exact kk2
  · cases hdo
theorem im_SP_newarray (C : im_Cx p R s m args meth c A D y) {t : ArrayType} : im_SP p l e R s m args below meth c Q A D xs LL y (.newarray t) := by
  intro pc nx a b c0 L st sh mi mr pc2 L2 st2 sh2 mi2 mr2 ad ca H locs cells slots ls hdec hle hok hdo hXF hHR hl hLn hcc hss kk
  obtain ⟨hx, hb, hml, hown, hts, hK, hA, hnm, hRf, hRl⟩ := C
  obtain rfl : nx = pc + 2 := Nat.eq_of_beq_eq_true hok
  have hdg : decode (im_code y) pc = .ok (.newarray t, 2) := by rw [Nat.add_sub_cancel_left] at hdec; exact hdec
  simp only [im_do] at hdo
  split at hdo
  · rename_i n st1
    split at hdo
    · rename_i hc
      obtain ⟨hn0, hnb, hvL, hvs⟩ := hc
      simp only [im_nx, Option.some.injEq, Sum.inl.injEq, Prod.mk.injEq] at hdo
      obtain ⟨rfl, rfl, rfl, rfl, rfl, rfl⟩ := hdo
      have hlen : (sh ++ [((100 : Nat), n.toNatClampNeg)]).length = sh.length + 1 := by simp
      rw [im_sl_push] at hss
      have hvs' : im_va sh st1 = true := by simpa [im_va] using hvs
      refine va_newa (atype := .int) (ty := .int) (a0 := (n.toNatClampNeg, .inl fun _ => 0)) hx hb (hts _ im_ac_int) rfl hK hHR.1 hHR.2.1 hHR.2.2.1 hA (fun cA => rfl) hn0 rfl (by show n.toNatClampNeg * 4 ≤ _; omega) (by omega) (by show slots + n.toNatClampNeg ≤ _; omega) hdg (fun q cA H1 hK1 hP hD hS => ?_)
      obtain ⟨e1, e2⟩ := hK1.2 0 _ rfl
      have hag : ∀ k, k < sh.length → va_up ad sh.length q k = ad k := fun k hk => im_up_ne _ _ _ (by omega)
      have hHR2 := im_HR_new (q := q) (cA := cA) (x := (100, n.toNatClampNeg)) hHR (Or.inr ⟨Or.inl rfl, e1, e2⟩) (e := .inl (cA, n.toNatClampNeg, .inl fun _ => 0)) (by
        rw [im_ce_int (t := 100) (n := n.toNatClampNeg) (by rw [List.getElem?_append_right (Nat.le_refl _), Nat.sub_self]; rfl) (by omega) (by omega), im_row_eq, im_up_eq]) hP hD hS
      have kk2 := kk (va_up ad sh.length q) (va_up ca sh.length cA) H1 locs (cells + 1) (slots + n.toNatClampNeg) ls ⟨fun k hk => ⟨hag k hk, im_up_ne _ _ _ (by omega)⟩, fun h => absurd h (by omega)⟩ hHR2 (by rw [im_va_lv hag hvL]; exact hl) hLn (by omega) (by rw [im_sl_push]; show _ = slots + (im_sl sh + n.toNatClampNeg); omega)
      rw [List.map_cons, im_va_tr hag st1 hvs'] at kk2
      have e3 : im_tr (va_up ad sh.length q) (.ref sh.length) = .ref q := congrArg Value.ref (im_up_eq _ _ _)
      rw [e3] at kk2
      exact kk2
    · cases hdo
  · rename_i n st1
    split at hdo
    · rename_i hc
      obtain ⟨hn0, hnb, hvL, hvs⟩ := hc
      simp only [im_nx, Option.some.injEq, Sum.inl.injEq, Prod.mk.injEq] at hdo
      obtain ⟨rfl, rfl, rfl, rfl, rfl, rfl⟩ := hdo
      have hlen : (sh ++ [((101 : Nat), n.toNatClampNeg)]).length = sh.length + 1 := by simp
      rw [im_sl_push] at hss
      have hvs' : im_va sh st1 = true := by simpa [im_va] using hvs
      refine va_newa (atype := .char) (ty := .char) (a0 := (n.toNatClampNeg, .inl fun _ => 0)) hx hb (hts _ im_ac_char) rfl hK hHR.1 hHR.2.1 hHR.2.2.1 hA (fun cA => rfl) hn0 rfl (by show n.toNatClampNeg * 2 ≤ _; omega) (by omega) (by show slots + n.toNatClampNeg ≤ _; omega) hdg (fun q cA H1 hK1 hP hD hS => ?_)
      obtain ⟨e1, e2⟩ := hK1.2 0 _ rfl
      have hag : ∀ k, k < sh.length → va_up ad sh.length q k = ad k := fun k hk => im_up_ne _ _ _ (by omega)
      have hHR2 := im_HR_new (q := q) (cA := cA) (x := (101, n.toNatClampNeg)) hHR (Or.inr ⟨Or.inr (Or.inl rfl), e1, e2⟩) (e := .inl (cA, n.toNatClampNeg, .inl fun _ => 0)) (by
        rw [im_ce_int (t := 101) (n := n.toNatClampNeg) (by rw [List.getElem?_append_right (Nat.le_refl _), Nat.sub_self]; rfl) (by omega) (by omega), im_row_eq, im_up_eq]) hP hD hS
      have kk2 := kk (va_up ad sh.length q) (va_up ca sh.length cA) H1 locs (cells + 1) (slots + n.toNatClampNeg) ls ⟨fun k hk => ⟨hag k hk, im_up_ne _ _ _ (by omega)⟩, fun h => absurd h (by omega)⟩ hHR2 (by rw [im_va_lv hag hvL]; exact hl) hLn (by omega) (by rw [im_sl_push]; show _ = slots + (im_sl sh + n.toNatClampNeg); omega)
      rw [List.map_cons, im_va_tr hag st1 hvs'] at kk2
      have e3 : im_tr (va_up ad sh.length q) (.ref sh.length) = .ref q := congrArg Value.ref (im_up_eq _ _ _)
      rw [e3] at kk2
      exact kk2
    · cases hdo
  · cases hdo
theorem im_SP_anewarray (C : im_Cx p R s m args meth c A D y) {i : Nat} : im_SP p l e R s m args below meth c Q A D xs LL y (.anewarray i) := by
  intro pc nx a b c0 L st sh mi mr pc2 L2 st2 sh2 mi2 mr2 ad ca H locs cells slots ls hdec hle hok hdo hXF hHR hl hLn hcc hss kk
  obtain ⟨hx, hb, hml, hown, hts, hK, hA, hnm, hRf, hRl⟩ := C
  simp only [im_okR, Bool.and_eq_true] at hok
  obtain ⟨hok1, hok2⟩ := hok
  obtain rfl : nx = pc + 3 := Nat.eq_of_beq_eq_true hok1
  have hdg : decode (im_code y) pc = .ok (.anewarray i, 3) := by rw [Nat.add_sub_cancel_left] at hdec; exact hdec
  simp only [im_do] at hdo
  split at hdo
  · rename_i n st1
    split at hdo
    · rename_i hc
      obtain ⟨hn0, hnb, ha, hvL, hvs⟩ := hc
      simp only [im_nx, Option.some.injEq, Sum.inl.injEq, Prod.mk.injEq] at hdo
      obtain ⟨rfl, rfl, rfl, rfl, rfl, rfl⟩ := hdo
      have hab : Nat.blt a 10 = true := Nat.blt_eq.mpr ha
      rw [hab] at hok2
      simp only [Bool.not_true, Bool.false_or, Bool.and_eq_true] at hok2
      have hlen : (sh ++ [(110 + a, n.toNatClampNeg)]).length = sh.length + 1 := by simp
      rw [im_sl_push] at hss
      have hvs' : im_va sh st1 = true := by simpa [im_va] using hvs
      refine va_newq hx hb hown (hts _ (im_at_mem hok2.1)) (va_AO.of (hts _ (im_at_mem hok2.2))) hK hHR.1 hHR.2.1 hHR.2.2.1 hA hn0 rfl (by omega) (by omega) (by show slots + n.toNatClampNeg ≤ _; omega) hdg (fun q cA H1 hK1 hP hD hS => ?_)
      obtain ⟨e1, e2⟩ := hK1.2 0 _ rfl
      have hag : ∀ k, k < sh.length → va_up ad sh.length q k = ad k := fun k hk => im_up_ne _ _ _ (by omega)
      have haty : im_aty (110 + a) = .object (im_C a) := by rw [im_aty, if_neg (show ¬ 110 + a = 100 by omega), if_neg (show ¬ 110 + a = 101 by omega), Nat.add_sub_cancel_left]
      have hHR2 := im_HR_new (q := q) (cA := cA) (x := (110 + a, n.toNatClampNeg)) hHR (Or.inr ⟨Or.inr (Or.inr ⟨by omega, by show 110 + a < 120; omega⟩), by rw [haty]; exact e1, by rw [haty]; exact e2⟩) (e := .inl (cA, n.toNatClampNeg, .inr (.inr (.inr (.inr fun _ => none))))) (by
        rw [im_ce_ref (t := 110 + a) (n := n.toNatClampNeg) (by rw [List.getElem?_append_right (Nat.le_refl _), Nat.sub_self]; rfl) (by omega), im_row_eq, im_up_eq]
        rfl) hP hD hS
      have kk2 := kk (va_up ad sh.length q) (va_up ca sh.length cA) H1 locs (cells + 1) (slots + n.toNatClampNeg) ls ⟨fun k hk => ⟨hag k hk, im_up_ne _ _ _ (by omega)⟩, fun h => absurd h (by omega)⟩ hHR2 (by rw [im_va_lv hag hvL]; exact hl) hLn (by omega) (by rw [im_sl_push]; show _ = slots + (im_sl sh + n.toNatClampNeg); omega)
      rw [List.map_cons, im_va_tr hag st1 hvs'] at kk2
      have e3 : im_tr (va_up ad sh.length q) (.ref sh.length) = .ref q := congrArg Value.ref (im_up_eq _ _ _)
      rw [e3] at kk2
      exact kk2
    · cases hdo
  · cases hdo
theorem im_cat_tr (ad : Nat → Nat) (st : List Value) : ((st.map (im_tr ad)).map fun v => v.category).sum = im_cat st := by
  unfold im_cat
  rw [List.map_map]
  congr 1
  exact List.map_congr_left fun v _ => im_tr_cat ad v
/-- Object's constructor, arraycopy: what im_do tells of a call that stays in the step -/
theorem im_SP_oinit (C : im_Cx p R s m args meth c A D y) {i : Nat} : im_SP p l e R s m args below meth c Q A D xs LL y (.invokespecial i) := by
  intro pc nx a b c0 L st sh mi mr pc2 L2 st2 sh2 mi2 mr2 ad ca H locs cells slots ls hdec hle hok hdo hXF hHR hl hLn hcc hss kk
  obtain ⟨hx, hb, hml, hown, hts, hK, hA, hnm, hRf, hRl⟩ := C
  simp only [im_okR, Bool.and_eq_true] at hok
  obtain ⟨hok1, hok2⟩ := hok
  obtain rfl : nx = pc + 3 := Nat.eq_of_beq_eq_true hok1
  have hdg : decode (im_code y) pc = .ok (.invokespecial i, 3) := by rw [Nat.add_sub_cancel_left] at hdec; exact hdec
  simp only [im_do, im_inv] at hdo
  cases h9 : Nat.beq a 900 with
  | true =>
    rw [h9] at hok2 hdo
    simp only [cond_true] at hok2 hdo
    split at hdo
    · rename_i r st1
      split at hdo
      · rename_i hc
        simp only [im_nx, Option.some.injEq, Sum.inl.injEq, Prod.mk.injEq] at hdo
        obtain ⟨rfl, rfl, rfl, rfl, rfl, rfl⟩ := hdo
        refine W.objInit hx hb hown (hts _ (im_at_mem hok2)) (hts _ im_w_oi1) (hts _ im_w_oic) rfl (by rw [hml]; exact hl.1) rfl hdg hRf ?_ ?_
        · have := im_cat_tr ad st1
          show 2 * 0 + _ + 12 ≤ _
          omega
        · exact kk ad ca H locs cells slots ls im_ag_rf hHR hl hLn rfl rfl
      · cases hdo
    · cases hdo
  | false =>
    rw [h9] at hok2 hdo
    simp only [cond_false] at hok2 hdo
    cases h8 : Nat.beq a 901 with
    | true =>
      have ha9 : a = 901 := Nat.eq_of_beq_eq_true h8
      subst ha9
      simp only [show Nat.ble 900 901 = true from rfl, cond_true, h8] at hok2
      cases hok2
    | false =>
      rw [h8] at hdo
      simp only [cond_false] at hdo
      cases h7 : Nat.ble 900 a with
      | true => rw [h7] at hdo; cases hdo
      | false =>
        rw [h7] at hdo
        simp only [cond_false] at hdo
        split at hdo
        · split at hdo
          · simp at hdo
          · split at hdo
            · split at hdo
              · split at hdo <;> simp at hdo
              · cases hdo
            · cases hdo
        · cases hdo
theorem im_SP_vcall (C : im_Cx p R s m args meth c A D y) {i : Nat} : im_SP p l e R s m args below meth c Q A D xs LL y (.invokevirtual i) := by
  intro pc nx a b c0 L st sh mi mr pc2 L2 st2 sh2 mi2 mr2 ad ca H locs cells slots ls hdec hle hok hdo hXF hHR hl hLn hcc hss kk
  simp only [im_okR, Bool.and_eq_true] at hok
  obtain ⟨hok1, hok2⟩ := hok
  simp only [im_do, im_inv] at hdo
  cases h7 : Nat.ble 900 a with
  | true =>
    rw [h7] at hok2
    simp only [cond_true, Bool.not_eq_true', Bool.or_eq_false_iff] at hok2
    rw [hok2.1, hok2.2, h7] at hdo
    cases hdo
  | false =>
    have h9 : Nat.beq a 900 = false := by
      cases h : Nat.beq a 900 with
      | false => rfl
      | true => rw [Nat.eq_of_beq_eq_true h] at h7; cases h7
    have h8 : Nat.beq a 901 = false := by
      cases h : Nat.beq a 901 with
      | false => rfl
      | true => rw [Nat.eq_of_beq_eq_true h] at h7; cases h7
    rw [h9, h8, h7] at hdo
    simp only [cond_false] at hdo
    split at hdo
    · split at hdo
      · simp at hdo
      · split at hdo
        · split at hdo
          · split at hdo <;> simp at hdo
          · cases hdo
        · cases hdo
    · cases hdo
theorem im_SP_scall (C : im_Cx p R s m args meth c A D y) {i : Nat} : im_SP p l e R s m args below meth c Q A D xs LL y (.invokestatic i) := by
  intro pc nx a b c0 L st sh mi mr pc2 L2 st2 sh2 mi2 mr2 ad ca H locs cells slots ls hdec hle hok hdo hXF hHR hl hLn hcc hss kk
  obtain ⟨hx, hb, hml, hown, hts, hK, hA, hnm, hRf, hRl⟩ := C
  simp only [im_okR, Bool.and_eq_true] at hok
  obtain ⟨hok1, hok2⟩ := hok
  obtain rfl : nx = pc + 3 := Nat.eq_of_beq_eq_true hok1
  have hdg : decode (im_code y) pc = .ok (.invokestatic i, 3) := by rw [Nat.add_sub_cancel_left] at hdec; exact hdec
  simp only [im_do, im_inv] at hdo
  cases h8 : Nat.beq a 901 with
  | true =>
    have ha9 : a = 901 := Nat.eq_of_beq_eq_true h8
    subst ha9
    rw [h8] at hok2
    simp only [cond_true] at hok2
    simp only [show Nat.beq 901 900 = false from rfl, show Nat.beq 901 901 = true from rfl, cond_true, cond_false] at hdo
    split at hdo
    · rename_i n dp q0 sp r0 st1
      obtain ⟨r, hr0⟩ : ∃ r : Nat, r = r0 := ⟨r0, rfl⟩
      subst hr0
      obtain ⟨q1, hr0⟩ : ∃ r : Nat, r = q0 := ⟨q0, rfl⟩
      subst hr0
      split at hdo
      · rename_i k n0 k1 n1 hs hs1
        split at hdo
        · rename_i hc
          obtain ⟨rfl, rfl, hsp, hdp, hn, hb0, hb1, hcat⟩ := hc
          simp only [im_nx, Option.some.injEq, Sum.inl.injEq, Prod.mk.injEq] at hdo
          obtain ⟨rfl, rfl, rfl, rfl, rfl, rfl⟩ := hdo
          obtain ⟨h1, h2⟩ := im_hi hHR.2.2.2 hs (Or.inr (by omega))
          obtain ⟨h3, h4⟩ := im_hi hHR.2.2.2 hs1 (Or.inr (by omega))
          have he := im_wo_get (ad := ad) (ca := ca) (mi := mi) (mr := mr) h1 h2
          rw [im_ce_int hs (by omega) (by omega)] at he
          have he1 := im_wo_get (ad := ad) (ca := ca) (mi := mi) (mr := mr) h3 h4
          rw [im_ce_int hs1 (by omega) (by omega)] at he1
          rcases hHR.2.2.2.2.2.1 r 100 n0 h1 hs with ⟨e, -⟩ | ⟨-, e1, e2⟩
          · omega
          rcases hHR.2.2.2.2.2.1 q1 100 n1 h3 hs1 with ⟨e, -⟩ | ⟨-, e3, e4⟩
          · omega
          have hK2 : va_K D im_cl [(ca r, .int), (ca q1, .int)] s := (im_K1 hK e1 e2).app (im_K1 hK e3 e4)
          refine va_copyi (ty := .int) hx hb (by rw [hml]; exact hl.1.symm) hown (hts _ (im_at_mem hok2)) (hts _ im_w_acn) (hts _ im_w_acs) (hts _ im_w_aci) hK2 hHR.1 hHR.2.1 hHR.2.2.1 (r - 29) (q1 - 29) 0 1 he he1 rfl rfl rfl hsp hdp hn hb0 hb1 (fun _ _ => rfl) hRf ?_ hdg (fun H1 locs1 hP hD hS => ?_)
          · have := im_cat_tr ad st1
            have e9 : nativeFrameWords "java/lang/System" "arraycopy" 5 = 7 := by decide +kernel
            rw [e9]
            omega
          · exact kk ad ca H1 locs1 cells slots ls im_ag_rf (im_HR_wr hHR h3 h4 (mi' := im_row mi q1 (va_cpy (mi r) (mi q1) sp.toNatClampNeg dp.toNatClampNeg n.toNatClampNeg)) (mr' := mr) (fun q hq => ⟨im_row_ne _ _ _ hq, rfl⟩) (hHR.2.2.2.2.2.2.1 q1) (by rw [im_ce_int hs1 (by omega) (by omega), im_row_eq]) hP hD hS) hl hLn rfl rfl
        · cases hdo
      · cases hdo
    · cases hdo
  | false =>
    rw [h8] at hok2 hdo
    simp only [cond_false] at hok2 hdo
    cases h7 : Nat.ble 900 a with
    | true =>
      rw [h7] at hok2
      simp only [cond_true, Bool.not_eq_true'] at hok2
      rw [hok2, h7] at hdo
      cases hdo
    | false =>
      have h9 : Nat.beq a 900 = false := by
        cases h : Nat.beq a 900 with
        | false => rfl
        | true => rw [Nat.eq_of_beq_eq_true h] at h7; cases h7
      rw [h9, h7] at hdo
      simp only [cond_false] at hdo
      split at hdo
      · split at hdo
        · simp at hdo
        · split at hdo
          · split at hdo
            · split at hdo <;> simp at hdo
            · cases hdo
          · cases hdo
      · cases hdo
end SND5
