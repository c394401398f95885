/-! ===== SOUNDNESS 9: the induction ===== -/
/-- a method's contract from its walk, where no native row stands under its name -/
theorem im_ofW {l : Launch} {y : MethodName} {ws ws' : List Cond} {rm : Room} {P : Array Value → State → Prop} {Q : Array Value → State → Outcome → State → Prop} {n1 n2 : Nat} {free : Addr → Prop} {cc : ByteArray} {maxL : Nat} {ret : Option FieldType} (hy : plainFor y = true) (hw : ws = Cond.code y cc maxL ret :: ws')
    (h : ∀ p e s m args below meth c s₁, BodyLoose p l y (headSpec ws rm) cc maxL ret e s m args below meth c s₁ → c.maxLocals = maxL → P args s → W p l e (headSpec ws rm).room s m args below meth c s.heap [] 0 0 (MQ below Q args s n1 n2 free) (entryFrame m args maxL)) : Met l y ws rm P Q n1 n2 free :=
  MetFree.of_bodySF (code := cc) (maxLocals := maxL) (ret := ret) hy
    (fun a s m hb hn => by
      obtain ⟨meth, c, q1, q2, q3, q4, q5, q6, -, -⟩ := Cond.code_spec hn (atoms_spec (ws := ws) hb _ (by rw [hw]; exact List.mem_cons_self))
      exact ⟨meth, c, q1, q2, q3, q4, q5, q6⟩)
    (fun p e s m args below meth c s₁ B hml hP _ => by
      obtain ⟨t, q1, o, q2, q3, q4⟩ := h p e s m args below meth c s₁ B hml hP s₁ (by rw [B.state]; rfl) (Stand.of_body B)
      exact ⟨t, o, q1, q2, q3, q4.1, q4.2⟩)
theorem im_call_step {l : Launch} {n : Nat} (hM : im_Met l n) {p : Program} {e : Env} {R : Room} {s : State} {m : MethodId} {args : Array Value} {below : List Frame} {meth : Method} {c : Code} {Q : State → Prop} {A : Nat → Prop} {D : va_G} {xs : Nat → Int32} {LL y d pc nx a b c0 : Nat} {ins : Instr} {L st : List Value} {sh : im_Sh} {mi : im_MI} {mr : im_MR} {q : Nat × List Value × Nat × List Value} {r : Value} {sh2 : im_Sh} {mi2 : im_MI} {mr2 : im_MR} {ad : Nat → Nat} {ca : Nat → ClassId} {H : Heap} {locs : List Loc} {cells slots : Nat} {ls : Array Slot}
    (C : im_Cx p R s m args meth c A D y) (hdec : decode (im_code y) pc = .ok (ins, nx - pc)) (hok : im_okR y pc nx a b c0 ins = true) (hdo : im_do im_na im_rc im_nf im_ft (im_rt y) pc nx a b ins L st sh mi mr = some (.inr (.inr q)))
    (hex : im_exec n d q.1 0 (im_entry q.1 q.2.1) [] sh mi mr = some (r, sh2, mi2, mr2)) (hflat : (im_flat q.2.1).length ≤ im_mx q.1) (hRf : d + 2 ≤ R.frames) (hRl : 64 * (d + 1) + 128 ≤ R.locals) (hXF : im_XF xs LL A ad s s.heap) (hHR : im_HR D s A xs LL ad ca sh mi mr H locs) (hl : lv_has ls (im_mx y) (im_lv ad L))
    (hcc : cells + sh2.length ≤ R.cells + sh.length) (hss : slots + im_sl sh2 ≤ R.slots + im_sl sh)
    (kk : ∀ (ad2 : Nat → Nat) (ca2 : Nat → ClassId) (H1 : Heap) (locs1 : List Loc), im_ag sh sh2 ad ca ad2 ca2 → im_HR D s A xs LL ad2 ca2 sh2 mi2 mr2 H1 locs1 → W p l e R s m args below meth c H1 locs1 (cells + (sh2.length - sh.length)) (slots + (im_sl sh2 - im_sl sh)) Q (F0 m q.2.2.1 ls ((im_ro (im_rt q.1) r ad2).toList ++ q.2.2.2.map (im_tr ad)))) :
    W p l e R s m args below meth c H locs cells slots Q (F0 m pc ls (st.map (im_tr ad))) := by
  obtain ⟨hins, rfl, rfl, h9, hna, hcat, hargs, hrest, hrc⟩ := im_do_call hdo
  obtain ⟨q1, qa, qn, qr⟩ := q
  dsimp only at *
  obtain ⟨hx, hb, hml, hown, hts, hK, hA, hnm, -, -⟩ := id C
  have h900 : q1 < 900 := by
    rcases Nat.lt_or_ge q1 900 with h | h
    · exact h
    · rw [Nat.ble_eq_true_of_le h] at h9; cases h9
  have hbe9 : Nat.beq q1 900 = false := by
    cases h : Nat.beq q1 900 with
    | false => rfl
    | true => have := Nat.eq_of_beq_eq_true h; omega
  have hbe8 : Nat.beq q1 901 = false := by
    cases h : Nat.beq q1 901 with
    | false => rfl
    | true => have := Nat.eq_of_beq_eq_true h; omega
  obtain ⟨tt, htt⟩ := im_ex_grow _ _ _ _ _ _ _ _ _ _ hex
  have hgr : sh.length ≤ sh2.length := by
    have := congrArg List.length htt
    simp at this
    omega
  have hgs : im_sl sh ≤ im_sl sh2 := by
    have : sh2 = sh ++ tt := htt
    rw [this]
    simp [im_sl]
  -- how the stack lies
  have hst : st.map (im_tr ad) = (qa.map (im_tr ad)).reverse ++ qr.map (im_tr ad) := by
    rw [hargs, hrest, List.map_reverse, List.reverse_reverse, ← List.map_append, List.take_append_drop]
  have hqa : qa.length = im_na q1 := by rw [hargs]; simp; omega
  have hW8 : 2 * (F0 m pc ls (st.map (im_tr ad))).monitorRoom + ((qr.map (im_tr ad)).map fun v => v.category).sum ≤ 8 := lv_room (by rw [im_cat_tr]; exact hcat)
  have hwarm : ∀ w ∈ (Jvm.Cond.code (im_mn q1) (im_code q1) (im_mx q1) (im_rt q1) :: im_ws), q1 < im_nM → ∀ (a' : Array Value) (U : State), s.WarmedH U.vm → w.before a' U = true := by
    intro w hw hq
    have hk := im_km hq
    unfold im_okM at hk
    simp only [Bool.and_eq_true] at hk
    rcases List.mem_cons.mp hw with rfl | hw
    · exact im_warm hts _ (im_at_mem hk.1.1.1.1.1)
    · exact im_warm hts w hw
  have hfin : ∀ {free : Addr → Prop} {aa : Array Value}, qn - pc = 3 → pc + 3 = qn → free = va_A (im_wo ad ca sh mi mr) H.size → va_Run p l e R s m args below meth c H locs cells slots (sh2.length - sh.length) (im_sl sh2 - im_sl sh) (F0 m pc ls (st.map (im_tr ad))) (qr.map (im_tr ad)) (im_QB D xs LL ad ca sh mi mr H.size (im_rt q1) r sh2 mi2 mr2 aa) free → W p l e R s m args below meth c H locs cells slots Q (F0 m pc ls (st.map (im_tr ad))) := by
    intro free aa _ h3 hfr hrun
    refine im_callW hrun hHR.2.2.1 (im_free hHR hA) (fun q hq => im_free hHR hA q (by rw [← hfr]; exact hq)) (fun ad2 ca2 H1 locs1 hag hH => ?_)
    rw [h3]
    exact kk ad2 ca2 H1 locs1 hag hH
  have hP0 := im_start (as := qa.map (im_tr ad)) hHR hA hK hXF
  have hroom : cells + (sh2.length - sh.length) ≤ R.cells ∧ slots + (im_sl sh2 - im_sl sh) ≤ R.slots := ⟨by omega, by omega⟩
  rcases hins with ⟨i, rfl⟩ | ⟨i, rfl⟩ | ⟨i, rfl⟩
  · -- invokevirtual
    simp only [im_okR, h9, cond_false, Bool.and_eq_true, Bool.not_eq_true', decide_eq_false_iff_not] at hok
    obtain ⟨hok1, ⟨⟨hokM, hokr⟩, hokn⟩, hlk⟩ := hok
    have hn3 : qn = pc + 3 := Nat.eq_of_beq_eq_true hok1
    have hdg : decode (im_code y) pc = .ok (.invokevirtual i, 3) := by rw [hn3, Nat.add_sub_cancel_left] at hdec; exact hdec
    have hq : q1 < im_nM := Nat.blt_eq.mp hokM
    have hk := im_km hq
    unfold im_okM at hk
    simp only [Bool.and_eq_true, decide_eq_true_eq] at hk
    obtain ⟨⟨⟨⟨⟨hk1, hk2⟩, hk3⟩, hk4⟩, hk5⟩, hk6⟩ := hk
    have hrc0 : Nat.beq (im_rc q1) 0 = false := by
      cases h : Nat.beq (im_rc q1) 0 with
      | false => rfl
      | true =>
        have h1 := Nat.eq_of_beq_eq_true h
        rw [h1] at hokr
        cases hokr
    rw [hrc0] at hk6
    simp only [cond_false, hokn, decide_false, Bool.and_eq_true, decide_eq_true_eq, Bool.or_eq_true] at hk6
    obtain ⟨⟨hw1, hw4⟩, ⟨hw2, hw3⟩, hw5⟩ := hk6
    rcases hrc with h0 | ⟨r1, as, k2, n2, hqa2, hs, hrk⟩
    · rw [h0] at hokr; cases hokr
    have hsel : (Jvm.Cond.selects (im_mn q1).cls (im_mn q1) (im_mn q1)).before args s = true := hts _ (List.mem_filter.mpr ⟨List.mem_of_getElem? hw2, hw3⟩)
    have hrecv : ∃ cellB : Cell, H[ad r1]? = some cellB ∧ cellB.vm.isStatics = false ∧ s.vm.findClass (im_mn q1).cls = some cellB.cls := by
      rcases hw5 with ⟨ha, hb2⟩ | ⟨ha, hb2⟩
      · have hk10 : k2 < 10 := by have := Nat.le_of_ble_eq_true ha; omega
        obtain ⟨g1, g2⟩ := im_hi hHR.2.2.2 hs (Or.inl (by omega))
        have he := im_wo_get (ad := ad) (ca := ca) (mi := mi) (mr := mr) g1 g2
        rw [im_ce_obj hs (by omega)] at he
        have := va_recv hK hHR.1 (im_cl_get k2 hk10) he
        rw [show im_rc q1 - 1 = k2 by omega] at hb2
        rw [← hb2]
        exact this
      · have hk20 : k2 = 20 := by have := Nat.eq_of_beq_eq_true ha; omega
        subst hk20
        have hr29 : r1 < 29 := by
          rcases Nat.lt_or_ge r1 29 with h1 | h1
          · exact h1
          · rcases hHR.2.2.2.2.2.1 r1 20 n2 h1 hs with ⟨e, -⟩ | ⟨e, -⟩ <;> omega
        have hs2 := hs
        rw [hHR.2.2.2.2.1 r1 hr29] at hs2
        rcases im_lo hr29 hs2 with ⟨e, -⟩ | ⟨e, -⟩ | ⟨-, -, e1, e2⟩ | ⟨e, -⟩
        · omega
        · omega
        · have := vk_recv (i := r1 - 3) hXF.2.2.2.2.2.1 (by omega) hHR.2.2.1
          have e9 : 3 + (r1 - 3) = r1 := by omega
          rw [e9] at this
          rw [hb2]
          exact this
        · omega
    have hlen : ∀ sig, parseMethodDescriptor (im_mn q1).desc = some sig → (as.map (im_tr ad)).length = sig.parameters.length := by
      intro sig hsig
      rw [hsig] at hw4
      have h1 : sig.parameters.length + 1 = im_na q1 := Option.some.inj hw4
      rw [hqa2] at hqa
      simp at hqa ⊢
      omega
    have hstk : st.map (im_tr ad) = (as.map (im_tr ad)).reverse ++ Value.ref (ad r1) :: qr.map (im_tr ad) := by
      rw [hst, hqa2]
      simp [im_tr]
    have hMet := hM D xs LL d q1 hq qa sh mi mr r sh2 mi2 mr2 ad ca H.size hex hflat
    have hpv : PreV s H (im_mn q1).cls (ad r1) (va_Pc (qa.map (im_tr ad)) (im_PB D xs LL ad ca sh mi mr H.size)) (as.map (im_tr ad)) := by
      refine ⟨im_PB.blind, hrecv, fun U hU hW => ?_⟩
      have := hP0 U hU hW
      rw [hqa2] at this ⊢
      exact this
    cases h0 : Nat.beq b 0 with
    | true =>
      rw [h0] at hlk
      simp only [cond_true] at hlk
      refine hfin (by omega) hn3.symm rfl (va_runV (C := (im_mn q1).cls) (nL := im_mx y) ⟨hx, hb, hml, hown, hts⟩ hMet ⟨⟨rfl, rfl, by show d + 1 + 1 ≤ R.frames; omega, by show 8 + (im_mx q1 + 11) + (64 * d + 128) ≤ R.locals; omega, fun w hw => hwarm w hw hq, List.mem_cons_self, hts _ (im_at_mem hk1), hts _ (im_at_mem hk2), hk4, hlen, hts _ (im_at_mem hlk)⟩, hts _ (im_at_mem hw1), hsel⟩ hpv rfl rfl hl.1 hstk hW8 hdg hroom)
    | false =>
      rw [h0] at hlk
      simp only [cond_false] at hlk
      refine hfin (by omega) hn3.symm rfl (va_runVN (C := (im_mn q1).cls) (host := "AloneTogether") (nL := im_mx y) ⟨hx, hb, hml, hown, hts⟩ hMet ⟨⟨⟨rfl, rfl, by show d + 1 + 1 ≤ R.frames; omega, by show 8 + (im_mx q1 + 11) + (64 * d + 128) ≤ R.locals; omega, fun w hw => hwarm w hw hq, List.mem_cons_self⟩, hts _ (im_at_mem hk1), hts _ (im_at_mem hk2), hk4, hlen, hts _ (im_at_mem hlk)⟩, hts _ (im_at_mem hw1), hsel⟩ hpv rfl rfl hl.1 hstk hW8 hdg hroom)
  · -- invokespecial: constructors
    simp only [im_okR, hbe9, h9, cond_false, Bool.and_eq_true, decide_eq_true_eq] at hok
    obtain ⟨hok1, ⟨⟨hokM, hokr⟩, hokn⟩, hlk⟩ := hok
    have hn3 : qn = pc + 3 := Nat.eq_of_beq_eq_true hok1
    have hdg : decode (im_code y) pc = .ok (.invokespecial i, 3) := by rw [hn3, Nat.add_sub_cancel_left] at hdec; exact hdec
    have hq : q1 < im_nM := Nat.blt_eq.mp hokM
    have hk := im_km hq
    unfold im_okM at hk
    simp only [Bool.and_eq_true, decide_eq_true_eq] at hk
    obtain ⟨⟨⟨⟨⟨hk1, hk2⟩, hk3⟩, hk4⟩, hk5⟩, hk6⟩ := hk
    have hrc0 : Nat.beq (im_rc q1) 0 = false := by
      cases h : Nat.beq (im_rc q1) 0 with
      | false => rfl
      | true =>
        have h1 := Nat.eq_of_beq_eq_true h
        rw [h1] at hokr
        cases hokr
    rw [hrc0] at hk6
    simp only [cond_false, cond_true, hokn, decide_true, Bool.and_eq_true, decide_eq_true_eq] at hk6
    obtain ⟨⟨hw1, hw4⟩, hw5⟩ := hk6
    rcases hrc with h0 | ⟨r1, as, k2, n2, hqa2, hs, hrk⟩
    · rw [h0] at hokr; cases hokr
    have hlen : ∀ sig, parseMethodDescriptor (im_mn q1).desc = some sig → (as.map (im_tr ad)).length = sig.parameters.length := by
      intro sig hsig
      rw [hsig] at hw4
      have h1 : sig.parameters.length + 1 = im_na q1 := Option.some.inj hw4
      rw [hqa2] at hqa
      simp at hqa ⊢
      omega
    have hstk : st.map (im_tr ad) = (as.map (im_tr ad)).reverse ++ Value.ref (ad r1) :: qr.map (im_tr ad) := by
      rw [hst, hqa2]
      simp [im_tr]
    have hMet := hM D xs LL d q1 hq qa sh mi mr r sh2 mi2 mr2 ad ca H.size hex hflat
    have hpv : PreS s H (va_Pc (qa.map (im_tr ad)) (im_PB D xs LL ad ca sh mi mr H.size)) (Value.ref (ad r1) :: as.map (im_tr ad)) := by
      refine ⟨im_PB.blind, fun U hU hW => ?_⟩
      have := hP0 U hU hW
      rw [hqa2] at this ⊢
      exact this
    have hk1' : (Jvm.Cond.code (im_mn q1) (im_code q1) (im_mx q1) none).before args s = true := by
      have := hts _ (im_at_mem hk1)
      rwa [hw5] at this
    have hmem : Jvm.Cond.code (im_mn q1) (im_code q1) (im_mx q1) none ∈ (Jvm.Cond.code (im_mn q1) (im_code q1) (im_mx q1) (im_rt q1) :: im_ws) := by rw [hw5]; exact List.mem_cons_self
    cases h0 : Nat.beq b 2 with
    | true =>
      rw [h0] at hlk
      simp only [cond_true] at hlk
      refine hfin (by omega) hn3.symm rfl (va_runI (nL := im_mx y) ⟨hx, hb, hml, hown, hts⟩ hMet ⟨⟨rfl, rfl, by show d + 1 + 1 ≤ R.frames; omega, by show 8 + (im_mx q1 + 11) + (64 * d + 128) ≤ R.locals; omega, fun w hw => hwarm w hw hq, hmem, hk1', hts _ (im_at_mem hk2), hk4, hlen, hts _ (im_at_mem hlk)⟩, hokn, hts _ (im_at_mem hw1)⟩ hpv rfl rfl hl.1 hstk hW8 hdg hroom)
    | false =>
      rw [h0] at hlk
      simp only [cond_false] at hlk
      refine hfin (by omega) hn3.symm rfl (va_runIN (host := "AloneTogether") (nL := im_mx y) ⟨hx, hb, hml, hown, hts⟩ hMet ⟨⟨⟨rfl, rfl, by show d + 1 + 1 ≤ R.frames; omega, by show 8 + (im_mx q1 + 11) + (64 * d + 128) ≤ R.locals; omega, fun w hw => hwarm w hw hq, hmem⟩, hk1', hts _ (im_at_mem hk2), hk4, hlen, hts _ (im_at_mem hlk)⟩, hokn, hts _ (im_at_mem hw1)⟩ hpv rfl rfl hl.1 hstk hW8 hdg hroom)
  · -- invokestatic
    simp only [im_okR, hbe8, h9, cond_false, Bool.and_eq_true] at hok
    obtain ⟨hok1, ⟨hokM, hokr⟩, hlk⟩ := hok
    have hn3 : qn = pc + 3 := Nat.eq_of_beq_eq_true hok1
    have hdg : decode (im_code y) pc = .ok (.invokestatic i, 3) := by rw [hn3, Nat.add_sub_cancel_left] at hdec; exact hdec
    have hq : q1 < im_nM := Nat.blt_eq.mp hokM
    have hk := im_km hq
    unfold im_okM at hk
    simp only [Bool.and_eq_true, decide_eq_true_eq] at hk
    obtain ⟨⟨⟨⟨⟨hk1, hk2⟩, hk3⟩, hk4⟩, hk5⟩, hk6⟩ := hk
    rw [hokr] at hk6
    simp only [cond_true, Bool.and_eq_true, decide_eq_true_eq] at hk6
    obtain ⟨hw1, hw4⟩ := hk6
    have hlen : ∀ sig, parseMethodDescriptor (im_mn q1).desc = some sig → (qa.map (im_tr ad)).length = sig.parameters.length := by
      intro sig hsig
      rw [hsig] at hw4
      have h1 : sig.parameters.length = im_na q1 := Option.some.inj hw4
      simp
      omega
    have hMet := hM D xs LL d q1 hq qa sh mi mr r sh2 mi2 mr2 ad ca H.size hex hflat
    have hpv : PreS s H (va_Pc (qa.map (im_tr ad)) (im_PB D xs LL ad ca sh mi mr H.size)) (qa.map (im_tr ad)) := ⟨im_PB.blind, hP0⟩
    cases h0 : Nat.beq b 1 with
    | true =>
      rw [h0] at hlk
      simp only [cond_true] at hlk
      refine hfin (by omega) hn3.symm rfl (va_runS (nL := im_mx y) ⟨hx, hb, hml, hown, hts⟩ hMet ⟨⟨rfl, rfl, by show d + 1 + 1 ≤ R.frames; omega, by show 8 + (im_mx q1 + 11) + (64 * d + 128) ≤ R.locals; omega, fun w hw => hwarm w hw hq, List.mem_cons_self, hts _ (im_at_mem hk1), hts _ (im_at_mem hk2), hk4, hlen, hts _ (im_at_mem hlk)⟩, hts _ (im_at_mem hw1)⟩ hpv rfl rfl hl.1 hst hW8 hdg hroom)
    | false =>
      rw [h0] at hlk
      simp only [cond_false] at hlk
      refine hfin (by omega) hn3.symm rfl (va_runSN (host := "AloneTogether") (nL := im_mx y) ⟨hx, hb, hml, hown, hts⟩ hMet ⟨⟨⟨rfl, rfl, by show d + 1 + 1 ≤ R.frames; omega, by show 8 + (im_mx q1 + 11) + (64 * d + 128) ≤ R.locals; omega, fun w hw => hwarm w hw hq, List.mem_cons_self⟩, hts _ (im_at_mem hk1), hts _ (im_at_mem hk2), hk4, hlen, hts _ (im_at_mem hlk)⟩, hts _ (im_at_mem hw1), trivial⟩ hpv rfl rfl hl.1 hst hW8 hdg hroom)
theorem im_main (l : Launch) : ∀ n, im_Met l n ∧ im_WS l n
  | 0 => ⟨fun D xs LL d y hy as sh mi mr r sh2 mi2 mr2 ad ca sz h => (by cases h), fun d y pc L st sh mi mr r sh2 mi2 mr2 p e R s m args below meth c Q A D xs LL ad ca H locs cells slots ls hy h => (by cases h)⟩
  | n + 1 => by
    obtain ⟨ihM, ihW⟩ := im_main l n
    have hWS : im_WS l (n + 1) := by
      intro d y pc L st sh mi mr r sh2 mi2 mr2 p e R s m args below meth c Q A D xs LL ad ca H locs cells slots ls hy hex C hRf hRl hXF hHR hl hLn hcc hss hret
      simp only [im_exec] at hex
      have h29 : 29 ≤ sh.length := hHR.2.2.2.1
      split at hex
      · cases hex
      · -- an instruction
        rename_i q hq
        obtain ⟨pc1, L1, st1, sh1, mi1, mr1⟩ := q
        dsimp only at hex
        unfold im_step at hq
        split at hq
        · cases hq
        rename_i en hen
        obtain ⟨hdec, hle, hok⟩ := im_ins_ok hy hen
        obtain ⟨t0, h0⟩ := im_do_grow hq
        obtain ⟨t1, h1⟩ := im_ex_grow _ _ _ _ _ _ _ _ _ _ hex
        dsimp only at h0 h1
        have g0 : sh.length ≤ sh1.length := by rw [h0]; simp
        have g1 : sh1.length ≤ sh2.length := by rw [h1]; simp
        have s0 : im_sl sh ≤ im_sl sh1 := by rw [h0]; simp [im_sl]
        have s1 : im_sl sh1 ≤ im_sl sh2 := by rw [h1]; simp [im_sl]
        by_cases hn : im_n32 en.2.1 en.2.2.1
        · refine im_SPall C en.2.1 hn pc en.1 en.2.2.2.1 en.2.2.2.2 L st sh mi mr pc1 L1 st1 sh1 mi1 mr1 ad ca H locs cells slots ls hdec hle hok hq hXF hHR hl hLn (by omega) (by omega) (fun ad2 ca2 H2 locs2 cells2 slots2 ls2 hag hH hl2 hLn2 hc2 hs2 => ?_)
          refine ihW d y pc1 L1 st1 sh1 mi1 mr1 r sh2 mi2 mr2 p e R s m args below meth c Q A D xs LL ad2 ca2 H2 locs2 cells2 slots2 ls2 hy hex C hRf hRl (hXF.congr fun k hk => (hag.1 k (by omega)).1) hH hl2 hLn2 (by omega) (by omega) (fun ad3 ca3 H3 locs3 cells3 slots3 ls3 pc3 ins st3 hd3 hr3 hag3 hH3 hc3 hs3 => ?_)
          exact hret ad3 ca3 H3 locs3 cells3 slots3 ls3 pc3 ins st3 hd3 hr3 (hag.trans hag3 g0 g1) hH3 (by omega) (by omega)
        · -- the formatter: it may be null
          obtain ⟨rfl, rfl, e1, ⟨i, e2⟩, e3⟩ := im_ins_32 hy hen hn
          obtain ⟨nx, ins, a, b, c0⟩ := en
          dsimp only at e1 e2 e3 hdec hle hok hq
          subst e1 e2 e3
          obtain ⟨hx, hb, hml, hown, hts, -⟩ := id C
          simp only [im_do, im_nx, Option.some.injEq, Sum.inl.injEq, Prod.mk.injEq] at hq
          obtain ⟨rfl, rfl, rfl, rfl, rfl, rfl⟩ := hq
          simp only [im_okR, Bool.and_eq_true, show Nat.beq 32 30 = false from rfl, show Nat.beq 32 31 = false from rfl, show Nat.beq 32 32 = true from rfl, cond_true, cond_false] at hok
          have hdg : decode (im_code 214) 2 = .ok (.getstatic i, 3) := hdec
          rcases hXF.2.2.2.2.1 with hZ | hZ
          · refine va_gets hx hb hZ hHR.2.2.1 hown (hts _ (im_at_mem hok.2)) (fun _ h => h) hdg ?_
            exact ihW d 214 5 L (.null :: st) sh mi mr r sh2 mi2 mr2 p e R s m args below meth c Q A D xs LL ad ca H locs cells slots ls hy (by rw [← nl_214]; exact hex) C hRf hRl hXF hHR hl hLn hcc hss hret
          · refine va_gets hx hb hZ hHR.2.2.1 hown (hts _ (im_at_mem hok.2)) (fun _ h => h) hdg ?_
            exact ihW d 214 5 L (.ref 2 :: st) sh mi mr r sh2 mi2 mr2 p e R s m args below meth c Q A D xs LL ad ca H locs cells slots ls hy hex C hRf hRl hXF hHR hl hLn hcc hss hret
      · -- the end
        rename_i v hq
        cases hex
        unfold im_step at hq
        split at hq
        · cases hq
        rename_i en hen
        obtain ⟨hdec, hle, hok⟩ := im_ins_ok hy hen
        obtain ⟨hnx, hrt⟩ := im_do_ret hok hq
        rw [hnx, Nat.add_sub_cancel_left] at hdec
        exact hret ad ca H locs cells slots ls pc en.2.1 st hdec hrt im_ag_rf hHR rfl rfl
      · -- a call
        rename_i q hq
        split at hex
        · cases hex
        rename_i d1
        split at hex
        · rename_i hflat
          split at hex
          · cases hex
          rename_i r1 hr1
          obtain ⟨v1, sh1, mi1, mr1⟩ := r1
          dsimp only at hex
          split at hex
          · rename_i hva
            unfold im_step at hq
            split at hq
            · cases hq
            rename_i en hen
            obtain ⟨hdec, hle, hok⟩ := im_ins_ok hy hen
            obtain ⟨t0, h0⟩ := im_ex_grow _ _ _ _ _ _ _ _ _ _ hr1
            obtain ⟨t1, h1⟩ := im_ex_grow _ _ _ _ _ _ _ _ _ _ hex
            dsimp only at h0 h1
            have g0 : sh.length ≤ sh1.length := by rw [h0]; simp
            have g1 : sh1.length ≤ sh2.length := by rw [h1]; simp
            have s0 : im_sl sh ≤ im_sl sh1 := by rw [h0]; simp [im_sl]
            have s1 : im_sl sh1 ≤ im_sl sh2 := by rw [h1]; simp [im_sl]
            refine im_call_step ihM C hdec hok hq hr1 hflat (by omega) hRl hXF hHR hl (by omega) (by omega) (fun ad2 ca2 H1 locs1 hag hH => ?_)
            have hag1 : ∀ k, k < sh.length → ad2 k = ad k := fun k hk => (hag.1 k hk).1
            have hst2 : q.2.2.2.map (im_tr ad) = q.2.2.2.map (im_tr ad2) := by
              rcases hva with h | ⟨-, h⟩
              · rw [(hag.2 h).1]
              · exact (im_va_tr hag1 _ h).symm
            have hl2 : lv_has ls (im_mx y) (im_lv ad2 L) := by
              rcases hva with h | ⟨h, -⟩
              · rw [(hag.2 h).1]; exact hl
              · rw [im_va_lv hag1 h]; exact hl
            rw [hst2, im_ro_tr]
            refine ihW (d1 + 1) y q.2.2.1 L _ sh1 mi1 mr1 r sh2 mi2 mr2 p e R s m args below meth c Q A D xs LL ad2 ca2 H1 locs1 _ _ ls hy hex C hRf hRl (hXF.congr fun k hk => hag1 k (by omega)) hH hl2 hLn (by omega) (by omega) (fun ad3 ca3 H3 locs3 cells3 slots3 ls3 pc3 ins st3 hd3 hr3 hag3 hH3 hc3 hs3 => ?_)
            exact hret ad3 ca3 H3 locs3 cells3 slots3 ls3 pc3 ins st3 hd3 hr3 (hag.trans hag3 g0 g1) hH3 (by omega) (by omega)
          · cases hex
        · cases hex
    refine ⟨?_, hWS⟩
    intro D xs LL d y hy as sh mi mr r sh2 mi2 mr2 ad ca sz hex hflat
    have hk := im_km hy
    unfold im_okM at hk
    simp only [Bool.and_eq_true, decide_eq_true_eq] at hk
    obtain ⟨⟨⟨⟨⟨hk1, hk2⟩, hk3⟩, hk4⟩, hk5⟩, hk6⟩ := hk
    refine im_ofW (cc := im_code y) (maxL := im_mx y) (ret := im_rt y) hk3 rfl ?_
    intro p e s m args below meth c s₁ B hml hv
    obtain ⟨rfl, hsz, hP, hK, hD0, hSO, hXF⟩ := hv
    have hx := B.exec
    have hb := B.bytes
    have hr := B.returns
    have hts := atoms_spec (ws := Jvm.Cond.code (im_mn y) (im_code y) (im_mx y) (im_rt y) :: im_ws) B.pre
    have hown : s.vm.findClass (im_mn y).cls = some m.cls := findClass_of_methodNamed B.named
    have hlocks := B.notSynchronized
    have hin : meth.name = (im_mn y).name := (name_of_methodNamed B.named B.method).1
    subst hsz
    have hD := hD0.self (sz := s.heap.size)
    rw [lg_entry_eq]
    have hA : ∀ q : Nat, s.heap.size ≤ q → va_A (im_wo ad ca sh mi mr) s.heap.size q := fun q h => Or.inr h
    obtain ⟨t1, h1⟩ := im_ex_grow _ _ _ _ _ _ _ _ _ _ hex
    dsimp only at h1
    have g1 : sh.length ≤ sh2.length := by rw [h1]; simp
    have s1 : im_sl sh ≤ im_sl sh2 := by rw [h1]; simp [im_sl]
    have hl := im_entry_has ad hflat
    have hyl : y < 222 := by
      have : im_nM ≤ 222 := by decide
      omega
    refine hWS d y 0 (im_entry y as) [] sh mi mr r sh2 mi2 mr2 p e _ s m _ below meth c _ (va_A (im_wo ad ca sh mi mr) s.heap.size) D xs LL ad ca s.heap [] 0 0 _ hyl hex
      ⟨hx, hb, hml, hown, fun w hw => hts w (List.mem_cons_of_mem _ hw), hK, hA, fun h => hin.trans h, by show 1 ≤ d + 1; omega, by show 128 ≤ 64 * d + 128; omega⟩ (Nat.le_refl _) (Nat.le_refl _) hXF ⟨hP, hD, va_S.rf, hSO⟩ hl (im_entry_len hflat) (by show 0 + sh2.length ≤ (sh2.length - sh.length) + sh.length; omega) (by show 0 + im_sl sh2 ≤ (im_sl sh2 - im_sl sh) + im_sl sh; omega) ?_
    intro ad2 ca2 H2 locs2 cells2 slots2 ls2 pc2 ins st2 hd2 hr2 hag hH hc2 hs2
    refine W.widen (k := sh2.length - sh.length) (n := im_sl sh2 - im_sl sh) (by omega) (by omega) ?_
    exact im_end hx hb hr hlocks hd2 hr2 (fun t ht hW => ⟨⟨ad2, ca2, rfl, hag, by rw [ht]; exact hH.1, hH.2.1, hH.2.2.2.moved hW.alike⟩, hH.2.2.1.F ht⟩) hH.2.2.1.2.2
