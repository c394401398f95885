/-! ===== SOUNDNESS 8: worlds that move, the call, the induction ===== -/
theorem im_SO.moved {u U : State} {xs : Nat → Int32} {LL : Nat} {ca : Nat → ClassId} {sh : im_Sh} {mi : im_MI} {mr : im_MR} (hvm : u.vm.Alike U.vm) (h : im_SO u xs LL ca sh mi mr) : im_SO U xs LL ca sh mi mr := by
  obtain ⟨h1, h2, h3, h4, h5⟩ := h
  refine ⟨h1, h2, fun k t n hk hs => ?_, h4, h5⟩
  rcases h3 k t n hk hs with a | ⟨a, b, c⟩
  · exact Or.inl a
  · exact Or.inr ⟨a, arrOfT_moved hvm b, c.moved hvm⟩
theorem im_XF.kept {xs : Nat → Int32} {LL : Nat} {A : Nat → Prop} {ad : Nat → Nat} {U : State} {H H1 : Heap} (h : im_XF xs LL A ad U H) (hq : ∀ a : Nat, a < H.size → ¬ A a → H1[a]? = H[a]?) : im_XF xs LL A ad U H1 :=
  ⟨h.1.kept hq, h.2.1.kept hq, h.2.2.1.kept hq, h.2.2.2.1.kept hq, h.2.2.2.2.1.imp (fun z => z.kept hq) (fun z => z.kept hq), h.2.2.2.2.2.1.kept hq, h.2.2.2.2.2.2⟩
theorem im_XF.narrow {xs : Nat → Int32} {LL : Nat} {A B : Nat → Prop} {ad : Nat → Nat} {U : State} {H : Heap} (h : im_XF xs LL A ad U H) (hAB : ∀ q, B q → A q) : im_XF xs LL B ad U H :=
  ⟨h.1.narrow hAB, h.2.1.narrow hAB, h.2.2.1.narrow hAB, h.2.2.2.1.narrow hAB, h.2.2.2.2.1.imp (fun z => z.narrow hAB) (fun z => z.narrow hAB), h.2.2.2.2.2.1.narrow hAB, h.2.2.2.2.2.2⟩
theorem im_XF.warm {xs : Nat → Int32} {LL : Nat} {A : Nat → Prop} {ad : Nat → Nat} {s U : State} {H : Heap} (hW : s.WarmedH U.vm) (h : im_XF xs LL A ad s H) : im_XF xs LL A ad U H :=
  ⟨h.1.moved hW.alike, h.2.1.moved hW.alike, h.2.2.1.moved hW.alike, h.2.2.2.1.moved hW.alike, h.2.2.2.2.1.imp (fun z => z.moved hW.alike) (fun z => z.moved hW.alike), h.2.2.2.2.2.1.moved hW.alike, fun own k i hi hw => vk_R.warm hW (h.2.2.2.2.2.2 own k i hi hw)⟩
theorem im_XF.same {xs : Nat → Int32} {LL : Nat} {A : Nat → Prop} {ad : Nat → Nat} {u U : State} {H : Heap} (hv : U.vm = u.vm) (hA : u.vm.Alike U.vm) (h : im_XF xs LL A ad u H) : im_XF xs LL A ad U H :=
  ⟨h.1.moved hA, h.2.1.moved hA, h.2.2.1.moved hA, h.2.2.2.1.moved hA, h.2.2.2.2.1.imp (fun z => z.moved hA) (fun z => z.moved hA), h.2.2.2.2.2.1.moved hA, fun own k i hi hw => vk_R.same hv (h.2.2.2.2.2.2 own k i hi hw)⟩
theorem im_XF.congr {xs : Nat → Int32} {LL : Nat} {A : Nat → Prop} {ad ad2 : Nat → Nat} {U : State} {H : Heap} (h : im_XF xs LL A ad U H) (ha : ∀ k, k < 29 → ad2 k = ad k) : im_XF xs LL A ad2 U H := by
  obtain ⟨h1, h2, h3, h4, h5, h6, h7⟩ := h
  refine ⟨by rw [ha 0 (by omega)]; exact h1, by rw [ha 1 (by omega)]; exact h2, by rw [ha 1 (by omega)]; exact h3, h4, by rw [ha 2 (by omega)]; exact h5, ⟨fun i hi => ?_, fun i j hi hj e => ?_⟩, fun own k i hi hw => by rw [ha (3 + i) (by omega)]; exact h7 own k i hi hw⟩
  · have := h6.1 i hi
    simp only [ha (3 + i) (by omega), ha (16 + i) (by omega)]
    exact this
  · simp only [ha (3 + i) (by omega), ha (3 + j) (by omega)] at e
    exact h6.2 i j hi hj e
/-- a method's start and end -/
def im_PB (D : va_G) (xs : Nat → Int32) (LL : Nat) (ad : Nat → Nat) (ca : Nat → ClassId) (sh : im_Sh) (mi : im_MI) (mr : im_MR) (sz : Nat) (U : State) : Prop :=
  U.heap.size = sz ∧ va_P D im_cl (im_wo ad ca sh mi mr) U.heap ∧ va_K D im_cl [] U ∧ va_D (fun _ => True) (im_wo ad ca sh mi mr) ∧ im_SO U xs LL ca sh mi mr ∧ im_XF xs LL (va_A (im_wo ad ca sh mi mr) sz) ad U U.heap
def im_QB (D : va_G) (xs : Nat → Int32) (LL : Nat) (ad : Nat → Nat) (ca : Nat → ClassId) (sh : im_Sh) (mi : im_MI) (mr : im_MR) (sz : Nat) (rt : Option FieldType) (r : Value) (sh2 : im_Sh) (mi2 : im_MI) (mr2 : im_MR) : Array Value → State → Outcome → State → Prop := fun _ st oc t =>
  (∃ (ad2 : Nat → Nat) (ca2 : Nat → ClassId), oc = .returned (im_ro rt r ad2) ∧ im_ag sh sh2 ad ca ad2 ca2 ∧ va_P D im_cl (im_wo ad2 ca2 sh2 mi2 mr2) t.heap ∧ va_D (va_A (im_wo ad ca sh mi mr) sz) (im_wo ad2 ca2 sh2 mi2 mr2) ∧ im_SO t xs LL ca2 sh2 mi2 mr2) ∧ va_F (va_A (im_wo ad ca sh mi mr) sz) st t
theorem im_PB.blind {D : va_G} {xs : Nat → Int32} {LL : Nat} {ad : Nat → Nat} {ca : Nat → ClassId} {sh : im_Sh} {mi : im_MI} {mr : im_MR} {sz : Nat} {av : List Value} : FrameBlind (va_Pc av (im_PB D xs LL ad ca sh mi mr sz)) := by
  intro a U g mk q
  obtain ⟨q0, q1, q2, q3, q4, q5, q6⟩ := q
  exact ⟨q0, q1, q2, va_K.moved (u := U) (U := U.calling g mk a) (Vm.Alike.refl U.vm) q3, q4, im_SO.moved (u := U) (U := U.calling g mk a) (Vm.Alike.refl U.vm) q5, im_XF.same (u := U) (U := U.calling g mk a) rfl (Vm.Alike.refl U.vm) q6⟩
section SND8
variable {p : Program} {l : Launch} {e : Env} {R : Room} {s : State} {m : MethodId} {args : Array Value} {below : List Frame} {meth : Method} {c : Code} {Q : State → Prop} {A : Nat → Prop} {D : va_G} {xs : Nat → Int32} {LL y : Nat}
theorem im_callW {H : Heap} {locs : List Loc} {cells slots mc ms pc : Nat} {ls : Array Slot} {st0 rest : List Value} {ad : Nat → Nat} {ca : Nat → ClassId} {sh : im_Sh} {mi : im_MI} {mr : im_MR} {rt : Option FieldType} {r : Value} {sh2 : im_Sh} {mi2 : im_MI} {mr2 : im_MR} {aa : Array Value} {free : Addr → Prop}
    (hr : va_Run p l e R s m args below meth c H locs cells slots mc ms (F0 m pc ls st0) rest (im_QB D xs LL ad ca sh mi mr H.size rt r sh2 mi2 mr2 aa) free) (hS : va_S A s.heap H locs) (hA1 : ∀ q, va_A (im_wo ad ca sh mi mr) H.size q → A q) (hf : ∀ q, free q → A q)
    (kk : ∀ (ad2 : Nat → Nat) (ca2 : Nat → ClassId) (H1 : Heap) (locs1 : List Loc), im_ag sh sh2 ad ca ad2 ca2 → im_HR D s A xs LL ad2 ca2 sh2 mi2 mr2 H1 locs1 → W p l e R s m args below meth c H1 locs1 (cells + mc) (slots + ms) Q (F0 m (pc + 3) ls ((im_ro rt r ad2).toList ++ rest))) : W p l e R s m args below meth c H locs cells slots Q (F0 m pc ls st0) := by
  intro T hT X
  obtain ⟨v, st₀, t, T', L, h0, X', hL, e1, e2, ⟨⟨ad2, ca2, hv, hag, hP, hD, hSO⟩, hz, hk⟩, st⟩ := hr T hT X
  cases hv
  rw [h0] at hz hk
  have hal : s.vm.Alike t.vm := by rw [← e2]; exact X'.warmed.alike
  obtain ⟨t2, a1, b1⟩ := kk ad2 ca2 T'.heap (locs ++ L) hag ⟨by rw [e1]; exact hP, hD.weaken (fun _ q _ h => hA1 q.1 h), ⟨Nat.le_trans hS.1 (by rw [e1]; exact hz), fun q h1 h2 => by
      rw [e1, hk q (Nat.lt_of_lt_of_le h1 hS.1) (fun z => h2 (hA1 q z))]; exact hS.2.1 q h1 h2, fun q hq => by
      rcases List.mem_append.mp hq with h | h
      · exact hS.2.2 q h
      · exact hf _ (hL q h)⟩, hSO.moved hal.symm⟩ T' rfl X'
  exact ⟨t2, st t2 a1, b1⟩
theorem im_free {ad : Nat → Nat} {ca : Nat → ClassId} {sh : im_Sh} {mi : im_MI} {mr : im_MR} {H : Heap} {locs : List Loc} (hHR : im_HR D s A xs LL ad ca sh mi mr H locs) (hA : ∀ q, s.heap.size ≤ q → A q) : ∀ q, va_A (im_wo ad ca sh mi mr) H.size q → A q := by
  intro q h
  rcases h with ⟨k, e, h⟩ | h
  · exact hHR.2.1.2 k (q, e) h
  · exact hA q (Nat.le_trans hHR.2.2.1.1 h)
theorem im_start {ad : Nat → Nat} {ca : Nat → ClassId} {sh : im_Sh} {mi : im_MI} {mr : im_MR} {H : Heap} {locs : List Loc} (hHR : im_HR D s A xs LL ad ca sh mi mr H locs) (hA : ∀ q, s.heap.size ≤ q → A q) (hK : va_K D im_cl [] s) (hXF : im_XF xs LL A ad s s.heap) {as : List Value} : ∀ U : State, U.heap = H → s.WarmedH U.vm → va_Pc as (im_PB D xs LL ad ca sh mi mr H.size) as.toArray U := by
  intro U hU hW
  refine ⟨rfl, by rw [hU], by rw [hU]; exact hHR.1, va_K.moved hW.alike hK, hHR.2.1.weaken (fun _ _ _ _ => trivial), hHR.2.2.2.moved hW.alike, ?_⟩
  rw [hU]
  exact im_XF.warm hW ((hXF.kept hHR.2.2.1.2.1).narrow (im_free hHR hA))
end SND8
theorem im_flat_len (ad : Nat → Nat) : ∀ (as : List Value), (lg_sl (as.map (im_tr ad))).length = (im_flat as).length
  | [] => rfl
  | v :: r => by
    have ih := im_flat_len ad r
    simp only [lg_sl, List.map_cons, List.flatMap_cons, List.length_append] at ih ⊢
    rw [ih, im_tr_cat]
    show _ = (bif im_isL v then v :: im_bad :: im_flat r else v :: im_flat r).length
    cases hL : im_isL v with
    | true =>
      rw [if_pos ((im_isL_cat v).mp hL)]
      simp only [cond_true, List.length_cons, List.length_nil]
      omega
    | false =>
      rw [if_neg (fun q => by rw [(im_isL_cat v).mpr q] at hL; cases hL)]
      simp only [cond_false, List.length_cons, List.length_nil]
      omega
theorem im_lv_args (ad : Nat → Nat) (n : Nat) : ∀ (as : List Value) (i j : Nat) (v : Value), (im_flat as ++ List.replicate n im_bad)[j]? = some v → (∀ n, v ≠ .retAddr n) → (i + j, im_tr ad v) ∈ lv_args i (as.map (im_tr ad))
  | [], i, j, v, h, hn => by
    simp only [im_flat, List.nil_append] at h
    rw [List.getElem?_replicate] at h
    split at h
    · cases h; exact absurd rfl (hn 0)
    · cases h
  | a :: r, i, j, v, h, hn => by
    unfold im_flat at h
    rw [List.map_cons, lv_args, im_tr_cat]
    cases hL : im_isL a with
    | true =>
      rw [hL] at h
      rw [if_pos ((im_isL_cat a).mp hL)]
      match j, h with
      | 0, h => cases h; exact List.mem_cons_self
      | 1, h => cases h; exact absurd rfl (hn 0)
      | j + 2, h =>
        refine List.mem_cons_of_mem _ ?_
        have := im_lv_args ad n r (i + 2) j v (by simpa using h) hn
        rwa [show i + 2 + j = i + (j + 2) by omega] at this
    | false =>
      rw [hL] at h
      rw [if_neg (fun q => by rw [(im_isL_cat a).mpr q] at hL; cases hL)]
      match j, h with
      | 0, h => cases h; exact List.mem_cons_self
      | j + 1, h =>
        refine List.mem_cons_of_mem _ ?_
        have := im_lv_args ad n r (i + 1) j v (by simpa using h) hn
        rwa [show i + 1 + j = i + (j + 1) by omega] at this
theorem im_entry_len {y : Nat} {as : List Value} (h : (im_flat as).length ≤ im_mx y) : (im_entry y as).length = im_mx y := by
  unfold im_entry
  simp
  omega
theorem im_entry_has {y : Nat} {as : List Value} (ad : Nat → Nat) (h : (im_flat as).length ≤ im_mx y) : lv_has ((lg_sl (as.map (im_tr ad)) ++ List.replicate (im_mx y - (lg_sl (as.map (im_tr ad))).length) Slot.unset).toArray) (im_mx y) (im_lv ad (im_entry y as)) := by
  refine lv_mono (lv_entry (as.map (im_tr ad)) (n := im_mx y) (by rw [im_flat_len]; exact h)) ?_
  rintro ⟨j, w⟩ hq
  obtain ⟨v, h1, h2, rfl⟩ := im_lv_mem.mp hq
  have := im_lv_args ad _ as 0 j v h1 h2
  rwa [Nat.zero_add] at this
theorem im_ag.trans {sh sh1 sh2 : im_Sh} {ad ad1 ad2 : Nat → Nat} {ca ca1 ca2 : Nat → ClassId} (h1 : im_ag sh sh1 ad ca ad1 ca1) (h2 : im_ag sh1 sh2 ad1 ca1 ad2 ca2) (hl1 : sh.length ≤ sh1.length) (hl2 : sh1.length ≤ sh2.length) : im_ag sh sh2 ad ca ad2 ca2 := by
  refine ⟨fun k hk => ?_, fun h => ?_⟩
  · obtain ⟨a1, a2⟩ := h1.1 k hk
    obtain ⟨b1, b2⟩ := h2.1 k (by omega)
    exact ⟨b1.trans a1, b2.trans a2⟩
  · obtain ⟨a1, a2⟩ := h1.2 (by omega)
    obtain ⟨b1, b2⟩ := h2.2 (by omega)
    exact ⟨b1.trans a1, b2.trans a2⟩
/-- the contract of every method, at a fuel -/
def im_Met (l : Launch) (n : Nat) : Prop := ∀ (D : va_G) (xs : Nat → Int32) (LL d y : Nat), y < im_nM → ∀ (as : List Value) (sh : im_Sh) (mi : im_MI) (mr : im_MR) (r : Value) (sh2 : im_Sh) (mi2 : im_MI) (mr2 : im_MR) (ad : Nat → Nat) (ca : Nat → ClassId) (sz : Nat),
  im_exec n d y 0 (im_entry y as) [] sh mi mr = some (r, sh2, mi2, mr2) → (im_flat as).length ≤ im_mx y →
  Met l (im_mn y) (.code (im_mn y) (im_code y) (im_mx y) (im_rt y) :: im_ws) { frames := d + 1, cells := sh2.length - sh.length, slots := im_sl sh2 - im_sl sh, locals := 64 * d + 128 } (va_Pc (as.map (im_tr ad)) (im_PB D xs LL ad ca sh mi mr sz)) (im_QB D xs LL ad ca sh mi mr sz (im_rt y) r sh2 mi2 mr2) (sh2.length - sh.length) (im_sl sh2 - im_sl sh) (va_A (im_wo ad ca sh mi mr) sz)
def im_WS (l : Launch) (n : Nat) : Prop := ∀ (d y pc : Nat) (L st : List Value) (sh : im_Sh) (mi : im_MI) (mr : im_MR) (r : Value) (sh2 : im_Sh) (mi2 : im_MI) (mr2 : im_MR) (p : Program) (e : Env) (R : Room) (s : State) (m : MethodId) (args : Array Value) (below : List Frame) (meth : Method) (c : Code) (Q : State → Prop) (A : Nat → Prop) (D : va_G) (xs : Nat → Int32) (LL : Nat) (ad : Nat → Nat) (ca : Nat → ClassId) (H : Heap) (locs : List Loc) (cells slots : Nat) (ls : Array Slot),
  y < 222 → im_exec n d y pc L st sh mi mr = some (r, sh2, mi2, mr2) → im_Cx p R s m args meth c A D y → d + 1 ≤ R.frames → 64 * d + 128 ≤ R.locals → im_XF xs LL A ad s s.heap → im_HR D s A xs LL ad ca sh mi mr H locs → lv_has ls (im_mx y) (im_lv ad L) → L.length = im_mx y →
  cells + sh2.length ≤ R.cells + sh.length → slots + im_sl sh2 ≤ R.slots + im_sl sh →
  (∀ (ad2 : Nat → Nat) (ca2 : Nat → ClassId) (H2 : Heap) (locs2 : List Loc) (cells2 slots2 : Nat) (ls2 : Array Slot) (pc2 : Nat) (ins : Instr) (st2 : List Value), decode (im_code y) pc2 = .ok (ins, 1) → im_rts (im_rt y) ins r st2 → im_ag sh sh2 ad ca ad2 ca2 → im_HR D s A xs LL ad2 ca2 sh2 mi2 mr2 H2 locs2 →
    cells2 + sh.length = cells + sh2.length → slots2 + im_sl sh = slots + im_sl sh2 → W p l e R s m args below meth c H2 locs2 cells2 slots2 Q (F0 m pc2 ls2 (st2.map (im_tr ad2)))) →
  W p l e R s m args below meth c H locs cells slots Q (F0 m pc ls (st.map (im_tr ad)))
theorem im_ro_tr {rt : Option FieldType} {r : Value} {ad2 : Nat → Nat} {st : List Value} : (im_ro rt r ad2).toList ++ st.map (im_tr ad2) = (match rt with
    | none => st
    | some _ => r :: st).map (im_tr ad2) := by
  cases rt <;> rfl
/-- how a method's own end looks on the machine -/
theorem im_end {p : Program} {l : Launch} {e : Env} {R : Room} {s : State} {m : MethodId} {args : Array Value} {below : List Frame} {meth : Method} {c : Code} {H : Heap} {locs : List Loc} {cells slots pc : Nat} {ls : Array Slot} {cc : ByteArray} {rt : Option FieldType} {ins : Instr} {r : Value} {st : List Value} {ad : Nat → Nat} {Qc : Array Value → State → Outcome → State → Prop} {free : Addr → Prop}
    (hx : p.tables.exec = Jvm.exec) (hb : c.code = cc) (hr : meth.sig.returnType = rt) (hlocks : meth.locks = false) (hdg : decode cc pc = .ok (ins, 1)) (h : im_rts rt ins r st) (hq : ∀ t : State, t.heap = H → s.WarmedH t.vm → Qc args s (.returned (im_ro rt r ad)) t) (hf : ∀ q ∈ locs, free q.base) :
    W p l e R s m args below meth c H locs cells slots (MQ below Qc args s cells slots free) (F0 m pc ls (st.map (im_tr ad))) := by
  rcases h with ⟨rfl, v, t, rfl, rfl, rfl, hn⟩ | ⟨rfl, v, rfl, rfl, rfl⟩ | ⟨rfl, t, v, rfl, ht, rfl, rfl⟩ | ⟨rfl, rfl, rfl, rfl⟩
  · exact W.zret (v := v) hx hb hr hn hq hf hdg
  · exact W.lret (v := v) hx hb hr hq hf hdg
  · refine W.aret (v := im_tr ad (im_rv v)) (rt := t) hx hb hr ?_ ?_ hq hf hdg
    · cases t <;> first
        | exact Or.inl ⟨_, rfl⟩
        | exact Or.inr ⟨_, rfl⟩
        | cases ht
    · cases v
      · exact Or.inl rfl
      · exact Or.inr ⟨_, rfl⟩
  · exact W.vret hx hb hr hq hf hdg
