/-! ===== SOUNDNESS 2: an instruction of the pure machine is one of the machine ===== -/
def im_sl (sh : im_Sh) : Nat := (sh.map fun q => q.2).sum
/-- the numbered cells are good: what stands outside is as it was; each cell is of a kind; a reference is a number -/
def im_SO (s : State) (xs : Nat → Int32) (LL : Nat) (ca : Nat → ClassId) (sh : im_Sh) (mi : im_MI) (mr : im_MR) : Prop :=
  29 ≤ sh.length ∧ (∀ k, k < 29 → sh[k]? = (im_xs LL)[k]?) ∧
  (∀ k t n, 29 ≤ k → sh[k]? = some (t, n) → (t < 10 ∧ n = im_nf t) ∨ ((t = 100 ∨ t = 101 ∨ (110 ≤ t ∧ t < 120)) ∧ ArrOfT s (ca k) (im_aty t) ∧ va_RA s (ca k) (im_aty t))) ∧
  (∀ k j r, mr k j = some r → r < sh.length) ∧ (∀ k j, k < 29 → mi k j = im_xi xs k j ∧ mr k j = im_xr k j)
def im_HR (D : va_G) (s : State) (A : Nat → Prop) (xs : Nat → Int32) (LL : Nat) (ad : Nat → Nat) (ca : Nat → ClassId) (sh : im_Sh) (mi : im_MI) (mr : im_MR) (H : Heap) (locs : List Loc) : Prop :=
  va_P D im_cl (im_wo ad ca sh mi mr) H ∧ va_D A (im_wo ad ca sh mi mr) ∧ va_S A s.heap H locs ∧ im_SO s xs LL ca sh mi mr
/-- what stands outside, on the machine -/
def im_XF (xs : Nat → Int32) (LL : Nat) (A : Nat → Prop) (ad : Nat → Nat) (U : State) (H : Heap) : Prop :=
  va_T .int (ad 0) LL (fun j => .int (xs j)) A U H ∧ va_T .int (ad 1) 6 (fun j => .int (im_xi xs 1 j)) A U H ∧ va_Z "AloneTogether$Kind" "ABOVE" "[I" (.ref (ad 1)) A U H ∧
  va_Z "java/lang/String" "COMPACT_STRINGS" "Z" (.int 1) A U H ∧ (va_Z "jdk/internal/util/Preconditions" "SIOOBE_FORMATTER" "Ljava/util/function/BiFunction;" .null A U H ∨ va_Z "jdk/internal/util/Preconditions" "SIOOBE_FORMATTER" "Ljava/util/function/BiFunction;" (.ref (ad 2)) A U H) ∧
  vk_S 13 im_sln im_byt (fun i => ad (3 + i)) (fun i => ad (16 + i)) A U H ∧ ∀ (own : String) (k i : Nat), i < 13 → Jvm.Cond.stringRef own k (im_str i) ∈ lw_tbl → vk_R own k (im_str i) (ad (3 + i)) U
def im_ag (sh sh2 : im_Sh) (ad : Nat → Nat) (ca : Nat → ClassId) (ad2 : Nat → Nat) (ca2 : Nat → ClassId) : Prop := (∀ k, k < sh.length → ad2 k = ad k ∧ ca2 k = ca k) ∧ (sh2.length = sh.length → ad2 = ad ∧ ca2 = ca)
theorem im_ag_rf {sh sh2 : im_Sh} {ad : Nat → Nat} {ca : Nat → ClassId} : im_ag sh sh2 ad ca ad ca := ⟨fun _ _ => ⟨rfl, rfl⟩, fun _ => ⟨rfl, rfl⟩⟩
theorem im_lo {LL : Nat} {k t n : Nat} (hk : k < 29) (h : (im_xs LL)[k]? = some (t, n)) : (t = 200 ∧ k < 2) ∨ (t = 202 ∧ k = 2) ∨ (t = 20 ∧ n = 2 ∧ 3 ≤ k ∧ k < 16) ∨ (t = 204 ∧ 16 ≤ k ∧ n = im_sln.getD (k - 16) 0) := by
  match k, hk, h with
  | 0, _, h => cases h; exact Or.inl ⟨rfl, by omega⟩
  | 1, _, h => cases h; exact Or.inl ⟨rfl, by omega⟩
  | 2, _, h => cases h; exact Or.inr (Or.inl ⟨rfl, rfl⟩)
  | 3, _, h => cases h; exact Or.inr (Or.inr (Or.inl ⟨rfl, rfl, by omega, by omega⟩))
  | 4, _, h => cases h; exact Or.inr (Or.inr (Or.inl ⟨rfl, rfl, by omega, by omega⟩))
  | 5, _, h => cases h; exact Or.inr (Or.inr (Or.inl ⟨rfl, rfl, by omega, by omega⟩))
  | 6, _, h => cases h; exact Or.inr (Or.inr (Or.inl ⟨rfl, rfl, by omega, by omega⟩))
  | 7, _, h => cases h; exact Or.inr (Or.inr (Or.inl ⟨rfl, rfl, by omega, by omega⟩))
  | 8, _, h => cases h; exact Or.inr (Or.inr (Or.inl ⟨rfl, rfl, by omega, by omega⟩))
  | 9, _, h => cases h; exact Or.inr (Or.inr (Or.inl ⟨rfl, rfl, by omega, by omega⟩))
  | 10, _, h => cases h; exact Or.inr (Or.inr (Or.inl ⟨rfl, rfl, by omega, by omega⟩))
  | 11, _, h => cases h; exact Or.inr (Or.inr (Or.inl ⟨rfl, rfl, by omega, by omega⟩))
  | 12, _, h => cases h; exact Or.inr (Or.inr (Or.inl ⟨rfl, rfl, by omega, by omega⟩))
  | 13, _, h => cases h; exact Or.inr (Or.inr (Or.inl ⟨rfl, rfl, by omega, by omega⟩))
  | 14, _, h => cases h; exact Or.inr (Or.inr (Or.inl ⟨rfl, rfl, by omega, by omega⟩))
  | 15, _, h => cases h; exact Or.inr (Or.inr (Or.inl ⟨rfl, rfl, by omega, by omega⟩))
  | 16, _, h => cases h; exact Or.inr (Or.inr (Or.inr ⟨rfl, by omega, rfl⟩))
  | 17, _, h => cases h; exact Or.inr (Or.inr (Or.inr ⟨rfl, by omega, rfl⟩))
  | 18, _, h => cases h; exact Or.inr (Or.inr (Or.inr ⟨rfl, by omega, rfl⟩))
  | 19, _, h => cases h; exact Or.inr (Or.inr (Or.inr ⟨rfl, by omega, rfl⟩))
  | 20, _, h => cases h; exact Or.inr (Or.inr (Or.inr ⟨rfl, by omega, rfl⟩))
  | 21, _, h => cases h; exact Or.inr (Or.inr (Or.inr ⟨rfl, by omega, rfl⟩))
  | 22, _, h => cases h; exact Or.inr (Or.inr (Or.inr ⟨rfl, by omega, rfl⟩))
  | 23, _, h => cases h; exact Or.inr (Or.inr (Or.inr ⟨rfl, by omega, rfl⟩))
  | 24, _, h => cases h; exact Or.inr (Or.inr (Or.inr ⟨rfl, by omega, rfl⟩))
  | 25, _, h => cases h; exact Or.inr (Or.inr (Or.inr ⟨rfl, by omega, rfl⟩))
  | 26, _, h => cases h; exact Or.inr (Or.inr (Or.inr ⟨rfl, by omega, rfl⟩))
  | 27, _, h => cases h; exact Or.inr (Or.inr (Or.inr ⟨rfl, by omega, rfl⟩))
  | 28, _, h => cases h; exact Or.inr (Or.inr (Or.inr ⟨rfl, by omega, rfl⟩))
  | n + 29, h, _ => exact absurd h (by omega)
theorem im_hi {s : State} {xs : Nat → Int32} {LL : Nat} {ca : Nat → ClassId} {sh : im_Sh} {mi : im_MI} {mr : im_MR} (h : im_SO s xs LL ca sh mi mr) {k t n : Nat} (hs : sh[k]? = some (t, n)) (ht : t < 20 ∨ (100 ≤ t ∧ t < 120)) : 29 ≤ k ∧ k < sh.length := by
  refine ⟨?_, (List.getElem?_eq_some_iff.mp hs).1⟩
  rcases Nat.lt_or_ge k 29 with h1 | h1
  · rw [h.2.1 k h1] at hs
    rcases im_lo h1 hs with ⟨e, -⟩ | ⟨e, -⟩ | ⟨e, -⟩ | ⟨e, -⟩ <;> omega
  · exact h1
def im_Cx (p : Program) (R : Room) (s : State) (m : MethodId) (args : Array Value) (meth : Method) (c : Code) (A : Nat → Prop) (D : va_G) (y : Nat) : Prop :=
  p.tables.exec = Jvm.exec ∧ c.code = im_code y ∧ c.maxLocals = im_mx y ∧ s.vm.findClass (im_mn y).cls = some m.cls ∧ (∀ w ∈ im_ws, w.before args s = true) ∧ va_K D im_cl [] s ∧ (∀ q, s.heap.size ≤ q → A q) ∧ ((im_mn y).name = "<init>" → meth.name = "<init>") ∧ 1 ≤ R.frames ∧ 128 ≤ R.locals
def im_n32 (ins : Instr) (a : Nat) : Prop := match ins with
  | .getstatic _ => a ≠ 32
  | _ => True
def im_SPa (p : Program) (l : Launch) (e : Env) (R : Room) (s : State) (m : MethodId) (args : Array Value) (below : List Frame) (meth : Method) (c : Code) (Q : State → Prop) (A : Nat → Prop) (D : va_G) (xs : Nat → Int32) (LL y : Nat) (ins : Instr) (pc nx a b c0 : Nat) : Prop :=
  ∀ (L st : List Value) (sh : im_Sh) (mi : im_MI) (mr : im_MR) (pc2 : Nat) (L2 st2 : List Value) (sh2 : im_Sh) (mi2 : im_MI) (mr2 : im_MR) (ad : Nat → Nat) (ca : Nat → ClassId) (H : Heap) (locs : List Loc) (cells slots : Nat) (ls : Array Slot),
    decode (im_code y) pc = .ok (ins, nx - pc) → pc ≤ nx → im_okR y pc nx a b c0 ins = true →
    im_do im_na im_rc im_nf im_ft (im_rt y) pc nx a b ins L st sh mi mr = some (.inl (pc2, L2, st2, sh2, mi2, mr2)) →
    im_XF xs LL A ad s s.heap → im_HR D s A xs LL ad ca sh mi mr H locs → lv_has ls (im_mx y) (im_lv ad L) → L.length = im_mx y →
    cells + sh2.length ≤ R.cells + sh.length → slots + im_sl sh2 ≤ R.slots + im_sl sh →
    (∀ (ad2 : Nat → Nat) (ca2 : Nat → ClassId) (H2 : Heap) (locs2 : List Loc) (cells2 slots2 : Nat) (ls2 : Array Slot), im_ag sh sh2 ad ca ad2 ca2 → im_HR D s A xs LL ad2 ca2 sh2 mi2 mr2 H2 locs2 → lv_has ls2 (im_mx y) (im_lv ad2 L2) → L2.length = im_mx y →
      cells2 + sh.length = cells + sh2.length → slots2 + im_sl sh = slots + im_sl sh2 → W p l e R s m args below meth c H2 locs2 cells2 slots2 Q (F0 m pc2 ls2 (st2.map (im_tr ad2)))) →
    W p l e R s m args below meth c H locs cells slots Q (F0 m pc ls (st.map (im_tr ad)))
def im_SP (p : Program) (l : Launch) (e : Env) (R : Room) (s : State) (m : MethodId) (args : Array Value) (below : List Frame) (meth : Method) (c : Code) (Q : State → Prop) (A : Nat → Prop) (D : va_G) (xs : Nat → Int32) (LL y : Nat) (ins : Instr) : Prop := ∀ (pc nx a b c0 : Nat), im_SPa p l e R s m args below meth c Q A D xs LL y ins pc nx a b c0
theorem im_nr {P : Prop} {v : Value} {n : Nat} (h : v ≠ v) : P := absurd rfl h
section SND2
variable {p : Program} {l : Launch} {e : Env} {R : Room} {s : State} {m : MethodId} {args : Array Value} {below : List Frame} {meth : Method} {c : Code} {Q : State → Prop} {A : Nat → Prop} {D : va_G} {xs : Nat → Int32} {LL y : Nat}
theorem im_SP_aconst_null (C : im_Cx p R s m args meth c A D y) : im_SP p l e R s m args below meth c Q A D xs LL y (.aconst_null) := by
  intro pc nx a b c0 L st sh mi mr pc2 L2 st2 sh2 mi2 mr2 ad ca H locs cells slots ls hdec hle hok hdo hXF hHR hl hLn hcc hss kk
  obtain ⟨hx, hb, hml, hown, hts, hK, hA, hnm, hRf, hRl⟩ := C
  obtain rfl : nx = pc + 1 := Nat.eq_of_beq_eq_true hok
  have hdg : decode (im_code y) pc = .ok (.aconst_null, 1) := by rw [Nat.add_sub_cancel_left] at hdec; exact hdec
  simp only [im_do] at hdo
  · simp only [im_nx, Option.some.injEq, Sum.inl.injEq, Prod.mk.injEq] at hdo
    obtain ⟨rfl, rfl, rfl, rfl, rfl, rfl⟩ := hdo
    refine lv_null hx hb hdg ?_
    exact kk ad ca H locs cells slots ls im_ag_rf hHR hl hLn rfl rfl
theorem im_SP_iconst (C : im_Cx p R s m args meth c A D y) {n : Int} : im_SP p l e R s m args below meth c Q A D xs LL y (.iconst n) := by
  intro pc nx a b c0 L st sh mi mr pc2 L2 st2 sh2 mi2 mr2 ad ca H locs cells slots ls hdec hle hok hdo hXF hHR hl hLn hcc hss kk
  obtain ⟨hx, hb, hml, hown, hts, hK, hA, hnm, hRf, hRl⟩ := C
  obtain rfl : nx = pc + 1 := Nat.eq_of_beq_eq_true hok
  have hdg : decode (im_code y) pc = .ok (.iconst n, 1) := by rw [Nat.add_sub_cancel_left] at hdec; exact hdec
  simp only [im_do] at hdo
  · simp only [im_nx, Option.some.injEq, Sum.inl.injEq, Prod.mk.injEq] at hdo
    obtain ⟨rfl, rfl, rfl, rfl, rfl, rfl⟩ := hdo
    refine lv_iconst hx hb hdg rfl ?_
    exact kk ad ca H locs cells slots ls im_ag_rf hHR hl hLn rfl rfl
theorem im_SP_bipush (C : im_Cx p R s m args meth c A D y) {n : Int} : im_SP p l e R s m args below meth c Q A D xs LL y (.bipush n) := by
  intro pc nx a b c0 L st sh mi mr pc2 L2 st2 sh2 mi2 mr2 ad ca H locs cells slots ls hdec hle hok hdo hXF hHR hl hLn hcc hss kk
  obtain ⟨hx, hb, hml, hown, hts, hK, hA, hnm, hRf, hRl⟩ := C
  obtain rfl : nx = pc + 2 := Nat.eq_of_beq_eq_true hok
  have hdg : decode (im_code y) pc = .ok (.bipush n, 2) := by rw [Nat.add_sub_cancel_left] at hdec; exact hdec
  simp only [im_do] at hdo
  · simp only [im_nx, Option.some.injEq, Sum.inl.injEq, Prod.mk.injEq] at hdo
    obtain ⟨rfl, rfl, rfl, rfl, rfl, rfl⟩ := hdo
    refine lv_bipush hx hb hdg rfl ?_
    exact kk ad ca H locs cells slots ls im_ag_rf hHR hl hLn rfl rfl
theorem im_SP_sipush (C : im_Cx p R s m args meth c A D y) {n : Int} : im_SP p l e R s m args below meth c Q A D xs LL y (.sipush n) := by
  intro pc nx a b c0 L st sh mi mr pc2 L2 st2 sh2 mi2 mr2 ad ca H locs cells slots ls hdec hle hok hdo hXF hHR hl hLn hcc hss kk
  obtain ⟨hx, hb, hml, hown, hts, hK, hA, hnm, hRf, hRl⟩ := C
  obtain rfl : nx = pc + 3 := Nat.eq_of_beq_eq_true hok
  have hdg : decode (im_code y) pc = .ok (.sipush n, 3) := by rw [Nat.add_sub_cancel_left] at hdec; exact hdec
  simp only [im_do] at hdo
  · simp only [im_nx, Option.some.injEq, Sum.inl.injEq, Prod.mk.injEq] at hdo
    obtain ⟨rfl, rfl, rfl, rfl, rfl, rfl⟩ := hdo
    refine lv_sipush hx hb hdg rfl ?_
    exact kk ad ca H locs cells slots ls im_ag_rf hHR hl hLn rfl rfl
theorem im_SP_lconst (C : im_Cx p R s m args meth c A D y) {n : Fin 2} : im_SP p l e R s m args below meth c Q A D xs LL y (.lconst n) := by
  intro pc nx a b c0 L st sh mi mr pc2 L2 st2 sh2 mi2 mr2 ad ca H locs cells slots ls hdec hle hok hdo hXF hHR hl hLn hcc hss kk
  obtain ⟨hx, hb, hml, hown, hts, hK, hA, hnm, hRf, hRl⟩ := C
  obtain rfl : nx = pc + 1 := Nat.eq_of_beq_eq_true hok
  have hdg : decode (im_code y) pc = .ok (.lconst n, 1) := by rw [Nat.add_sub_cancel_left] at hdec; exact hdec
  simp only [im_do] at hdo
  · simp only [im_nx, Option.some.injEq, Sum.inl.injEq, Prod.mk.injEq] at hdo
    obtain ⟨rfl, rfl, rfl, rfl, rfl, rfl⟩ := hdo
    refine lv_lconst hx hb hdg rfl ?_
    exact kk ad ca H locs cells slots ls im_ag_rf hHR hl hLn rfl rfl
theorem im_SP_iload (C : im_Cx p R s m args meth c A D y) {i : Nat} : im_SP p l e R s m args below meth c Q A D xs LL y (.iload i) := by
  intro pc nx a b c0 L st sh mi mr pc2 L2 st2 sh2 mi2 mr2 ad ca H locs cells slots ls hdec hle hok hdo hXF hHR hl hLn hcc hss kk
  obtain ⟨hx, hb, hml, hown, hts, hK, hA, hnm, hRf, hRl⟩ := C
  obtain rfl : nx = pc + 2 := Nat.eq_of_beq_eq_true hok
  have hdg : decode (im_code y) pc = .ok (.iload i, 2) := by rw [Nat.add_sub_cancel_left] at hdec; exact hdec
  simp only [im_do] at hdo
  split at hdo
  · rename_i x1 hx1
    simp only [im_nx, Option.some.injEq, Sum.inl.injEq, Prod.mk.injEq] at hdo
    obtain ⟨rfl, rfl, rfl, rfl, rfl, rfl⟩ := hdo
    refine lv_iload hx hb hdg (im_lv_get hl hx1 (fun n q => Value.noConfusion q)) ?_
    exact kk ad ca H locs cells slots ls im_ag_rf hHR hl hLn rfl rfl
  · cases hdo
theorem im_SP_iload_n (C : im_Cx p R s m args meth c A D y) {i : Fin 4} : im_SP p l e R s m args below meth c Q A D xs LL y (.iload_n i) := by
  intro pc nx a b c0 L st sh mi mr pc2 L2 st2 sh2 mi2 mr2 ad ca H locs cells slots ls hdec hle hok hdo hXF hHR hl hLn hcc hss kk
  obtain ⟨hx, hb, hml, hown, hts, hK, hA, hnm, hRf, hRl⟩ := C
  obtain rfl : nx = pc + 1 := Nat.eq_of_beq_eq_true hok
  have hdg : decode (im_code y) pc = .ok (.iload_n i, 1) := by rw [Nat.add_sub_cancel_left] at hdec; exact hdec
  simp only [im_do] at hdo
  split at hdo
  · rename_i x1 hx1
    simp only [im_nx, Option.some.injEq, Sum.inl.injEq, Prod.mk.injEq] at hdo
    obtain ⟨rfl, rfl, rfl, rfl, rfl, rfl⟩ := hdo
    refine lv_iload_n hx hb hdg rfl (im_lv_get hl hx1 (fun n q => Value.noConfusion q)) ?_
    exact kk ad ca H locs cells slots ls im_ag_rf hHR hl hLn rfl rfl
  · cases hdo
theorem im_SP_lload (C : im_Cx p R s m args meth c A D y) {i : Nat} : im_SP p l e R s m args below meth c Q A D xs LL y (.lload i) := by
  intro pc nx a b c0 L st sh mi mr pc2 L2 st2 sh2 mi2 mr2 ad ca H locs cells slots ls hdec hle hok hdo hXF hHR hl hLn hcc hss kk
  obtain ⟨hx, hb, hml, hown, hts, hK, hA, hnm, hRf, hRl⟩ := C
  obtain rfl : nx = pc + 2 := Nat.eq_of_beq_eq_true hok
  have hdg : decode (im_code y) pc = .ok (.lload i, 2) := by rw [Nat.add_sub_cancel_left] at hdec; exact hdec
  simp only [im_do] at hdo
  split at hdo
  · rename_i x1 hx1
    simp only [im_nx, Option.some.injEq, Sum.inl.injEq, Prod.mk.injEq] at hdo
    obtain ⟨rfl, rfl, rfl, rfl, rfl, rfl⟩ := hdo
    refine lv_lload hx hb hdg (im_lv_get hl hx1 (fun n q => Value.noConfusion q)) ?_
    exact kk ad ca H locs cells slots ls im_ag_rf hHR hl hLn rfl rfl
  · cases hdo
theorem im_SP_lload_n (C : im_Cx p R s m args meth c A D y) {i : Fin 4} : im_SP p l e R s m args below meth c Q A D xs LL y (.lload_n i) := by
  intro pc nx a b c0 L st sh mi mr pc2 L2 st2 sh2 mi2 mr2 ad ca H locs cells slots ls hdec hle hok hdo hXF hHR hl hLn hcc hss kk
  obtain ⟨hx, hb, hml, hown, hts, hK, hA, hnm, hRf, hRl⟩ := C
  obtain rfl : nx = pc + 1 := Nat.eq_of_beq_eq_true hok
  have hdg : decode (im_code y) pc = .ok (.lload_n i, 1) := by rw [Nat.add_sub_cancel_left] at hdec; exact hdec
  simp only [im_do] at hdo
  split at hdo
  · rename_i x1 hx1
    simp only [im_nx, Option.some.injEq, Sum.inl.injEq, Prod.mk.injEq] at hdo
    obtain ⟨rfl, rfl, rfl, rfl, rfl, rfl⟩ := hdo
    refine lv_lload_n hx hb hdg rfl (im_lv_get hl hx1 (fun n q => Value.noConfusion q)) ?_
    exact kk ad ca H locs cells slots ls im_ag_rf hHR hl hLn rfl rfl
  · cases hdo
theorem im_SP_aload (C : im_Cx p R s m args meth c A D y) {i : Nat} : im_SP p l e R s m args below meth c Q A D xs LL y (.aload i) := by
  intro pc nx a b c0 L st sh mi mr pc2 L2 st2 sh2 mi2 mr2 ad ca H locs cells slots ls hdec hle hok hdo hXF hHR hl hLn hcc hss kk
  obtain ⟨hx, hb, hml, hown, hts, hK, hA, hnm, hRf, hRl⟩ := C
  obtain rfl : nx = pc + 2 := Nat.eq_of_beq_eq_true hok
  have hdg : decode (im_code y) pc = .ok (.aload i, 2) := by rw [Nat.add_sub_cancel_left] at hdec; exact hdec
  simp only [im_do] at hdo
  split at hdo
  · rename_i x1 hx1
    simp only [im_nx, Option.some.injEq, Sum.inl.injEq, Prod.mk.injEq] at hdo
    obtain ⟨rfl, rfl, rfl, rfl, rfl, rfl⟩ := hdo
    refine lv_aload hx hb hdg (im_lv_get hl hx1 (fun n q => Value.noConfusion q)) ?_
    exact kk ad ca H locs cells slots ls im_ag_rf hHR hl hLn rfl rfl
  · rename_i hx1
    simp only [im_nx, Option.some.injEq, Sum.inl.injEq, Prod.mk.injEq] at hdo
    obtain ⟨rfl, rfl, rfl, rfl, rfl, rfl⟩ := hdo
    refine lv_aloadN hx hb hdg (im_lv_get hl hx1 (fun n q => Value.noConfusion q)) ?_
    exact kk ad ca H locs cells slots ls im_ag_rf hHR hl hLn rfl rfl
  · cases hdo
theorem im_SP_aload_n (C : im_Cx p R s m args meth c A D y) {i : Fin 4} : im_SP p l e R s m args below meth c Q A D xs LL y (.aload_n i) := by
  intro pc nx a b c0 L st sh mi mr pc2 L2 st2 sh2 mi2 mr2 ad ca H locs cells slots ls hdec hle hok hdo hXF hHR hl hLn hcc hss kk
  obtain ⟨hx, hb, hml, hown, hts, hK, hA, hnm, hRf, hRl⟩ := C
  obtain rfl : nx = pc + 1 := Nat.eq_of_beq_eq_true hok
  have hdg : decode (im_code y) pc = .ok (.aload_n i, 1) := by rw [Nat.add_sub_cancel_left] at hdec; exact hdec
  simp only [im_do] at hdo
  split at hdo
  · rename_i x1 hx1
    simp only [im_nx, Option.some.injEq, Sum.inl.injEq, Prod.mk.injEq] at hdo
    obtain ⟨rfl, rfl, rfl, rfl, rfl, rfl⟩ := hdo
    refine lv_aload_n hx hb hdg rfl (im_lv_get hl hx1 (fun n q => Value.noConfusion q)) ?_
    exact kk ad ca H locs cells slots ls im_ag_rf hHR hl hLn rfl rfl
  · rename_i hx1
    simp only [im_nx, Option.some.injEq, Sum.inl.injEq, Prod.mk.injEq] at hdo
    obtain ⟨rfl, rfl, rfl, rfl, rfl, rfl⟩ := hdo
    refine lv_aload_nN hx hb hdg rfl (im_lv_get hl hx1 (fun n q => Value.noConfusion q)) ?_
    exact kk ad ca H locs cells slots ls im_ag_rf hHR hl hLn rfl rfl
  · cases hdo
theorem im_SP_istore (C : im_Cx p R s m args meth c A D y) {i : Nat} : im_SP p l e R s m args below meth c Q A D xs LL y (.istore i) := by
  intro pc nx a b c0 L st sh mi mr pc2 L2 st2 sh2 mi2 mr2 ad ca H locs cells slots ls hdec hle hok hdo hXF hHR hl hLn hcc hss kk
  obtain ⟨hx, hb, hml, hown, hts, hK, hA, hnm, hRf, hRl⟩ := C
  obtain rfl : nx = pc + 2 := Nat.eq_of_beq_eq_true hok
  have hdg : decode (im_code y) pc = .ok (.istore i, 2) := by rw [Nat.add_sub_cancel_left] at hdec; exact hdec
  simp only [im_do] at hdo
  split at hdo
  · rename_i x1 st1
    split at hdo
    · rename_i hi
      simp only [im_nx, Option.some.injEq, Sum.inl.injEq, Prod.mk.injEq] at hdo
      obtain ⟨rfl, rfl, rfl, rfl, rfl, rfl⟩ := hdo
      refine lv_istore hx hb hdg hl (show i < im_mx y by omega) rfl (fun ls2 hl2 => ?_)
      exact kk ad ca H locs cells slots ls2 im_ag_rf hHR (lv_mono hl2 (im_lv_set1 hi)) (by rw [im_set1_len]; exact hLn) rfl rfl
    · cases hdo
  · cases hdo
theorem im_SP_istore_n (C : im_Cx p R s m args meth c A D y) {i : Fin 4} : im_SP p l e R s m args below meth c Q A D xs LL y (.istore_n i) := by
  intro pc nx a b c0 L st sh mi mr pc2 L2 st2 sh2 mi2 mr2 ad ca H locs cells slots ls hdec hle hok hdo hXF hHR hl hLn hcc hss kk
  obtain ⟨hx, hb, hml, hown, hts, hK, hA, hnm, hRf, hRl⟩ := C
  obtain rfl : nx = pc + 1 := Nat.eq_of_beq_eq_true hok
  have hdg : decode (im_code y) pc = .ok (.istore_n i, 1) := by rw [Nat.add_sub_cancel_left] at hdec; exact hdec
  simp only [im_do] at hdo
  split at hdo
  · rename_i x1 st1
    split at hdo
    · rename_i hi
      simp only [im_nx, Option.some.injEq, Sum.inl.injEq, Prod.mk.injEq] at hdo
      obtain ⟨rfl, rfl, rfl, rfl, rfl, rfl⟩ := hdo
      refine lv_istore_n hx hb hdg rfl hl (show i.val < im_mx y by omega) rfl (fun ls2 hl2 => ?_)
      exact kk ad ca H locs cells slots ls2 im_ag_rf hHR (lv_mono hl2 (im_lv_set1 hi)) (by rw [im_set1_len]; exact hLn) rfl rfl
    · cases hdo
  · cases hdo
theorem im_SP_lstore (C : im_Cx p R s m args meth c A D y) {i : Nat} : im_SP p l e R s m args below meth c Q A D xs LL y (.lstore i) := by
  intro pc nx a b c0 L st sh mi mr pc2 L2 st2 sh2 mi2 mr2 ad ca H locs cells slots ls hdec hle hok hdo hXF hHR hl hLn hcc hss kk
  obtain ⟨hx, hb, hml, hown, hts, hK, hA, hnm, hRf, hRl⟩ := C
  obtain rfl : nx = pc + 2 := Nat.eq_of_beq_eq_true hok
  have hdg : decode (im_code y) pc = .ok (.lstore i, 2) := by rw [Nat.add_sub_cancel_left] at hdec; exact hdec
  simp only [im_do] at hdo
  split at hdo
  · rename_i x1 st1
    split at hdo
    · rename_i hi
      simp only [im_nx, Option.some.injEq, Sum.inl.injEq, Prod.mk.injEq] at hdo
      obtain ⟨rfl, rfl, rfl, rfl, rfl, rfl⟩ := hdo
      refine lv_lstore hx hb hdg hl (show i + 1 < im_mx y by omega) rfl (fun ls2 hl2 => ?_)
      exact kk ad ca H locs cells slots ls2 im_ag_rf hHR (lv_mono hl2 (im_lv_set2 hi)) (by rw [im_set2_len]; exact hLn) rfl rfl
    · cases hdo
  · cases hdo
theorem im_SP_lstore_n (C : im_Cx p R s m args meth c A D y) {i : Fin 4} : im_SP p l e R s m args below meth c Q A D xs LL y (.lstore_n i) := by
  intro pc nx a b c0 L st sh mi mr pc2 L2 st2 sh2 mi2 mr2 ad ca H locs cells slots ls hdec hle hok hdo hXF hHR hl hLn hcc hss kk
  obtain ⟨hx, hb, hml, hown, hts, hK, hA, hnm, hRf, hRl⟩ := C
  obtain rfl : nx = pc + 1 := Nat.eq_of_beq_eq_true hok
  have hdg : decode (im_code y) pc = .ok (.lstore_n i, 1) := by rw [Nat.add_sub_cancel_left] at hdec; exact hdec
  simp only [im_do] at hdo
  split at hdo
  · rename_i x1 st1
    split at hdo
    · rename_i hi
      simp only [im_nx, Option.some.injEq, Sum.inl.injEq, Prod.mk.injEq] at hdo
      obtain ⟨rfl, rfl, rfl, rfl, rfl, rfl⟩ := hdo
      refine lv_lstore_n hx hb hdg rfl hl (show i.val + 1 < im_mx y by omega) rfl (fun ls2 hl2 => ?_)
      exact kk ad ca H locs cells slots ls2 im_ag_rf hHR (lv_mono hl2 (im_lv_set2 hi)) (by rw [im_set2_len]; exact hLn) rfl rfl
    · cases hdo
  · cases hdo
theorem im_SP_astore (C : im_Cx p R s m args meth c A D y) {i : Nat} : im_SP p l e R s m args below meth c Q A D xs LL y (.astore i) := by
  intro pc nx a b c0 L st sh mi mr pc2 L2 st2 sh2 mi2 mr2 ad ca H locs cells slots ls hdec hle hok hdo hXF hHR hl hLn hcc hss kk
  obtain ⟨hx, hb, hml, hown, hts, hK, hA, hnm, hRf, hRl⟩ := C
  obtain rfl : nx = pc + 2 := Nat.eq_of_beq_eq_true hok
  have hdg : decode (im_code y) pc = .ok (.astore i, 2) := by rw [Nat.add_sub_cancel_left] at hdec; exact hdec
  simp only [im_do] at hdo
  split at hdo
  · rename_i x1 st1
    split at hdo
    · rename_i hi
      simp only [im_nx, Option.some.injEq, Sum.inl.injEq, Prod.mk.injEq] at hdo
      obtain ⟨rfl, rfl, rfl, rfl, rfl, rfl⟩ := hdo
      refine lv_astore hx hb hdg hl (show i < im_mx y by omega) rfl (fun ls2 hl2 => ?_)
      exact kk ad ca H locs cells slots ls2 im_ag_rf hHR (lv_mono hl2 (im_lv_set1 hi)) (by rw [im_set1_len]; exact hLn) rfl rfl
    · cases hdo
  · rename_i st1
    split at hdo
    · rename_i hi
      simp only [im_nx, Option.some.injEq, Sum.inl.injEq, Prod.mk.injEq] at hdo
      obtain ⟨rfl, rfl, rfl, rfl, rfl, rfl⟩ := hdo
      refine lv_astoreN hx hb hdg hl (show i < im_mx y by omega) rfl (fun ls2 hl2 => ?_)
      exact kk ad ca H locs cells slots ls2 im_ag_rf hHR (lv_mono hl2 (im_lv_set1 hi)) (by rw [im_set1_len]; exact hLn) rfl rfl
    · cases hdo
  · cases hdo
theorem im_SP_astore_n (C : im_Cx p R s m args meth c A D y) {i : Fin 4} : im_SP p l e R s m args below meth c Q A D xs LL y (.astore_n i) := by
  intro pc nx a b c0 L st sh mi mr pc2 L2 st2 sh2 mi2 mr2 ad ca H locs cells slots ls hdec hle hok hdo hXF hHR hl hLn hcc hss kk
  obtain ⟨hx, hb, hml, hown, hts, hK, hA, hnm, hRf, hRl⟩ := C
  obtain rfl : nx = pc + 1 := Nat.eq_of_beq_eq_true hok
  have hdg : decode (im_code y) pc = .ok (.astore_n i, 1) := by rw [Nat.add_sub_cancel_left] at hdec; exact hdec
  simp only [im_do] at hdo
  split at hdo
  · rename_i x1 st1
    split at hdo
    · rename_i hi
      simp only [im_nx, Option.some.injEq, Sum.inl.injEq, Prod.mk.injEq] at hdo
      obtain ⟨rfl, rfl, rfl, rfl, rfl, rfl⟩ := hdo
      refine lv_astore_n hx hb hdg rfl hl (show i.val < im_mx y by omega) rfl (fun ls2 hl2 => ?_)
      exact kk ad ca H locs cells slots ls2 im_ag_rf hHR (lv_mono hl2 (im_lv_set1 hi)) (by rw [im_set1_len]; exact hLn) rfl rfl
    · cases hdo
  · rename_i st1
    split at hdo
    · rename_i hi
      simp only [im_nx, Option.some.injEq, Sum.inl.injEq, Prod.mk.injEq] at hdo
      obtain ⟨rfl, rfl, rfl, rfl, rfl, rfl⟩ := hdo
      refine lv_astore_nN hx hb hdg rfl hl (show i.val < im_mx y by omega) rfl (fun ls2 hl2 => ?_)
      exact kk ad ca H locs cells slots ls2 im_ag_rf hHR (lv_mono hl2 (im_lv_set1 hi)) (by rw [im_set1_len]; exact hLn) rfl rfl
    · cases hdo
  · cases hdo
theorem im_SP_iinc (C : im_Cx p R s m args meth c A D y) {i : Nat} {n : Int} : im_SP p l e R s m args below meth c Q A D xs LL y (.iinc i n) := by
  intro pc nx a b c0 L st sh mi mr pc2 L2 st2 sh2 mi2 mr2 ad ca H locs cells slots ls hdec hle hok hdo hXF hHR hl hLn hcc hss kk
  obtain ⟨hx, hb, hml, hown, hts, hK, hA, hnm, hRf, hRl⟩ := C
  obtain rfl : nx = pc + 3 := Nat.eq_of_beq_eq_true hok
  have hdg : decode (im_code y) pc = .ok (.iinc i n, 3) := by rw [Nat.add_sub_cancel_left] at hdec; exact hdec
  simp only [im_do] at hdo
  split at hdo
  · rename_i x1 hx1
    simp only [im_nx, Option.some.injEq, Sum.inl.injEq, Prod.mk.injEq] at hdo
    obtain ⟨rfl, rfl, rfl, rfl, rfl, rfl⟩ := hdo
    have hi : i < L.length := (List.getElem?_eq_some_iff.mp hx1).1
    obtain ⟨k, hk⟩ := List.getElem?_of_mem (im_lv_mem (ad := ad).mpr ⟨_, hx1, (fun n q => Value.noConfusion q), rfl⟩)
    refine lv_iinc hx hb hdg hl hk rfl (show i < im_mx y by omega) rfl (fun ls2 hl2 => ?_)
    exact kk ad ca H locs cells slots ls2 im_ag_rf hHR (lv_mono hl2 (im_lv_set1 hi)) (by rw [im_set1_len]; exact hLn) rfl rfl
  · cases hdo
theorem im_SP_iadd (C : im_Cx p R s m args meth c A D y) : im_SP p l e R s m args below meth c Q A D xs LL y (.iadd) := by
  intro pc nx a b c0 L st sh mi mr pc2 L2 st2 sh2 mi2 mr2 ad ca H locs cells slots ls hdec hle hok hdo hXF hHR hl hLn hcc hss kk
  obtain ⟨hx, hb, hml, hown, hts, hK, hA, hnm, hRf, hRl⟩ := C
  obtain rfl : nx = pc + 1 := Nat.eq_of_beq_eq_true hok
  have hdg : decode (im_code y) pc = .ok (.iadd, 1) := by rw [Nat.add_sub_cancel_left] at hdec; exact hdec
  simp only [im_do] at hdo
  split at hdo
  · rename_i y1 x1 st1
    simp only [im_nx, Option.some.injEq, Sum.inl.injEq, Prod.mk.injEq] at hdo
    obtain ⟨rfl, rfl, rfl, rfl, rfl, rfl⟩ := hdo
    refine lv_iadd hx hb hdg ?_
    exact kk ad ca H locs cells slots ls im_ag_rf hHR hl hLn rfl rfl
  · cases hdo
theorem im_SP_isub (C : im_Cx p R s m args meth c A D y) : im_SP p l e R s m args below meth c Q A D xs LL y (.isub) := by
  intro pc nx a b c0 L st sh mi mr pc2 L2 st2 sh2 mi2 mr2 ad ca H locs cells slots ls hdec hle hok hdo hXF hHR hl hLn hcc hss kk
  obtain ⟨hx, hb, hml, hown, hts, hK, hA, hnm, hRf, hRl⟩ := C
  obtain rfl : nx = pc + 1 := Nat.eq_of_beq_eq_true hok
  have hdg : decode (im_code y) pc = .ok (.isub, 1) := by rw [Nat.add_sub_cancel_left] at hdec; exact hdec
  simp only [im_do] at hdo
  split at hdo
  · rename_i y1 x1 st1
    simp only [im_nx, Option.some.injEq, Sum.inl.injEq, Prod.mk.injEq] at hdo
    obtain ⟨rfl, rfl, rfl, rfl, rfl, rfl⟩ := hdo
    refine lv_isub hx hb hdg ?_
    exact kk ad ca H locs cells slots ls im_ag_rf hHR hl hLn rfl rfl
  · cases hdo
theorem im_SP_imul (C : im_Cx p R s m args meth c A D y) : im_SP p l e R s m args below meth c Q A D xs LL y (.imul) := by
  intro pc nx a b c0 L st sh mi mr pc2 L2 st2 sh2 mi2 mr2 ad ca H locs cells slots ls hdec hle hok hdo hXF hHR hl hLn hcc hss kk
  obtain ⟨hx, hb, hml, hown, hts, hK, hA, hnm, hRf, hRl⟩ := C
  obtain rfl : nx = pc + 1 := Nat.eq_of_beq_eq_true hok
  have hdg : decode (im_code y) pc = .ok (.imul, 1) := by rw [Nat.add_sub_cancel_left] at hdec; exact hdec
  simp only [im_do] at hdo
  split at hdo
  · rename_i y1 x1 st1
    simp only [im_nx, Option.some.injEq, Sum.inl.injEq, Prod.mk.injEq] at hdo
    obtain ⟨rfl, rfl, rfl, rfl, rfl, rfl⟩ := hdo
    refine lv_imul hx hb hdg ?_
    exact kk ad ca H locs cells slots ls im_ag_rf hHR hl hLn rfl rfl
  · cases hdo
theorem im_SP_iand (C : im_Cx p R s m args meth c A D y) : im_SP p l e R s m args below meth c Q A D xs LL y (.iand) := by
  intro pc nx a b c0 L st sh mi mr pc2 L2 st2 sh2 mi2 mr2 ad ca H locs cells slots ls hdec hle hok hdo hXF hHR hl hLn hcc hss kk
  obtain ⟨hx, hb, hml, hown, hts, hK, hA, hnm, hRf, hRl⟩ := C
  obtain rfl : nx = pc + 1 := Nat.eq_of_beq_eq_true hok
  have hdg : decode (im_code y) pc = .ok (.iand, 1) := by rw [Nat.add_sub_cancel_left] at hdec; exact hdec
  simp only [im_do] at hdo
  split at hdo
  · rename_i y1 x1 st1
    simp only [im_nx, Option.some.injEq, Sum.inl.injEq, Prod.mk.injEq] at hdo
    obtain ⟨rfl, rfl, rfl, rfl, rfl, rfl⟩ := hdo
    refine lv_iand hx hb hdg ?_
    exact kk ad ca H locs cells slots ls im_ag_rf hHR hl hLn rfl rfl
  · cases hdo
theorem im_SP_ior (C : im_Cx p R s m args meth c A D y) : im_SP p l e R s m args below meth c Q A D xs LL y (.ior) := by
  intro pc nx a b c0 L st sh mi mr pc2 L2 st2 sh2 mi2 mr2 ad ca H locs cells slots ls hdec hle hok hdo hXF hHR hl hLn hcc hss kk
  obtain ⟨hx, hb, hml, hown, hts, hK, hA, hnm, hRf, hRl⟩ := C
  obtain rfl : nx = pc + 1 := Nat.eq_of_beq_eq_true hok
  have hdg : decode (im_code y) pc = .ok (.ior, 1) := by rw [Nat.add_sub_cancel_left] at hdec; exact hdec
  simp only [im_do] at hdo
  split at hdo
  · rename_i y1 x1 st1
    simp only [im_nx, Option.some.injEq, Sum.inl.injEq, Prod.mk.injEq] at hdo
    obtain ⟨rfl, rfl, rfl, rfl, rfl, rfl⟩ := hdo
    refine lv_ior hx hb hdg ?_
    exact kk ad ca H locs cells slots ls im_ag_rf hHR hl hLn rfl rfl
  · cases hdo
theorem im_SP_ixor (C : im_Cx p R s m args meth c A D y) : im_SP p l e R s m args below meth c Q A D xs LL y (.ixor) := by
  intro pc nx a b c0 L st sh mi mr pc2 L2 st2 sh2 mi2 mr2 ad ca H locs cells slots ls hdec hle hok hdo hXF hHR hl hLn hcc hss kk
  obtain ⟨hx, hb, hml, hown, hts, hK, hA, hnm, hRf, hRl⟩ := C
  obtain rfl : nx = pc + 1 := Nat.eq_of_beq_eq_true hok
  have hdg : decode (im_code y) pc = .ok (.ixor, 1) := by rw [Nat.add_sub_cancel_left] at hdec; exact hdec
  simp only [im_do] at hdo
  split at hdo
  · rename_i y1 x1 st1
    simp only [im_nx, Option.some.injEq, Sum.inl.injEq, Prod.mk.injEq] at hdo
    obtain ⟨rfl, rfl, rfl, rfl, rfl, rfl⟩ := hdo
    refine lv_ixor hx hb hdg ?_
    exact kk ad ca H locs cells slots ls im_ag_rf hHR hl hLn rfl rfl
  · cases hdo
theorem im_SP_ishl (C : im_Cx p R s m args meth c A D y) : im_SP p l e R s m args below meth c Q A D xs LL y (.ishl) := by
  intro pc nx a b c0 L st sh mi mr pc2 L2 st2 sh2 mi2 mr2 ad ca H locs cells slots ls hdec hle hok hdo hXF hHR hl hLn hcc hss kk
  obtain ⟨hx, hb, hml, hown, hts, hK, hA, hnm, hRf, hRl⟩ := C
  obtain rfl : nx = pc + 1 := Nat.eq_of_beq_eq_true hok
  have hdg : decode (im_code y) pc = .ok (.ishl, 1) := by rw [Nat.add_sub_cancel_left] at hdec; exact hdec
  simp only [im_do] at hdo
  split at hdo
  · rename_i y1 x1 st1
    simp only [im_nx, Option.some.injEq, Sum.inl.injEq, Prod.mk.injEq] at hdo
    obtain ⟨rfl, rfl, rfl, rfl, rfl, rfl⟩ := hdo
    refine lv_ishl hx hb hdg ?_
    exact kk ad ca H locs cells slots ls im_ag_rf hHR hl hLn rfl rfl
  · cases hdo
theorem im_SP_ishr (C : im_Cx p R s m args meth c A D y) : im_SP p l e R s m args below meth c Q A D xs LL y (.ishr) := by
  intro pc nx a b c0 L st sh mi mr pc2 L2 st2 sh2 mi2 mr2 ad ca H locs cells slots ls hdec hle hok hdo hXF hHR hl hLn hcc hss kk
  obtain ⟨hx, hb, hml, hown, hts, hK, hA, hnm, hRf, hRl⟩ := C
  obtain rfl : nx = pc + 1 := Nat.eq_of_beq_eq_true hok
  have hdg : decode (im_code y) pc = .ok (.ishr, 1) := by rw [Nat.add_sub_cancel_left] at hdec; exact hdec
  simp only [im_do] at hdo
  split at hdo
  · rename_i y1 x1 st1
    simp only [im_nx, Option.some.injEq, Sum.inl.injEq, Prod.mk.injEq] at hdo
    obtain ⟨rfl, rfl, rfl, rfl, rfl, rfl⟩ := hdo
    refine lv_ishr hx hb hdg ?_
    exact kk ad ca H locs cells slots ls im_ag_rf hHR hl hLn rfl rfl
  · cases hdo
theorem im_SP_ladd (C : im_Cx p R s m args meth c A D y) : im_SP p l e R s m args below meth c Q A D xs LL y (.ladd) := by
  intro pc nx a b c0 L st sh mi mr pc2 L2 st2 sh2 mi2 mr2 ad ca H locs cells slots ls hdec hle hok hdo hXF hHR hl hLn hcc hss kk
  obtain ⟨hx, hb, hml, hown, hts, hK, hA, hnm, hRf, hRl⟩ := C
  obtain rfl : nx = pc + 1 := Nat.eq_of_beq_eq_true hok
  have hdg : decode (im_code y) pc = .ok (.ladd, 1) := by rw [Nat.add_sub_cancel_left] at hdec; exact hdec
  simp only [im_do] at hdo
  split at hdo
  · rename_i y1 x1 st1
    simp only [im_nx, Option.some.injEq, Sum.inl.injEq, Prod.mk.injEq] at hdo
    obtain ⟨rfl, rfl, rfl, rfl, rfl, rfl⟩ := hdo
    refine lv_ladd hx hb hdg ?_
    exact kk ad ca H locs cells slots ls im_ag_rf hHR hl hLn rfl rfl
  · cases hdo
theorem im_SP_lmul (C : im_Cx p R s m args meth c A D y) : im_SP p l e R s m args below meth c Q A D xs LL y (.lmul) := by
  intro pc nx a b c0 L st sh mi mr pc2 L2 st2 sh2 mi2 mr2 ad ca H locs cells slots ls hdec hle hok hdo hXF hHR hl hLn hcc hss kk
  obtain ⟨hx, hb, hml, hown, hts, hK, hA, hnm, hRf, hRl⟩ := C
  obtain rfl : nx = pc + 1 := Nat.eq_of_beq_eq_true hok
  have hdg : decode (im_code y) pc = .ok (.lmul, 1) := by rw [Nat.add_sub_cancel_left] at hdec; exact hdec
  simp only [im_do] at hdo
  split at hdo
  · rename_i y1 x1 st1
    simp only [im_nx, Option.some.injEq, Sum.inl.injEq, Prod.mk.injEq] at hdo
    obtain ⟨rfl, rfl, rfl, rfl, rfl, rfl⟩ := hdo
    refine lv_lmul hx hb hdg ?_
    exact kk ad ca H locs cells slots ls im_ag_rf hHR hl hLn rfl rfl
  · cases hdo
theorem im_SP_iushr (C : im_Cx p R s m args meth c A D y) : im_SP p l e R s m args below meth c Q A D xs LL y (.iushr) := by
  intro pc nx a b c0 L st sh mi mr pc2 L2 st2 sh2 mi2 mr2 ad ca H locs cells slots ls hdec hle hok hdo hXF hHR hl hLn hcc hss kk
  obtain ⟨hx, hb, hml, hown, hts, hK, hA, hnm, hRf, hRl⟩ := C
  obtain rfl : nx = pc + 1 := Nat.eq_of_beq_eq_true hok
  have hdg : decode (im_code y) pc = .ok (.iushr, 1) := by rw [Nat.add_sub_cancel_left] at hdec; exact hdec
  simp only [im_do] at hdo
  split at hdo
  · rename_i y1 x1 st1
    simp only [im_nx, Option.some.injEq, Sum.inl.injEq, Prod.mk.injEq] at hdo
    obtain ⟨rfl, rfl, rfl, rfl, rfl, rfl⟩ := hdo
    refine lv_iushr hx hb hdg rfl ?_
    exact kk ad ca H locs cells slots ls im_ag_rf hHR hl hLn rfl rfl
  · cases hdo
theorem im_SP_lcmp (C : im_Cx p R s m args meth c A D y) : im_SP p l e R s m args below meth c Q A D xs LL y (.lcmp) := by
  intro pc nx a b c0 L st sh mi mr pc2 L2 st2 sh2 mi2 mr2 ad ca H locs cells slots ls hdec hle hok hdo hXF hHR hl hLn hcc hss kk
  obtain ⟨hx, hb, hml, hown, hts, hK, hA, hnm, hRf, hRl⟩ := C
  obtain rfl : nx = pc + 1 := Nat.eq_of_beq_eq_true hok
  have hdg : decode (im_code y) pc = .ok (.lcmp, 1) := by rw [Nat.add_sub_cancel_left] at hdec; exact hdec
  simp only [im_do] at hdo
  split at hdo
  · rename_i y1 x1 st1
    simp only [im_nx, Option.some.injEq, Sum.inl.injEq, Prod.mk.injEq] at hdo
    obtain ⟨rfl, rfl, rfl, rfl, rfl, rfl⟩ := hdo
    refine W.lcmp hx hb hdg ?_
    exact kk ad ca H locs cells slots ls im_ag_rf hHR hl hLn rfl rfl
  · cases hdo
theorem im_SP_idiv (C : im_Cx p R s m args meth c A D y) : im_SP p l e R s m args below meth c Q A D xs LL y (.idiv) := by
  intro pc nx a b c0 L st sh mi mr pc2 L2 st2 sh2 mi2 mr2 ad ca H locs cells slots ls hdec hle hok hdo hXF hHR hl hLn hcc hss kk
  obtain ⟨hx, hb, hml, hown, hts, hK, hA, hnm, hRf, hRl⟩ := C
  obtain rfl : nx = pc + 1 := Nat.eq_of_beq_eq_true hok
  have hdg : decode (im_code y) pc = .ok (.idiv, 1) := by rw [Nat.add_sub_cancel_left] at hdec; exact hdec
  simp only [im_do] at hdo
  split at hdo
  · rename_i y1 x1 st1
    split at hdo
    · cases hdo
    rename_i hne
    simp only [im_nx, Option.some.injEq, Sum.inl.injEq, Prod.mk.injEq] at hdo
    obtain ⟨rfl, rfl, rfl, rfl, rfl, rfl⟩ := hdo
    refine lv_idiv hx hb hdg hne ?_
    exact kk ad ca H locs cells slots ls im_ag_rf hHR hl hLn rfl rfl
  · cases hdo
theorem im_SP_irem (C : im_Cx p R s m args meth c A D y) : im_SP p l e R s m args below meth c Q A D xs LL y (.irem) := by
  intro pc nx a b c0 L st sh mi mr pc2 L2 st2 sh2 mi2 mr2 ad ca H locs cells slots ls hdec hle hok hdo hXF hHR hl hLn hcc hss kk
  obtain ⟨hx, hb, hml, hown, hts, hK, hA, hnm, hRf, hRl⟩ := C
  obtain rfl : nx = pc + 1 := Nat.eq_of_beq_eq_true hok
  have hdg : decode (im_code y) pc = .ok (.irem, 1) := by rw [Nat.add_sub_cancel_left] at hdec; exact hdec
  simp only [im_do] at hdo
  split at hdo
  · rename_i y1 x1 st1
    split at hdo
    · cases hdo
    rename_i hne
    simp only [im_nx, Option.some.injEq, Sum.inl.injEq, Prod.mk.injEq] at hdo
    obtain ⟨rfl, rfl, rfl, rfl, rfl, rfl⟩ := hdo
    refine lv_irem hx hb hdg hne ?_
    exact kk ad ca H locs cells slots ls im_ag_rf hHR hl hLn rfl rfl
  · cases hdo
theorem im_SP_ldiv (C : im_Cx p R s m args meth c A D y) : im_SP p l e R s m args below meth c Q A D xs LL y (.ldiv) := by
  intro pc nx a b c0 L st sh mi mr pc2 L2 st2 sh2 mi2 mr2 ad ca H locs cells slots ls hdec hle hok hdo hXF hHR hl hLn hcc hss kk
  obtain ⟨hx, hb, hml, hown, hts, hK, hA, hnm, hRf, hRl⟩ := C
  obtain rfl : nx = pc + 1 := Nat.eq_of_beq_eq_true hok
  have hdg : decode (im_code y) pc = .ok (.ldiv, 1) := by rw [Nat.add_sub_cancel_left] at hdec; exact hdec
  simp only [im_do] at hdo
  split at hdo
  · rename_i y1 x1 st1
    split at hdo
    · cases hdo
    rename_i hne
    simp only [im_nx, Option.some.injEq, Sum.inl.injEq, Prod.mk.injEq] at hdo
    obtain ⟨rfl, rfl, rfl, rfl, rfl, rfl⟩ := hdo
    refine lv_ldiv hx hb hdg hne ?_
    exact kk ad ca H locs cells slots ls im_ag_rf hHR hl hLn rfl rfl
  · cases hdo
theorem im_SP_lrem (C : im_Cx p R s m args meth c A D y) : im_SP p l e R s m args below meth c Q A D xs LL y (.lrem) := by
  intro pc nx a b c0 L st sh mi mr pc2 L2 st2 sh2 mi2 mr2 ad ca H locs cells slots ls hdec hle hok hdo hXF hHR hl hLn hcc hss kk
  obtain ⟨hx, hb, hml, hown, hts, hK, hA, hnm, hRf, hRl⟩ := C
  obtain rfl : nx = pc + 1 := Nat.eq_of_beq_eq_true hok
  have hdg : decode (im_code y) pc = .ok (.lrem, 1) := by rw [Nat.add_sub_cancel_left] at hdec; exact hdec
  simp only [im_do] at hdo
  split at hdo
  · rename_i y1 x1 st1
    split at hdo
    · cases hdo
    rename_i hne
    simp only [im_nx, Option.some.injEq, Sum.inl.injEq, Prod.mk.injEq] at hdo
    obtain ⟨rfl, rfl, rfl, rfl, rfl, rfl⟩ := hdo
    refine lv_lrem hx hb hdg hne ?_
    exact kk ad ca H locs cells slots ls im_ag_rf hHR hl hLn rfl rfl
  · cases hdo
theorem im_SP_ineg (C : im_Cx p R s m args meth c A D y) : im_SP p l e R s m args below meth c Q A D xs LL y (.ineg) := by
  intro pc nx a b c0 L st sh mi mr pc2 L2 st2 sh2 mi2 mr2 ad ca H locs cells slots ls hdec hle hok hdo hXF hHR hl hLn hcc hss kk
  obtain ⟨hx, hb, hml, hown, hts, hK, hA, hnm, hRf, hRl⟩ := C
  obtain rfl : nx = pc + 1 := Nat.eq_of_beq_eq_true hok
  have hdg : decode (im_code y) pc = .ok (.ineg, 1) := by rw [Nat.add_sub_cancel_left] at hdec; exact hdec
  simp only [im_do] at hdo
  split at hdo
  · rename_i x1 st1
    simp only [im_nx, Option.some.injEq, Sum.inl.injEq, Prod.mk.injEq] at hdo
    obtain ⟨rfl, rfl, rfl, rfl, rfl, rfl⟩ := hdo
    refine lv_ineg hx hb hdg ?_
    exact kk ad ca H locs cells slots ls im_ag_rf hHR hl hLn rfl rfl
  · cases hdo
theorem im_SP_i2l (C : im_Cx p R s m args meth c A D y) : im_SP p l e R s m args below meth c Q A D xs LL y (.i2l) := by
  intro pc nx a b c0 L st sh mi mr pc2 L2 st2 sh2 mi2 mr2 ad ca H locs cells slots ls hdec hle hok hdo hXF hHR hl hLn hcc hss kk
  obtain ⟨hx, hb, hml, hown, hts, hK, hA, hnm, hRf, hRl⟩ := C
  obtain rfl : nx = pc + 1 := Nat.eq_of_beq_eq_true hok
  have hdg : decode (im_code y) pc = .ok (.i2l, 1) := by rw [Nat.add_sub_cancel_left] at hdec; exact hdec
  simp only [im_do] at hdo
  split at hdo
  · rename_i x1 st1
    simp only [im_nx, Option.some.injEq, Sum.inl.injEq, Prod.mk.injEq] at hdo
    obtain ⟨rfl, rfl, rfl, rfl, rfl, rfl⟩ := hdo
    refine lv_i2l hx hb hdg rfl ?_
    exact kk ad ca H locs cells slots ls im_ag_rf hHR hl hLn rfl rfl
  · cases hdo
theorem im_SP_i2b (C : im_Cx p R s m args meth c A D y) : im_SP p l e R s m args below meth c Q A D xs LL y (.i2b) := by
  intro pc nx a b c0 L st sh mi mr pc2 L2 st2 sh2 mi2 mr2 ad ca H locs cells slots ls hdec hle hok hdo hXF hHR hl hLn hcc hss kk
  obtain ⟨hx, hb, hml, hown, hts, hK, hA, hnm, hRf, hRl⟩ := C
  obtain rfl : nx = pc + 1 := Nat.eq_of_beq_eq_true hok
  have hdg : decode (im_code y) pc = .ok (.i2b, 1) := by rw [Nat.add_sub_cancel_left] at hdec; exact hdec
  simp only [im_do] at hdo
  split at hdo
  · rename_i x1 st1
    simp only [im_nx, Option.some.injEq, Sum.inl.injEq, Prod.mk.injEq] at hdo
    obtain ⟨rfl, rfl, rfl, rfl, rfl, rfl⟩ := hdo
    refine lv_i2b hx hb hdg rfl ?_
    exact kk ad ca H locs cells slots ls im_ag_rf hHR hl hLn rfl rfl
  · cases hdo
theorem im_SP_i2s (C : im_Cx p R s m args meth c A D y) : im_SP p l e R s m args below meth c Q A D xs LL y (.i2s) := by
  intro pc nx a b c0 L st sh mi mr pc2 L2 st2 sh2 mi2 mr2 ad ca H locs cells slots ls hdec hle hok hdo hXF hHR hl hLn hcc hss kk
  obtain ⟨hx, hb, hml, hown, hts, hK, hA, hnm, hRf, hRl⟩ := C
  obtain rfl : nx = pc + 1 := Nat.eq_of_beq_eq_true hok
  have hdg : decode (im_code y) pc = .ok (.i2s, 1) := by rw [Nat.add_sub_cancel_left] at hdec; exact hdec
  simp only [im_do] at hdo
  split at hdo
  · rename_i x1 st1
    simp only [im_nx, Option.some.injEq, Sum.inl.injEq, Prod.mk.injEq] at hdo
    obtain ⟨rfl, rfl, rfl, rfl, rfl, rfl⟩ := hdo
    refine lv_i2s hx hb hdg rfl ?_
    exact kk ad ca H locs cells slots ls im_ag_rf hHR hl hLn rfl rfl
  · cases hdo
theorem im_SP_i2c (C : im_Cx p R s m args meth c A D y) : im_SP p l e R s m args below meth c Q A D xs LL y (.i2c) := by
  intro pc nx a b c0 L st sh mi mr pc2 L2 st2 sh2 mi2 mr2 ad ca H locs cells slots ls hdec hle hok hdo hXF hHR hl hLn hcc hss kk
  obtain ⟨hx, hb, hml, hown, hts, hK, hA, hnm, hRf, hRl⟩ := C
  obtain rfl : nx = pc + 1 := Nat.eq_of_beq_eq_true hok
  have hdg : decode (im_code y) pc = .ok (.i2c, 1) := by rw [Nat.add_sub_cancel_left] at hdec; exact hdec
  simp only [im_do] at hdo
  split at hdo
  · rename_i x1 st1
    simp only [im_nx, Option.some.injEq, Sum.inl.injEq, Prod.mk.injEq] at hdo
    obtain ⟨rfl, rfl, rfl, rfl, rfl, rfl⟩ := hdo
    refine lv_i2c hx hb hdg rfl ?_
    exact kk ad ca H locs cells slots ls im_ag_rf hHR hl hLn rfl rfl
  · cases hdo
theorem im_SP_pop (C : im_Cx p R s m args meth c A D y) : im_SP p l e R s m args below meth c Q A D xs LL y (.pop) := by
  intro pc nx a b c0 L st sh mi mr pc2 L2 st2 sh2 mi2 mr2 ad ca H locs cells slots ls hdec hle hok hdo hXF hHR hl hLn hcc hss kk
  obtain ⟨hx, hb, hml, hown, hts, hK, hA, hnm, hRf, hRl⟩ := C
  obtain rfl : nx = pc + 1 := Nat.eq_of_beq_eq_true hok
  have hdg : decode (im_code y) pc = .ok (.pop, 1) := by rw [Nat.add_sub_cancel_left] at hdec; exact hdec
  simp only [im_do] at hdo
  split at hdo
  · rename_i v1 st1
    split at hdo
    · rename_i hc
      simp only [im_nx, Option.some.injEq, Sum.inl.injEq, Prod.mk.injEq] at hdo
      obtain ⟨rfl, rfl, rfl, rfl, rfl, rfl⟩ := hdo
      refine lv_pop hx hb hdg (by rw [im_tr_cat]; exact hc) ?_
      exact kk ad ca H locs cells slots ls im_ag_rf hHR hl hLn rfl rfl
    · cases hdo
  · cases hdo
theorem im_SP_dup (C : im_Cx p R s m args meth c A D y) : im_SP p l e R s m args below meth c Q A D xs LL y (.dup) := by
  intro pc nx a b c0 L st sh mi mr pc2 L2 st2 sh2 mi2 mr2 ad ca H locs cells slots ls hdec hle hok hdo hXF hHR hl hLn hcc hss kk
  obtain ⟨hx, hb, hml, hown, hts, hK, hA, hnm, hRf, hRl⟩ := C
  obtain rfl : nx = pc + 1 := Nat.eq_of_beq_eq_true hok
  have hdg : decode (im_code y) pc = .ok (.dup, 1) := by rw [Nat.add_sub_cancel_left] at hdec; exact hdec
  simp only [im_do] at hdo
  split at hdo
  · rename_i v1 st1
    split at hdo
    · rename_i hc
      simp only [im_nx, Option.some.injEq, Sum.inl.injEq, Prod.mk.injEq] at hdo
      obtain ⟨rfl, rfl, rfl, rfl, rfl, rfl⟩ := hdo
      refine lv_dup hx hb hdg (by rw [im_tr_cat]; exact hc) ?_
      exact kk ad ca H locs cells slots ls im_ag_rf hHR hl hLn rfl rfl
    · cases hdo
  · cases hdo
theorem im_SP_dup_x1 (C : im_Cx p R s m args meth c A D y) : im_SP p l e R s m args below meth c Q A D xs LL y (.dup_x1) := by
  intro pc nx a b c0 L st sh mi mr pc2 L2 st2 sh2 mi2 mr2 ad ca H locs cells slots ls hdec hle hok hdo hXF hHR hl hLn hcc hss kk
  obtain ⟨hx, hb, hml, hown, hts, hK, hA, hnm, hRf, hRl⟩ := C
  obtain rfl : nx = pc + 1 := Nat.eq_of_beq_eq_true hok
  have hdg : decode (im_code y) pc = .ok (.dup_x1, 1) := by rw [Nat.add_sub_cancel_left] at hdec; exact hdec
  simp only [im_do] at hdo
  split at hdo
  · rename_i v1 w1 st1
    split at hdo
    · rename_i hc
      simp only [im_nx, Option.some.injEq, Sum.inl.injEq, Prod.mk.injEq] at hdo
      obtain ⟨rfl, rfl, rfl, rfl, rfl, rfl⟩ := hdo
      refine lv_dup_x1 hx hb hdg (by rw [im_tr_cat]; exact hc.1) (by rw [im_tr_cat]; exact hc.2) ?_
      exact kk ad ca H locs cells slots ls im_ag_rf hHR hl hLn rfl rfl
    · cases hdo
  · cases hdo
theorem im_SP_dup2 (C : im_Cx p R s m args meth c A D y) : im_SP p l e R s m args below meth c Q A D xs LL y (.dup2) := by
  intro pc nx a b c0 L st sh mi mr pc2 L2 st2 sh2 mi2 mr2 ad ca H locs cells slots ls hdec hle hok hdo hXF hHR hl hLn hcc hss kk
  obtain ⟨hx, hb, hml, hown, hts, hK, hA, hnm, hRf, hRl⟩ := C
  obtain rfl : nx = pc + 1 := Nat.eq_of_beq_eq_true hok
  have hdg : decode (im_code y) pc = .ok (.dup2, 1) := by rw [Nat.add_sub_cancel_left] at hdec; exact hdec
  simp only [im_do] at hdo
  split at hdo
  · rename_i v1 w1 st1
    split at hdo
    · rename_i hc
      simp only [im_nx, Option.some.injEq, Sum.inl.injEq, Prod.mk.injEq] at hdo
      obtain ⟨rfl, rfl, rfl, rfl, rfl, rfl⟩ := hdo
      refine lv_dup2_11 hx hb hdg (by rw [im_tr_cat]; exact hc.1) (by rw [im_tr_cat]; exact hc.2) ?_
      exact kk ad ca H locs cells slots ls im_ag_rf hHR hl hLn rfl rfl
    · cases hdo
  · cases hdo
theorem im_SP_if_eq (C : im_Cx p R s m args meth c A D y) {off : Int} : im_SP p l e R s m args below meth c Q A D xs LL y (.ifCond .eq off) := by
  intro pc nx a b c0 L st sh mi mr pc2 L2 st2 sh2 mi2 mr2 ad ca H locs cells slots ls hdec hle hok hdo hXF hHR hl hLn hcc hss kk
  obtain ⟨hx, hb, hml, hown, hts, hK, hA, hnm, hRf, hRl⟩ := C
  simp only [im_okR, Bool.and_eq_true, decide_eq_true_eq] at hok
  obtain ⟨hok1, htg⟩ := hok
  obtain rfl : nx = pc + 3 := Nat.eq_of_beq_eq_true hok1
  have hdg : decode (im_code y) pc = .ok (.ifCond .eq off, 3) := by rw [Nat.add_sub_cancel_left] at hdec; exact hdec
  simp only [im_do] at hdo
  split at hdo
  · rename_i x1 st1
    have e : im_br .eq x1 0 = true ↔ (x1 = 0) := by simp only [im_br, decide_eq_true_eq]
    refine lv_if_eq (tgt := a) hx hb hdg htg (fun hc => ?_) (fun hc => ?_)
    · rw [if_pos (e.mpr hc)] at hdo
      simp only [im_nx, Option.some.injEq, Sum.inl.injEq, Prod.mk.injEq] at hdo
      obtain ⟨rfl, rfl, rfl, rfl, rfl, rfl⟩ := hdo
      exact kk ad ca H locs cells slots ls im_ag_rf hHR hl hLn rfl rfl
    · rw [if_neg (fun q => hc (e.mp q))] at hdo
      simp only [im_nx, Option.some.injEq, Sum.inl.injEq, Prod.mk.injEq] at hdo
      obtain ⟨rfl, rfl, rfl, rfl, rfl, rfl⟩ := hdo
      exact kk ad ca H locs cells slots ls im_ag_rf hHR hl hLn rfl rfl
  · cases hdo
theorem im_SP_icmp_eq (C : im_Cx p R s m args meth c A D y) {off : Int} : im_SP p l e R s m args below meth c Q A D xs LL y (.if_icmp .eq off) := by
  intro pc nx a b c0 L st sh mi mr pc2 L2 st2 sh2 mi2 mr2 ad ca H locs cells slots ls hdec hle hok hdo hXF hHR hl hLn hcc hss kk
  obtain ⟨hx, hb, hml, hown, hts, hK, hA, hnm, hRf, hRl⟩ := C
  simp only [im_okR, Bool.and_eq_true, decide_eq_true_eq] at hok
  obtain ⟨hok1, htg⟩ := hok
  obtain rfl : nx = pc + 3 := Nat.eq_of_beq_eq_true hok1
  have hdg : decode (im_code y) pc = .ok (.if_icmp .eq off, 3) := by rw [Nat.add_sub_cancel_left] at hdec; exact hdec
  simp only [im_do] at hdo
  split at hdo
  · rename_i y1 x1 st1
    have e : im_br .eq x1 y1 = true ↔ (x1 = y1) := by simp only [im_br, decide_eq_true_eq]
    refine lv_icmp_eq (tgt := a) hx hb hdg htg (fun hc => ?_) (fun hc => ?_)
    · rw [if_pos (e.mpr hc)] at hdo
      simp only [im_nx, Option.some.injEq, Sum.inl.injEq, Prod.mk.injEq] at hdo
      obtain ⟨rfl, rfl, rfl, rfl, rfl, rfl⟩ := hdo
      exact kk ad ca H locs cells slots ls im_ag_rf hHR hl hLn rfl rfl
    · rw [if_neg (fun q => hc (e.mp q))] at hdo
      simp only [im_nx, Option.some.injEq, Sum.inl.injEq, Prod.mk.injEq] at hdo
      obtain ⟨rfl, rfl, rfl, rfl, rfl, rfl⟩ := hdo
      exact kk ad ca H locs cells slots ls im_ag_rf hHR hl hLn rfl rfl
  · cases hdo
theorem im_SP_if_ne (C : im_Cx p R s m args meth c A D y) {off : Int} : im_SP p l e R s m args below meth c Q A D xs LL y (.ifCond .ne off) := by
  intro pc nx a b c0 L st sh mi mr pc2 L2 st2 sh2 mi2 mr2 ad ca H locs cells slots ls hdec hle hok hdo hXF hHR hl hLn hcc hss kk
  obtain ⟨hx, hb, hml, hown, hts, hK, hA, hnm, hRf, hRl⟩ := C
  simp only [im_okR, Bool.and_eq_true, decide_eq_true_eq] at hok
  obtain ⟨hok1, htg⟩ := hok
  obtain rfl : nx = pc + 3 := Nat.eq_of_beq_eq_true hok1
  have hdg : decode (im_code y) pc = .ok (.ifCond .ne off, 3) := by rw [Nat.add_sub_cancel_left] at hdec; exact hdec
  simp only [im_do] at hdo
  split at hdo
  · rename_i x1 st1
    have e : im_br .ne x1 0 = true ↔ (¬ x1 = 0) := by simp only [im_br, decide_eq_true_eq]
    refine lv_if_ne (tgt := a) hx hb hdg htg (fun hc => ?_) (fun hc => ?_)
    · rw [if_pos (e.mpr hc)] at hdo
      simp only [im_nx, Option.some.injEq, Sum.inl.injEq, Prod.mk.injEq] at hdo
      obtain ⟨rfl, rfl, rfl, rfl, rfl, rfl⟩ := hdo
      exact kk ad ca H locs cells slots ls im_ag_rf hHR hl hLn rfl rfl
    · rw [if_neg (fun q => (e.mp q) hc)] at hdo
      simp only [im_nx, Option.some.injEq, Sum.inl.injEq, Prod.mk.injEq] at hdo
      obtain ⟨rfl, rfl, rfl, rfl, rfl, rfl⟩ := hdo
      exact kk ad ca H locs cells slots ls im_ag_rf hHR hl hLn rfl rfl
  · cases hdo
theorem im_SP_icmp_ne (C : im_Cx p R s m args meth c A D y) {off : Int} : im_SP p l e R s m args below meth c Q A D xs LL y (.if_icmp .ne off) := by
  intro pc nx a b c0 L st sh mi mr pc2 L2 st2 sh2 mi2 mr2 ad ca H locs cells slots ls hdec hle hok hdo hXF hHR hl hLn hcc hss kk
  obtain ⟨hx, hb, hml, hown, hts, hK, hA, hnm, hRf, hRl⟩ := C
  simp only [im_okR, Bool.and_eq_true, decide_eq_true_eq] at hok
  obtain ⟨hok1, htg⟩ := hok
  obtain rfl : nx = pc + 3 := Nat.eq_of_beq_eq_true hok1
  have hdg : decode (im_code y) pc = .ok (.if_icmp .ne off, 3) := by rw [Nat.add_sub_cancel_left] at hdec; exact hdec
  simp only [im_do] at hdo
  split at hdo
  · rename_i y1 x1 st1
    have e : im_br .ne x1 y1 = true ↔ (¬ x1 = y1) := by simp only [im_br, decide_eq_true_eq]
    refine lv_icmp_ne (tgt := a) hx hb hdg htg (fun hc => ?_) (fun hc => ?_)
    · rw [if_pos (e.mpr hc)] at hdo
      simp only [im_nx, Option.some.injEq, Sum.inl.injEq, Prod.mk.injEq] at hdo
      obtain ⟨rfl, rfl, rfl, rfl, rfl, rfl⟩ := hdo
      exact kk ad ca H locs cells slots ls im_ag_rf hHR hl hLn rfl rfl
    · rw [if_neg (fun q => (e.mp q) hc)] at hdo
      simp only [im_nx, Option.some.injEq, Sum.inl.injEq, Prod.mk.injEq] at hdo
      obtain ⟨rfl, rfl, rfl, rfl, rfl, rfl⟩ := hdo
      exact kk ad ca H locs cells slots ls im_ag_rf hHR hl hLn rfl rfl
  · cases hdo
theorem im_SP_if_lt (C : im_Cx p R s m args meth c A D y) {off : Int} : im_SP p l e R s m args below meth c Q A D xs LL y (.ifCond .lt off) := by
  intro pc nx a b c0 L st sh mi mr pc2 L2 st2 sh2 mi2 mr2 ad ca H locs cells slots ls hdec hle hok hdo hXF hHR hl hLn hcc hss kk
  obtain ⟨hx, hb, hml, hown, hts, hK, hA, hnm, hRf, hRl⟩ := C
  simp only [im_okR, Bool.and_eq_true, decide_eq_true_eq] at hok
  obtain ⟨hok1, htg⟩ := hok
  obtain rfl : nx = pc + 3 := Nat.eq_of_beq_eq_true hok1
  have hdg : decode (im_code y) pc = .ok (.ifCond .lt off, 3) := by rw [Nat.add_sub_cancel_left] at hdec; exact hdec
  simp only [im_do] at hdo
  split at hdo
  · rename_i x1 st1
    have e : im_br .lt x1 0 = true ↔ (x1 < 0) := by simp only [im_br, decide_eq_true_eq]
    refine lv_if_lt (tgt := a) hx hb hdg htg (fun hc => ?_) (fun hc => ?_)
    · rw [if_pos (e.mpr hc)] at hdo
      simp only [im_nx, Option.some.injEq, Sum.inl.injEq, Prod.mk.injEq] at hdo
      obtain ⟨rfl, rfl, rfl, rfl, rfl, rfl⟩ := hdo
      exact kk ad ca H locs cells slots ls im_ag_rf hHR hl hLn rfl rfl
    · rw [if_neg (fun q => hc (e.mp q))] at hdo
      simp only [im_nx, Option.some.injEq, Sum.inl.injEq, Prod.mk.injEq] at hdo
      obtain ⟨rfl, rfl, rfl, rfl, rfl, rfl⟩ := hdo
      exact kk ad ca H locs cells slots ls im_ag_rf hHR hl hLn rfl rfl
  · cases hdo
theorem im_SP_icmp_lt (C : im_Cx p R s m args meth c A D y) {off : Int} : im_SP p l e R s m args below meth c Q A D xs LL y (.if_icmp .lt off) := by
  intro pc nx a b c0 L st sh mi mr pc2 L2 st2 sh2 mi2 mr2 ad ca H locs cells slots ls hdec hle hok hdo hXF hHR hl hLn hcc hss kk
  obtain ⟨hx, hb, hml, hown, hts, hK, hA, hnm, hRf, hRl⟩ := C
  simp only [im_okR, Bool.and_eq_true, decide_eq_true_eq] at hok
  obtain ⟨hok1, htg⟩ := hok
  obtain rfl : nx = pc + 3 := Nat.eq_of_beq_eq_true hok1
  have hdg : decode (im_code y) pc = .ok (.if_icmp .lt off, 3) := by rw [Nat.add_sub_cancel_left] at hdec; exact hdec
  simp only [im_do] at hdo
  split at hdo
  · rename_i y1 x1 st1
    have e : im_br .lt x1 y1 = true ↔ (x1 < y1) := by simp only [im_br, decide_eq_true_eq]
    refine lv_icmp_lt (tgt := a) hx hb hdg htg (fun hc => ?_) (fun hc => ?_)
    · rw [if_pos (e.mpr hc)] at hdo
      simp only [im_nx, Option.some.injEq, Sum.inl.injEq, Prod.mk.injEq] at hdo
      obtain ⟨rfl, rfl, rfl, rfl, rfl, rfl⟩ := hdo
      exact kk ad ca H locs cells slots ls im_ag_rf hHR hl hLn rfl rfl
    · rw [if_neg (fun q => hc (e.mp q))] at hdo
      simp only [im_nx, Option.some.injEq, Sum.inl.injEq, Prod.mk.injEq] at hdo
      obtain ⟨rfl, rfl, rfl, rfl, rfl, rfl⟩ := hdo
      exact kk ad ca H locs cells slots ls im_ag_rf hHR hl hLn rfl rfl
  · cases hdo
theorem im_SP_if_ge (C : im_Cx p R s m args meth c A D y) {off : Int} : im_SP p l e R s m args below meth c Q A D xs LL y (.ifCond .ge off) := by
  intro pc nx a b c0 L st sh mi mr pc2 L2 st2 sh2 mi2 mr2 ad ca H locs cells slots ls hdec hle hok hdo hXF hHR hl hLn hcc hss kk
  obtain ⟨hx, hb, hml, hown, hts, hK, hA, hnm, hRf, hRl⟩ := C
  simp only [im_okR, Bool.and_eq_true, decide_eq_true_eq] at hok
  obtain ⟨hok1, htg⟩ := hok
  obtain rfl : nx = pc + 3 := Nat.eq_of_beq_eq_true hok1
  have hdg : decode (im_code y) pc = .ok (.ifCond .ge off, 3) := by rw [Nat.add_sub_cancel_left] at hdec; exact hdec
  simp only [im_do] at hdo
  split at hdo
  · rename_i x1 st1
    have e : im_br .ge x1 0 = true ↔ (0 ≤ x1) := by simp only [im_br, decide_eq_true_eq]
    refine lv_if_ge (tgt := a) hx hb hdg htg (fun hc => ?_) (fun hc => ?_)
    · rw [if_pos (e.mpr hc)] at hdo
      simp only [im_nx, Option.some.injEq, Sum.inl.injEq, Prod.mk.injEq] at hdo
      obtain ⟨rfl, rfl, rfl, rfl, rfl, rfl⟩ := hdo
      exact kk ad ca H locs cells slots ls im_ag_rf hHR hl hLn rfl rfl
    · rw [if_neg (fun q => hc (e.mp q))] at hdo
      simp only [im_nx, Option.some.injEq, Sum.inl.injEq, Prod.mk.injEq] at hdo
      obtain ⟨rfl, rfl, rfl, rfl, rfl, rfl⟩ := hdo
      exact kk ad ca H locs cells slots ls im_ag_rf hHR hl hLn rfl rfl
  · cases hdo
theorem im_SP_icmp_ge (C : im_Cx p R s m args meth c A D y) {off : Int} : im_SP p l e R s m args below meth c Q A D xs LL y (.if_icmp .ge off) := by
  intro pc nx a b c0 L st sh mi mr pc2 L2 st2 sh2 mi2 mr2 ad ca H locs cells slots ls hdec hle hok hdo hXF hHR hl hLn hcc hss kk
  obtain ⟨hx, hb, hml, hown, hts, hK, hA, hnm, hRf, hRl⟩ := C
  simp only [im_okR, Bool.and_eq_true, decide_eq_true_eq] at hok
  obtain ⟨hok1, htg⟩ := hok
  obtain rfl : nx = pc + 3 := Nat.eq_of_beq_eq_true hok1
  have hdg : decode (im_code y) pc = .ok (.if_icmp .ge off, 3) := by rw [Nat.add_sub_cancel_left] at hdec; exact hdec
  simp only [im_do] at hdo
  split at hdo
  · rename_i y1 x1 st1
    have e : im_br .ge x1 y1 = true ↔ (y1 ≤ x1) := by simp only [im_br, decide_eq_true_eq]
    refine lv_icmp_ge (tgt := a) hx hb hdg htg (fun hc => ?_) (fun hc => ?_)
    · rw [if_pos (e.mpr hc)] at hdo
      simp only [im_nx, Option.some.injEq, Sum.inl.injEq, Prod.mk.injEq] at hdo
      obtain ⟨rfl, rfl, rfl, rfl, rfl, rfl⟩ := hdo
      exact kk ad ca H locs cells slots ls im_ag_rf hHR hl hLn rfl rfl
    · rw [if_neg (fun q => hc (e.mp q))] at hdo
      simp only [im_nx, Option.some.injEq, Sum.inl.injEq, Prod.mk.injEq] at hdo
      obtain ⟨rfl, rfl, rfl, rfl, rfl, rfl⟩ := hdo
      exact kk ad ca H locs cells slots ls im_ag_rf hHR hl hLn rfl rfl
  · cases hdo
theorem im_SP_if_gt (C : im_Cx p R s m args meth c A D y) {off : Int} : im_SP p l e R s m args below meth c Q A D xs LL y (.ifCond .gt off) := by
  intro pc nx a b c0 L st sh mi mr pc2 L2 st2 sh2 mi2 mr2 ad ca H locs cells slots ls hdec hle hok hdo hXF hHR hl hLn hcc hss kk
  obtain ⟨hx, hb, hml, hown, hts, hK, hA, hnm, hRf, hRl⟩ := C
  simp only [im_okR, Bool.and_eq_true, decide_eq_true_eq] at hok
  obtain ⟨hok1, htg⟩ := hok
  obtain rfl : nx = pc + 3 := Nat.eq_of_beq_eq_true hok1
  have hdg : decode (im_code y) pc = .ok (.ifCond .gt off, 3) := by rw [Nat.add_sub_cancel_left] at hdec; exact hdec
  simp only [im_do] at hdo
  split at hdo
  · rename_i x1 st1
    have e : im_br .gt x1 0 = true ↔ (0 < x1) := by simp only [im_br, decide_eq_true_eq]
    refine lv_if_gt (tgt := a) hx hb hdg htg (fun hc => ?_) (fun hc => ?_)
    · rw [if_pos (e.mpr hc)] at hdo
      simp only [im_nx, Option.some.injEq, Sum.inl.injEq, Prod.mk.injEq] at hdo
      obtain ⟨rfl, rfl, rfl, rfl, rfl, rfl⟩ := hdo
      exact kk ad ca H locs cells slots ls im_ag_rf hHR hl hLn rfl rfl
    · rw [if_neg (fun q => hc (e.mp q))] at hdo
      simp only [im_nx, Option.some.injEq, Sum.inl.injEq, Prod.mk.injEq] at hdo
      obtain ⟨rfl, rfl, rfl, rfl, rfl, rfl⟩ := hdo
      exact kk ad ca H locs cells slots ls im_ag_rf hHR hl hLn rfl rfl
  · cases hdo
theorem im_SP_icmp_gt (C : im_Cx p R s m args meth c A D y) {off : Int} : im_SP p l e R s m args below meth c Q A D xs LL y (.if_icmp .gt off) := by
  intro pc nx a b c0 L st sh mi mr pc2 L2 st2 sh2 mi2 mr2 ad ca H locs cells slots ls hdec hle hok hdo hXF hHR hl hLn hcc hss kk
  obtain ⟨hx, hb, hml, hown, hts, hK, hA, hnm, hRf, hRl⟩ := C
  simp only [im_okR, Bool.and_eq_true, decide_eq_true_eq] at hok
  obtain ⟨hok1, htg⟩ := hok
  obtain rfl : nx = pc + 3 := Nat.eq_of_beq_eq_true hok1
  have hdg : decode (im_code y) pc = .ok (.if_icmp .gt off, 3) := by rw [Nat.add_sub_cancel_left] at hdec; exact hdec
  simp only [im_do] at hdo
  split at hdo
  · rename_i y1 x1 st1
    have e : im_br .gt x1 y1 = true ↔ (y1 < x1) := by simp only [im_br, decide_eq_true_eq]
    refine lv_icmp_gt (tgt := a) hx hb hdg htg (fun hc => ?_) (fun hc => ?_)
    · rw [if_pos (e.mpr hc)] at hdo
      simp only [im_nx, Option.some.injEq, Sum.inl.injEq, Prod.mk.injEq] at hdo
      obtain ⟨rfl, rfl, rfl, rfl, rfl, rfl⟩ := hdo
      exact kk ad ca H locs cells slots ls im_ag_rf hHR hl hLn rfl rfl
    · rw [if_neg (fun q => hc (e.mp q))] at hdo
      simp only [im_nx, Option.some.injEq, Sum.inl.injEq, Prod.mk.injEq] at hdo
      obtain ⟨rfl, rfl, rfl, rfl, rfl, rfl⟩ := hdo
      exact kk ad ca H locs cells slots ls im_ag_rf hHR hl hLn rfl rfl
  · cases hdo
theorem im_SP_if_le (C : im_Cx p R s m args meth c A D y) {off : Int} : im_SP p l e R s m args below meth c Q A D xs LL y (.ifCond .le off) := by
  intro pc nx a b c0 L st sh mi mr pc2 L2 st2 sh2 mi2 mr2 ad ca H locs cells slots ls hdec hle hok hdo hXF hHR hl hLn hcc hss kk
  obtain ⟨hx, hb, hml, hown, hts, hK, hA, hnm, hRf, hRl⟩ := C
  simp only [im_okR, Bool.and_eq_true, decide_eq_true_eq] at hok
  obtain ⟨hok1, htg⟩ := hok
  obtain rfl : nx = pc + 3 := Nat.eq_of_beq_eq_true hok1
  have hdg : decode (im_code y) pc = .ok (.ifCond .le off, 3) := by rw [Nat.add_sub_cancel_left] at hdec; exact hdec
  simp only [im_do] at hdo
  split at hdo
  · rename_i x1 st1
    have e : im_br .le x1 0 = true ↔ (x1 ≤ 0) := by simp only [im_br, decide_eq_true_eq]
    refine lv_if_le (tgt := a) hx hb hdg htg (fun hc => ?_) (fun hc => ?_)
    · rw [if_pos (e.mpr hc)] at hdo
      simp only [im_nx, Option.some.injEq, Sum.inl.injEq, Prod.mk.injEq] at hdo
      obtain ⟨rfl, rfl, rfl, rfl, rfl, rfl⟩ := hdo
      exact kk ad ca H locs cells slots ls im_ag_rf hHR hl hLn rfl rfl
    · rw [if_neg (fun q => hc (e.mp q))] at hdo
      simp only [im_nx, Option.some.injEq, Sum.inl.injEq, Prod.mk.injEq] at hdo
      obtain ⟨rfl, rfl, rfl, rfl, rfl, rfl⟩ := hdo
      exact kk ad ca H locs cells slots ls im_ag_rf hHR hl hLn rfl rfl
  · cases hdo
theorem im_SP_icmp_le (C : im_Cx p R s m args meth c A D y) {off : Int} : im_SP p l e R s m args below meth c Q A D xs LL y (.if_icmp .le off) := by
  intro pc nx a b c0 L st sh mi mr pc2 L2 st2 sh2 mi2 mr2 ad ca H locs cells slots ls hdec hle hok hdo hXF hHR hl hLn hcc hss kk
  obtain ⟨hx, hb, hml, hown, hts, hK, hA, hnm, hRf, hRl⟩ := C
  simp only [im_okR, Bool.and_eq_true, decide_eq_true_eq] at hok
  obtain ⟨hok1, htg⟩ := hok
  obtain rfl : nx = pc + 3 := Nat.eq_of_beq_eq_true hok1
  have hdg : decode (im_code y) pc = .ok (.if_icmp .le off, 3) := by rw [Nat.add_sub_cancel_left] at hdec; exact hdec
  simp only [im_do] at hdo
  split at hdo
  · rename_i y1 x1 st1
    have e : im_br .le x1 y1 = true ↔ (x1 ≤ y1) := by simp only [im_br, decide_eq_true_eq]
    refine lv_icmp_le (tgt := a) hx hb hdg htg (fun hc => ?_) (fun hc => ?_)
    · rw [if_pos (e.mpr hc)] at hdo
      simp only [im_nx, Option.some.injEq, Sum.inl.injEq, Prod.mk.injEq] at hdo
      obtain ⟨rfl, rfl, rfl, rfl, rfl, rfl⟩ := hdo
      exact kk ad ca H locs cells slots ls im_ag_rf hHR hl hLn rfl rfl
    · rw [if_neg (fun q => hc (e.mp q))] at hdo
      simp only [im_nx, Option.some.injEq, Sum.inl.injEq, Prod.mk.injEq] at hdo
      obtain ⟨rfl, rfl, rfl, rfl, rfl, rfl⟩ := hdo
      exact kk ad ca H locs cells slots ls im_ag_rf hHR hl hLn rfl rfl
  · cases hdo
theorem im_SP_goto (C : im_Cx p R s m args meth c A D y) {off : Int} : im_SP p l e R s m args below meth c Q A D xs LL y (.goto off) := by
  intro pc nx a b c0 L st sh mi mr pc2 L2 st2 sh2 mi2 mr2 ad ca H locs cells slots ls hdec hle hok hdo hXF hHR hl hLn hcc hss kk
  obtain ⟨hx, hb, hml, hown, hts, hK, hA, hnm, hRf, hRl⟩ := C
  simp only [im_okR, Bool.and_eq_true, decide_eq_true_eq] at hok
  obtain ⟨hok1, htg⟩ := hok
  obtain rfl : nx = pc + 3 := Nat.eq_of_beq_eq_true hok1
  have hdg : decode (im_code y) pc = .ok (.goto off, 3) := by rw [Nat.add_sub_cancel_left] at hdec; exact hdec
  simp only [im_do] at hdo
  · simp only [im_nx, Option.some.injEq, Sum.inl.injEq, Prod.mk.injEq] at hdo
    obtain ⟨rfl, rfl, rfl, rfl, rfl, rfl⟩ := hdo
    refine lv_goto (tgt := a) hx hb hdg htg ?_
    exact kk ad ca H locs cells slots ls im_ag_rf hHR hl hLn rfl rfl
theorem im_SP_ifnull (C : im_Cx p R s m args meth c A D y) {off : Int} : im_SP p l e R s m args below meth c Q A D xs LL y (.ifnull off) := by
  intro pc nx a b c0 L st sh mi mr pc2 L2 st2 sh2 mi2 mr2 ad ca H locs cells slots ls hdec hle hok hdo hXF hHR hl hLn hcc hss kk
  obtain ⟨hx, hb, hml, hown, hts, hK, hA, hnm, hRf, hRl⟩ := C
  simp only [im_okR, Bool.and_eq_true, decide_eq_true_eq] at hok
  obtain ⟨hok1, htg⟩ := hok
  obtain rfl : nx = pc + 3 := Nat.eq_of_beq_eq_true hok1
  have hdg : decode (im_code y) pc = .ok (.ifnull off, 3) := by rw [Nat.add_sub_cancel_left] at hdec; exact hdec
  simp only [im_do] at hdo
  split at hdo
  · rename_i st1
    simp only [im_nx, Option.some.injEq, Sum.inl.injEq, Prod.mk.injEq] at hdo
    obtain ⟨rfl, rfl, rfl, rfl, rfl, rfl⟩ := hdo
    refine lv_ifnullN (tgt := a) hx hb hdg htg ?_
    exact kk ad ca H locs cells slots ls im_ag_rf hHR hl hLn rfl rfl
  · rename_i r1 st1
    simp only [im_nx, Option.some.injEq, Sum.inl.injEq, Prod.mk.injEq] at hdo
    obtain ⟨rfl, rfl, rfl, rfl, rfl, rfl⟩ := hdo
    refine lv_ifnull hx hb hdg ?_
    exact kk ad ca H locs cells slots ls im_ag_rf hHR hl hLn rfl rfl
  · cases hdo
theorem im_SP_ifnonnull (C : im_Cx p R s m args meth c A D y) {off : Int} : im_SP p l e R s m args below meth c Q A D xs LL y (.ifnonnull off) := by
  intro pc nx a b c0 L st sh mi mr pc2 L2 st2 sh2 mi2 mr2 ad ca H locs cells slots ls hdec hle hok hdo hXF hHR hl hLn hcc hss kk
  obtain ⟨hx, hb, hml, hown, hts, hK, hA, hnm, hRf, hRl⟩ := C
  simp only [im_okR, Bool.and_eq_true, decide_eq_true_eq] at hok
  obtain ⟨hok1, htg⟩ := hok
  obtain rfl : nx = pc + 3 := Nat.eq_of_beq_eq_true hok1
  have hdg : decode (im_code y) pc = .ok (.ifnonnull off, 3) := by rw [Nat.add_sub_cancel_left] at hdec; exact hdec
  simp only [im_do] at hdo
  split at hdo
  · rename_i st1
    simp only [im_nx, Option.some.injEq, Sum.inl.injEq, Prod.mk.injEq] at hdo
    obtain ⟨rfl, rfl, rfl, rfl, rfl, rfl⟩ := hdo
    refine lv_ifnonnullN hx hb hdg ?_
    exact kk ad ca H locs cells slots ls im_ag_rf hHR hl hLn rfl rfl
  · rename_i r1 st1
    simp only [im_nx, Option.some.injEq, Sum.inl.injEq, Prod.mk.injEq] at hdo
    obtain ⟨rfl, rfl, rfl, rfl, rfl, rfl⟩ := hdo
    refine lv_ifnonnull (tgt := a) hx hb hdg htg ?_
    exact kk ad ca H locs cells slots ls im_ag_rf hHR hl hLn rfl rfl
  · cases hdo
theorem im_SP_tableswitch (C : im_Cx p R s m args meth c A D y) {dd lo hi : Int} {offs : Array Int} : im_SP p l e R s m args below meth c Q A D xs LL y (.tableswitch dd lo hi offs) := by
  intro pc nx a b c0 L st sh mi mr pc2 L2 st2 sh2 mi2 mr2 ad ca H locs cells slots ls hdec hle hok hdo hXF hHR hl hLn hcc hss kk
  obtain ⟨hx, hb, hml, hown, hts, hK, hA, hnm, hRf, hRl⟩ := C
  simp only [im_do] at hdo
  split at hdo
  · rename_i x1 st1
    split at hdo
    · rename_i t ht
      simp only [im_nx, Option.some.injEq, Sum.inl.injEq, Prod.mk.injEq] at hdo
      obtain ⟨rfl, rfl, rfl, rfl, rfl, rfl⟩ := hdo
      unfold im_ts at ht
      split at ht
      · rename_i hout
        split at ht
        · rename_i h0
          cases ht
          refine lv_tableOut (tgt := ((pc : Int) + dd).toNat) hx hb hdec hout (Int.toNat_of_nonneg h0).symm ?_
          exact kk ad ca H locs cells slots ls im_ag_rf hHR hl hLn rfl rfl
        · cases ht
      · rename_i hout
        split at ht
        · rename_i o1 ho1
          split at ht
          · rename_i h0
            cases ht
            refine lv_tableIn (tgt := ((pc : Int) + o1).toNat) hx hb hdec (fun q => hout (Or.inl q)) (fun q => hout (Or.inr q)) ho1 (Int.toNat_of_nonneg h0).symm ?_
            exact kk ad ca H locs cells slots ls im_ag_rf hHR hl hLn rfl rfl
          · cases ht
        · cases ht
    · cases hdo
  · cases hdo
theorem im_SP_lookupswitch (C : im_Cx p R s m args meth c A D y) {dd : Int} {ps : Array (Int × Int)} : im_SP p l e R s m args below meth c Q A D xs LL y (.lookupswitch dd ps) := by
  intro pc nx a b c0 L st sh mi mr pc2 L2 st2 sh2 mi2 mr2 ad ca H locs cells slots ls hdec hle hok hdo hXF hHR hl hLn hcc hss kk
  obtain ⟨hx, hb, hml, hown, hts, hK, hA, hnm, hRf, hRl⟩ := C
  simp only [im_do] at hdo
  split at hdo
  · rename_i x1 st1
    split at hdo
    · rename_i t ht
      simp only [im_nx, Option.some.injEq, Sum.inl.injEq, Prod.mk.injEq] at hdo
      obtain ⟨rfl, rfl, rfl, rfl, rfl, rfl⟩ := hdo
      unfold im_ls at ht
      split at ht
      · rename_i hp
        split at ht
        · rename_i h0
          cases ht
          refine lv_lookup (tgt := ((pc : Int) + Op.lookupswitch.offset ps.toList dd x1.toInt).toNat) hx hb hdec hp rfl (Int.toNat_of_nonneg h0).symm ?_
          exact kk ad ca H locs cells slots ls im_ag_rf hHR hl hLn rfl rfl
        · cases ht
      · cases ht
    · cases hdo
  · cases hdo
theorem im_SP_ldc (C : im_Cx p R s m args meth c A D y) {i : Nat} : im_SP p l e R s m args below meth c Q A D xs LL y (.ldc i) := by
  intro pc nx a b c0 L st sh mi mr pc2 L2 st2 sh2 mi2 mr2 ad ca H locs cells slots ls hdec hle hok hdo hXF hHR hl hLn hcc hss kk
  obtain ⟨hx, hb, hml, hown, hts, hK, hA, hnm, hRf, hRl⟩ := C
  simp only [im_okR, Bool.and_eq_true] at hok
  obtain ⟨hok1, hok2⟩ := hok
  obtain rfl : nx = pc + 2 := Nat.eq_of_beq_eq_true hok1
  have hdg : decode (im_code y) pc = .ok (.ldc i, 2) := by rw [Nat.add_sub_cancel_left] at hdec; exact hdec
  simp only [im_do] at hdo
  split at hdo
  · simp only [im_nx, Option.some.injEq, Sum.inl.injEq, Prod.mk.injEq] at hdo
    obtain ⟨rfl, rfl, rfl, rfl, rfl, rfl⟩ := hdo
    simp only [show Nat.beq 0 0 = true from rfl, cond_true] at hok2
    refine lv_ldc hx hb hown (hts _ (im_at_mem hok2)) hdg ?_
    exact kk ad ca H locs cells slots ls im_ag_rf hHR hl hLn rfl rfl
  · simp only [im_nx, Option.some.injEq, Sum.inl.injEq, Prod.mk.injEq] at hdo
    obtain ⟨rfl, rfl, rfl, rfl, rfl, rfl⟩ := hdo
    simp only [show Nat.beq 1 0 = false from rfl, show Nat.beq 1 1 = true from rfl, cond_true, cond_false, Bool.and_eq_true] at hok2
    refine va_ldcS hx hb hown (hXF.2.2.2.2.2.2 _ _ a (Nat.blt_eq.mp hok2.1) (im_at0_mem hok2.2)) hdg ?_
    exact kk ad ca H locs cells slots ls im_ag_rf hHR hl hLn rfl rfl
  · cases hdo
theorem im_SP_ldc_w (C : im_Cx p R s m args meth c A D y) {i : Nat} : im_SP p l e R s m args below meth c Q A D xs LL y (.ldc_w i) := by
  intro pc nx a b c0 L st sh mi mr pc2 L2 st2 sh2 mi2 mr2 ad ca H locs cells slots ls hdec hle hok hdo hXF hHR hl hLn hcc hss kk
  obtain ⟨hx, hb, hml, hown, hts, hK, hA, hnm, hRf, hRl⟩ := C
  simp only [im_okR, Bool.and_eq_true] at hok
  obtain ⟨hok1, hok2⟩ := hok
  obtain rfl : nx = pc + 3 := Nat.eq_of_beq_eq_true hok1
  have hdg : decode (im_code y) pc = .ok (.ldc_w i, 3) := by rw [Nat.add_sub_cancel_left] at hdec; exact hdec
  simp only [im_do] at hdo
  split at hdo
  · simp only [im_nx, Option.some.injEq, Sum.inl.injEq, Prod.mk.injEq] at hdo
    obtain ⟨rfl, rfl, rfl, rfl, rfl, rfl⟩ := hdo
    simp only [show Nat.beq 0 0 = true from rfl, cond_true] at hok2
    refine lv_ldcw hx hb hown (hts _ (im_at_mem hok2)) hdg ?_
    exact kk ad ca H locs cells slots ls im_ag_rf hHR hl hLn rfl rfl
  · cases hdo
theorem im_SP_ldc2_w (C : im_Cx p R s m args meth c A D y) {i : Nat} : im_SP p l e R s m args below meth c Q A D xs LL y (.ldc2_w i) := by
  intro pc nx a b c0 L st sh mi mr pc2 L2 st2 sh2 mi2 mr2 ad ca H locs cells slots ls hdec hle hok hdo hXF hHR hl hLn hcc hss kk
  obtain ⟨hx, hb, hml, hown, hts, hK, hA, hnm, hRf, hRl⟩ := C
  simp only [im_okR, Bool.and_eq_true] at hok
  obtain ⟨hok1, hok2⟩ := hok
  obtain rfl : nx = pc + 3 := Nat.eq_of_beq_eq_true hok1
  have hdg : decode (im_code y) pc = .ok (.ldc2_w i, 3) := by rw [Nat.add_sub_cancel_left] at hdec; exact hdec
  simp only [im_do] at hdo
  split at hdo
  · simp only [im_nx, Option.some.injEq, Sum.inl.injEq, Prod.mk.injEq] at hdo
    obtain ⟨rfl, rfl, rfl, rfl, rfl, rfl⟩ := hdo
    simp only [show Nat.beq 0 0 = true from rfl, cond_true] at hok2
    refine lv_ldc2 hx hb hown (hts _ (im_at_mem hok2)) hdg ?_
    exact kk ad ca H locs cells slots ls im_ag_rf hHR hl hLn rfl rfl
  · cases hdo
theorem im_SP_getstatic (C : im_Cx p R s m args meth c A D y) {i a : Nat} (h32 : a ≠ 32) : ∀ pc nx b c0, im_SPa p l e R s m args below meth c Q A D xs LL y (.getstatic i) pc nx a b c0 := by
  intro pc nx b c0 L st sh mi mr pc2 L2 st2 sh2 mi2 mr2 ad ca H locs cells slots ls hdec hle hok hdo hXF hHR hl hLn hcc hss kk
  obtain ⟨hx, hb, hml, hown, hts, hK, hA, hnm, hRf, hRl⟩ := C
  simp only [im_okR, Bool.and_eq_true] at hok
  obtain ⟨hok1, hok2⟩ := hok
  obtain rfl : nx = pc + 3 := Nat.eq_of_beq_eq_true hok1
  have hdg : decode (im_code y) pc = .ok (.getstatic i, 3) := by rw [Nat.add_sub_cancel_left] at hdec; exact hdec
  simp only [im_do] at hdo
  split at hdo
  · simp only [im_nx, Option.some.injEq, Sum.inl.injEq, Prod.mk.injEq] at hdo
    obtain ⟨rfl, rfl, rfl, rfl, rfl, rfl⟩ := hdo
    simp only [show Nat.beq 30 30 = true from rfl, cond_true] at hok2
    refine va_gets hx hb hXF.2.2.1 hHR.2.2.1 hown (hts _ (im_at_mem hok2)) (fun _ h => h) hdg ?_
    exact kk ad ca H locs cells slots ls im_ag_rf hHR hl hLn rfl rfl
  · simp only [im_nx, Option.some.injEq, Sum.inl.injEq, Prod.mk.injEq] at hdo
    obtain ⟨rfl, rfl, rfl, rfl, rfl, rfl⟩ := hdo
    simp only [show Nat.beq 31 30 = false from rfl, show Nat.beq 31 31 = true from rfl, cond_true, cond_false] at hok2
    refine va_gets hx hb hXF.2.2.2.1 hHR.2.2.1 hown (hts _ (im_at_mem hok2)) (fun _ h => h) hdg ?_
    exact kk ad ca H locs cells slots ls im_ag_rf hHR hl hLn rfl rfl
  · exact absurd rfl h32
  · cases hdo
end SND2
