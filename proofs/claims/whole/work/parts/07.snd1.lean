/-! ===== SOUNDNESS 1: numbered cells and the heap ===== -/
def im_tr (ad : Nat → Nat) : Value → Value
  | .ref k => .ref (ad k)
  | v => v
theorem im_tr_cat (ad : Nat → Nat) (v : Value) : (im_tr ad v).category = v.category := by cases v <;> rfl
theorem im_isL_cat (v : Value) : im_isL v = true ↔ v.category = 2 := by cases v <;> simp [im_isL, Value.category]
def im_lv (ad : Nat → Nat) (L : List Value) : List (Nat × Value) := (List.range L.length).filterMap fun i => match (L[i]? : Option Value) with
  | some (.retAddr _) => none
  | some v => some (i, im_tr ad v)
  | none => none
theorem im_lv_mem {ad : Nat → Nat} {L : List Value} {i : Nat} {w : Value} : (i, w) ∈ im_lv ad L ↔ ∃ v, L[i]? = some v ∧ (∀ n, v ≠ .retAddr n) ∧ w = im_tr ad v := by
  unfold im_lv
  rw [List.mem_filterMap]
  constructor
  · rintro ⟨j, -, h⟩
    cases hv : L[j]? with
    | none => rw [hv] at h; cases h
    | some v =>
      rw [hv] at h
      cases v <;> first
        | (cases h; done)
        | (simp only [Option.some.injEq, Prod.mk.injEq] at h
           obtain ⟨rfl, rfl⟩ := h
           exact ⟨_, hv, (fun n q => Value.noConfusion q), rfl⟩)
  · rintro ⟨v, h1, h2, rfl⟩
    have hl : i < L.length := (List.getElem?_eq_some_iff.mp h1).1
    refine ⟨i, List.mem_range.mpr hl, ?_⟩
    rw [h1]
    cases v <;> first
      | rfl
      | exact absurd rfl (h2 _)
theorem lv_mono {ls : Array Slot} {n : Nat} {l l' : List (Nat × Value)} (h : lv_has ls n l) (hs : ∀ q ∈ l', q ∈ l) : lv_has ls n l' := ⟨h.1, h.2.1, fun q hq => h.2.2 q (hs q hq)⟩
theorem im_lv_get {ad : Nat → Nat} {L : List Value} {ls : Array Slot} {n i : Nat} {v : Value} (h : lv_has ls n (im_lv ad L)) (hv : L[i]? = some v) (hn : ∀ n, v ≠ .retAddr n) : ls[i]? = some (.val (im_tr ad v)) := h.2.2 (i, im_tr ad v) (im_lv_mem.mpr ⟨v, hv, hn, rfl⟩)
theorem im_pre_get {L : List Value} {j : Nat} {w : Value} (h : L[j]? = some w) : im_pre L (j + 1) = im_isL w := by simp [im_pre, h]
theorem im_set1_len (L : List Value) (i : Nat) (v : Value) : (im_set1 L i v).length = L.length := by
  unfold im_set1; cases im_pre L i <;> simp
theorem im_set2_len (L : List Value) (i : Nat) (v : Value) : (im_set2 L i v).length = L.length := by
  unfold im_set2; cases im_pre L i <;> simp
theorem im_lv_set1 {ad : Nat → Nat} {L : List Value} {i : Nat} {v : Value} (hi : i < L.length) : ∀ q ∈ im_lv ad (im_set1 L i v), q ∈ (i, im_tr ad v) :: (im_lv ad L).filter (fun q => !(q.1 == i) && !(q.1 + 1 == i && q.2.category == 2)) := by
  rintro ⟨j, w⟩ hq
  obtain ⟨w0, h1, h2, rfl⟩ := im_lv_mem.mp hq
  by_cases hj : j = i
  · subst hj
    have : w0 = v := by
      unfold im_set1 at h1
      cases hp : im_pre L j with
      | false =>
        rw [hp] at h1
        simp only [cond_false] at h1
        rw [List.getElem?_set_self hi] at h1
        exact (Option.some.inj h1).symm
      | true =>
        rw [hp] at h1
        simp only [cond_true] at h1
        have hj0 : j - 1 ≠ j := by
          cases j with
          | zero => simp [im_pre] at hp
          | succ j => omega
        rw [List.getElem?_set_ne hj0, List.getElem?_set_self hi] at h1
        exact (Option.some.inj h1).symm
    subst this
    exact List.mem_cons_self
  · refine List.mem_cons_of_mem _ (List.mem_filter.mpr ⟨?_, ?_⟩)
    · refine im_lv_mem.mpr ⟨w0, ?_, h2, rfl⟩
      unfold im_set1 at h1
      cases hp : im_pre L i with
      | false =>
        rw [hp] at h1
        simp only [cond_false] at h1
        rwa [List.getElem?_set_ne (Ne.symm hj)] at h1
      | true =>
        rw [hp] at h1
        simp only [cond_true] at h1
        by_cases hj1 : i - 1 = j
        · subst hj1
          rw [List.getElem?_set_self (by rw [List.length_set]; omega)] at h1
          cases h1
          exact absurd rfl (h2 _)
        · rwa [List.getElem?_set_ne hj1, List.getElem?_set_ne (Ne.symm hj)] at h1
    · have e1 : (j == i) = false := by simp [hj]
      simp only [e1, Bool.not_false, Bool.true_and, Bool.not_eq_true', Bool.and_eq_false_iff]
      by_cases hj1 : j + 1 = i
      · right
        subst hj1
        rw [im_tr_cat]
        unfold im_set1 at h1
        cases hp : im_pre L (j + 1) with
        | true =>
          rw [hp] at h1
          simp only [cond_true, Nat.add_sub_cancel] at h1
          rw [List.getElem?_set_self (by rw [List.length_set]; omega)] at h1
          cases h1
          exact absurd rfl (h2 _)
        | false =>
          rw [hp] at h1
          simp only [cond_false] at h1
          rw [List.getElem?_set_ne (by omega)] at h1
          rw [im_pre_get h1] at hp
          have := mt (im_isL_cat w0).mpr (by rw [hp]; decide)
          simp [this]
      · left
        simp [hj1]
theorem im_lv_set2 {ad : Nat → Nat} {L : List Value} {i : Nat} {v : Value} (hi : i + 1 < L.length) : ∀ q ∈ im_lv ad (im_set2 L i v), q ∈ (i, im_tr ad v) :: (im_lv ad L).filter (fun q => !(q.1 == i) && (!(q.1 == i + 1) && !(q.1 + 1 == i && q.2.category == 2))) := by
  rintro ⟨j, w⟩ hq
  obtain ⟨w0, h1, h2, rfl⟩ := im_lv_mem.mp hq
  have hj1 : j ≠ i + 1 := by
    rintro rfl
    unfold im_set2 at h1
    cases hp : im_pre L i with
    | false =>
      rw [hp] at h1
      simp only [cond_false] at h1
      rw [List.getElem?_set_self (by rw [List.length_set]; omega)] at h1
      cases h1
      exact absurd rfl (h2 _)
    | true =>
      rw [hp] at h1
      simp only [cond_true] at h1
      rw [List.getElem?_set_ne (by omega), List.getElem?_set_self (by rw [List.length_set]; omega)] at h1
      cases h1
      exact absurd rfl (h2 _)
  by_cases hj : j = i
  · subst hj
    have : w0 = v := by
      unfold im_set2 at h1
      cases hp : im_pre L j with
      | false =>
        rw [hp] at h1
        simp only [cond_false] at h1
        rw [List.getElem?_set_ne (by omega), List.getElem?_set_self (by omega)] at h1
        exact (Option.some.inj h1).symm
      | true =>
        rw [hp] at h1
        simp only [cond_true] at h1
        have hj0 : j - 1 ≠ j := by
          cases j with
          | zero => simp [im_pre] at hp
          | succ j => omega
        rw [List.getElem?_set_ne hj0, List.getElem?_set_ne (by omega), List.getElem?_set_self (by omega)] at h1
        exact (Option.some.inj h1).symm
    subst this
    exact List.mem_cons_self
  · refine List.mem_cons_of_mem _ (List.mem_filter.mpr ⟨?_, ?_⟩)
    · refine im_lv_mem.mpr ⟨w0, ?_, h2, rfl⟩
      unfold im_set2 at h1
      cases hp : im_pre L i with
      | false =>
        rw [hp] at h1
        simp only [cond_false] at h1
        rwa [List.getElem?_set_ne (Ne.symm hj1), List.getElem?_set_ne (Ne.symm hj)] at h1
      | true =>
        rw [hp] at h1
        simp only [cond_true] at h1
        by_cases hj2 : i - 1 = j
        · subst hj2
          rw [List.getElem?_set_self (by rw [List.length_set, List.length_set]; omega)] at h1
          cases h1
          exact absurd rfl (h2 _)
        · rwa [List.getElem?_set_ne hj2, List.getElem?_set_ne (Ne.symm hj1), List.getElem?_set_ne (Ne.symm hj)] at h1
    · have e1 : (j == i) = false := by simp [hj]
      have e2 : (j == i + 1) = false := by simp [hj1]
      simp only [e1, e2, Bool.not_false, Bool.true_and, Bool.not_eq_true', Bool.and_eq_false_iff]
      by_cases hj3 : j + 1 = i
      · right
        subst hj3
        rw [im_tr_cat]
        unfold im_set2 at h1
        cases hp : im_pre L (j + 1) with
        | true =>
          rw [hp] at h1
          simp only [cond_true, Nat.add_sub_cancel] at h1
          rw [List.getElem?_set_self (by rw [List.length_set, List.length_set]; omega)] at h1
          cases h1
          exact absurd rfl (h2 _)
        | false =>
          rw [hp] at h1
          simp only [cond_false] at h1
          rw [List.getElem?_set_ne (by omega), List.getElem?_set_ne (by omega)] at h1
          rw [im_pre_get h1] at hp
          have := mt (im_isL_cat w0).mpr (by rw [hp]; decide)
          simp [this]
      · left
        simp [hj3]
/-- what a cell holds, in the kit's words -/
def im_fv (ad : Nat → Nat) (mi : im_MI) (mr : im_MR) (t k j : Nat) : Value := im_tr ad (im_rd (im_ft t j) (mr k j) (mi k j))
def im_ce (ad : Nat → Nat) (ca : Nat → ClassId) (sh : im_Sh) (mi : im_MI) (mr : im_MR) (k : Nat) : va_E := match sh[k]? with
  | none => .inr (0, [])
  | some q => if q.1 < 100 then .inr (q.1, (List.range q.2).map (im_fv ad mi mr q.1 k))
    else if q.1 < 110 then .inl (ca k, q.2, .inl (mi k)) else .inl (ca k, q.2, .inr (.inr (.inr (.inr fun j => (mr k j).map ad))))
def im_wo (ad : Nat → Nat) (ca : Nat → ClassId) (sh : im_Sh) (mi : im_MI) (mr : im_MR) : va_W := (List.range (sh.length - 29)).map fun j => (ad (29 + j), im_ce ad ca sh mi mr (29 + j))
theorem im_wo_get {ad : Nat → Nat} {ca : Nat → ClassId} {sh : im_Sh} {mi : im_MI} {mr : im_MR} {k : Nat} (h1 : 29 ≤ k) (h2 : k < sh.length) : (im_wo ad ca sh mi mr)[k - 29]? = some (ad k, im_ce ad ca sh mi mr k) := by
  unfold im_wo
  rw [List.getElem?_map, List.getElem?_range (by omega)]
  simp only [Option.map_some]
  rw [show 29 + (k - 29) = k by omega]
theorem im_ce_congr {ad : Nat → Nat} {ca : Nat → ClassId} {sh : im_Sh} {mi mi' : im_MI} {mr mr' : im_MR} {k : Nat} (h1 : mi' k = mi k) (h2 : mr' k = mr k) : im_ce ad ca sh mi' mr' k = im_ce ad ca sh mi mr k := by
  unfold im_ce im_fv
  rw [h1, h2]
theorem im_wo_set {ad : Nat → Nat} {ca : Nat → ClassId} {sh : im_Sh} {mi mi' : im_MI} {mr mr' : im_MR} {k : Nat} (h1 : 29 ≤ k) (h2 : k < sh.length) (hm : ∀ q, q ≠ k → mi' q = mi q ∧ mr' q = mr q) : (im_wo ad ca sh mi mr).set (k - 29) (ad k, im_ce ad ca sh mi' mr' k) = im_wo ad ca sh mi' mr' := by
  apply List.ext_getElem?
  intro i
  by_cases hi : k - 29 = i
  · subst hi
    rw [List.getElem?_set_self (by simp [im_wo]; omega), im_wo_get h1 h2]
  · rw [List.getElem?_set_ne hi]
    by_cases hl : i < sh.length - 29
    · have e := im_wo_get (ad := ad) (ca := ca) (mi := mi) (mr := mr) (show 29 ≤ 29 + i by omega) (show 29 + i < sh.length by omega)
      have e' := im_wo_get (ad := ad) (ca := ca) (mi := mi') (mr := mr') (show 29 ≤ 29 + i by omega) (show 29 + i < sh.length by omega)
      rw [Nat.add_sub_cancel_left] at e e'
      rw [e, e', im_ce_congr (hm (29 + i) (by omega)).1 (hm (29 + i) (by omega)).2]
    · rw [List.getElem?_eq_none (by simp [im_wo]; omega), List.getElem?_eq_none (by simp [im_wo]; omega)]
theorem im_tr_congr {ad ad2 : Nat → Nat} {n : Nat} (ha : ∀ k, k < n → ad2 k = ad k) {v : Value} (hv : ∀ k, v = .ref k → k < n) : im_tr ad2 v = im_tr ad v := by
  cases v with
  | ref k => exact congrArg Value.ref (ha k (hv k rfl))
  | _ => rfl
theorem im_va_tr {ad ad2 : Nat → Nat} {sh : im_Sh} (ha : ∀ k, k < sh.length → ad2 k = ad k) : ∀ (l : List Value), im_va sh l = true → l.map (im_tr ad2) = l.map (im_tr ad)
  | [], _ => rfl
  | v :: r, h => by
    have hr : im_va sh r = true := by cases v <;> simp_all [im_va]
    rw [List.map_cons, List.map_cons, im_va_tr ha r hr]
    congr 1
    refine im_tr_congr ha (fun k e => ?_)
    subst e
    simp only [im_va, Bool.and_eq_true] at h
    exact Nat.blt_eq.mp h.1
theorem im_fmc {α β : Type} {f g : α → Option β} : ∀ (l : List α), (∀ a ∈ l, f a = g a) → l.filterMap f = l.filterMap g
  | [], _ => rfl
  | a :: r, h => by
    rw [List.filterMap_cons, List.filterMap_cons, h a List.mem_cons_self, im_fmc r (fun b hb => h b (List.mem_cons_of_mem _ hb))]
theorem im_va_lv {ad ad2 : Nat → Nat} {sh : im_Sh} (ha : ∀ k, k < sh.length → ad2 k = ad k) {L : List Value} (h : im_va sh L = true) : im_lv ad2 L = im_lv ad L := by
  have e := im_va_tr ha L h
  unfold im_lv
  refine im_fmc _ fun i _ => ?_
  cases hv : L[i]? with
  | none => rfl
  | some v =>
    have e2 : im_tr ad2 v = im_tr ad v := by
      have := congrArg (fun l => l[i]?) e
      simp only [List.getElem?_map, hv, Option.map_some, Option.some.injEq] at this
      exact this
    cases v <;> simp_all
theorem im_wo_push {ad ad2 : Nat → Nat} {ca ca2 : Nat → ClassId} {sh : im_Sh} {x : Nat × Nat} {mi mi2 : im_MI} {mr mr2 : im_MR} (h29 : 29 ≤ sh.length) (ha : ∀ k, k < sh.length → ad2 k = ad k) (hc : ∀ k, k < sh.length → ca2 k = ca k) (hm : ∀ k, k < sh.length → mi2 k = mi k ∧ mr2 k = mr k) (hr : ∀ k j r, mr k j = some r → r < sh.length) :
    im_wo ad2 ca2 (sh ++ [x]) mi2 mr2 = im_wo ad ca sh mi mr ++ [(ad2 sh.length, im_ce ad2 ca2 (sh ++ [x]) mi2 mr2 sh.length)] := by
  unfold im_wo
  rw [show (sh ++ [x]).length - 29 = (sh.length - 29) + 1 by simp; omega, List.range_succ, List.map_append]
  congr 1
  · refine List.map_congr_left fun j hj => ?_
    have hj : j < sh.length - 29 := List.mem_range.mp hj
    have hk : 29 + j < sh.length := by omega
    rw [ha _ hk]
    congr 1
    unfold im_ce
    rw [List.getElem?_append_left hk, hc _ hk, (hm _ hk).1, (hm _ hk).2]
    cases hs : sh[29 + j]? with
    | none => rfl
    | some q =>
      simp only
      split
      · congr 2
        refine List.map_congr_left fun i _ => ?_
        unfold im_fv
        rw [(hm _ hk).1, (hm _ hk).2]
        refine im_tr_congr ha (fun k e => ?_)
        unfold im_rd at e
        cases hb : Nat.beq (im_ft q.1 i) 1 with
        | false => rw [hb] at e; cases e
        | true =>
          rw [hb] at e
          cases hq : mr (29 + j) i with
          | none => rw [hq] at e; cases e
          | some r => rw [hq] at e; cases e; exact hr _ _ _ hq
      · split
        · rfl
        · have e : (fun i => (mr (29 + j) i).map ad2) = fun i => (mr (29 + j) i).map ad := by
            funext i
            cases hq : mr (29 + j) i with
            | none => rfl
            | some r => exact congrArg some (ha _ (hr _ _ _ hq))
          rw [e]
  · simp only [List.map_cons, List.map_nil]
    rw [show 29 + (sh.length - 29) = sh.length by omega]
