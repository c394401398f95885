/-! ===== PURE: runs without fuel ===== -/
theorem ev_mono : ∀ (n d y pc : Nat) (L st : List Value) (sh : im_Sh) (mi : im_MI) (mr : im_MR) (r : Value × im_Sh × im_MI × im_MR), im_exec n d y pc L st sh mi mr = some r → im_exec (n + 1) d y pc L st sh mi mr = some r
  | 0, _, _, _, _, _, _, _, _, _, h => by cases h
  | n + 1, d, y, pc, L, st, sh, mi, mr, r, h => by
    unfold im_exec at h ⊢
    cases hs : im_step y pc L st sh mi mr with
    | none => rw [hs] at h; exact h
    | some q =>
      rw [hs] at h
      rcases q with q | v | q
      · exact ev_mono n _ _ _ _ _ _ _ _ _ h
      · exact h
      · cases d with
        | zero => exact h
        | succ d =>
          dsimp only at h ⊢
          split at h
          · rename_i hf
            rw [if_pos hf]
            cases hc : im_exec n d q.1 0 (im_entry q.1 q.2.1) [] sh mi mr with
            | none => rw [hc] at h; cases h
            | some r1 =>
              rw [hc] at h
              rw [ev_mono n _ _ _ _ _ _ _ _ _ hc]
              dsimp only at h ⊢
              split at h
              · rename_i hv
                rw [if_pos hv]
                exact ev_mono n _ _ _ _ _ _ _ _ _ h
              · cases h
          · cases h
theorem ev_mono' {n d y pc : Nat} {L st : List Value} {sh : im_Sh} {mi : im_MI} {mr : im_MR} {r : Value × im_Sh × im_MI × im_MR} (k : Nat) (h : im_exec n d y pc L st sh mi mr = some r) : im_exec (n + k) d y pc L st sh mi mr = some r := by
  induction k with
  | zero => exact h
  | succ k ih => exact ev_mono _ _ _ _ _ _ _ _ _ _ ih
abbrev ev_Q : Type := Value → im_Sh → im_MI → im_MR → Prop
/-- from here the method ends, with Q -/
def Ev (d y pc : Nat) (L st : List Value) (sh : im_Sh) (mi : im_MI) (mr : im_MR) (Q : ev_Q) : Prop := ∃ n r sh2 mi2 mr2, im_exec n d y pc L st sh mi mr = some (r, sh2, mi2, mr2) ∧ Q r sh2 mi2 mr2
/-- a method's run -/
def EvM (d y : Nat) (as : List Value) (sh : im_Sh) (mi : im_MI) (mr : im_MR) (Q : ev_Q) : Prop := Ev d y 0 (im_entry y as) [] sh mi mr Q
/-- it ends with this answer, and this memory; the cells are the same ones -/
abbrev ev_R (sh : im_Sh) (v : Value) (mi : im_MI) (mr : im_MR) : ev_Q := fun r sh2 mi2 mr2 => r = v ∧ sh2 = sh ∧ mi2 = mi ∧ mr2 = mr
section EV
variable {d y pc : Nat} {L st : List Value} {sh : im_Sh} {mi : im_MI} {mr : im_MR} {Q Q' : ev_Q}
theorem ev_imp (h : Ev d y pc L st sh mi mr Q) (hq : ∀ r sh2 mi2 mr2, Q r sh2 mi2 mr2 → Q' r sh2 mi2 mr2) : Ev d y pc L st sh mi mr Q' := by
  obtain ⟨n, r, sh2, mi2, mr2, h1, h2⟩ := h
  exact ⟨n, r, sh2, mi2, mr2, h1, hq _ _ _ _ h2⟩
theorem ev_s {pc2 : Nat} {L2 st2 : List Value} {sh2 : im_Sh} {mi2 : im_MI} {mr2 : im_MR} (h : im_step y pc L st sh mi mr = im_nx pc2 L2 st2 sh2 mi2 mr2) (k : Ev d y pc2 L2 st2 sh2 mi2 mr2 Q) : Ev d y pc L st sh mi mr Q := by
  obtain ⟨n, r, s3, m3, r3, h1, h2⟩ := k
  refine ⟨n + 1, r, s3, m3, r3, ?_, h2⟩
  unfold im_exec
  rw [h]
  exact h1
theorem ev_ret {v : Value} (h : im_step y pc L st sh mi mr = some (.inr (.inl v))) (hq : Q v sh mi mr) : Ev d y pc L st sh mi mr Q := by
  refine ⟨1, v, sh, mi, mr, ?_, hq⟩
  unfold im_exec
  rw [h]
theorem ev_call0 {y2 nx : Nat} {as rest : List Value} (h : im_step y pc L st sh mi mr = some (.inr (.inr (y2, as, nx, rest)))) (hf : (im_flat as).length ≤ im_mx y2) (hm : EvM d y2 as sh mi mr Q') (k : ∀ r sh2 mi2 mr2, Q' r sh2 mi2 mr2 → (sh2.length = sh.length ∨ (im_va sh L = true ∧ im_va sh rest = true)) ∧ Ev (d + 1) y nx L (match im_rt y2 with
    | none => rest
    | some _ => r :: rest) sh2 mi2 mr2 Q) : Ev (d + 1) y pc L st sh mi mr Q := by
  obtain ⟨n, r, sh2, mi2, mr2, h1, h2⟩ := hm
  obtain ⟨hv, n2, r2, sh3, mi3, mr3, h3, h4⟩ := k r sh2 mi2 mr2 h2
  refine ⟨n + n2 + 1, r2, sh3, mi3, mr3, ?_, h4⟩
  unfold im_exec
  rw [h]
  dsimp only
  rw [if_pos hf, ev_mono' n2 h1]
  dsimp only
  rw [if_pos hv, Nat.add_comm n n2]
  exact ev_mono' n h3
/-- a call that makes no cell and answers just so -/
theorem ev_c {y2 nx : Nat} {as rest : List Value} {v : Value} {mi2 : im_MI} {mr2 : im_MR} (h : im_step y pc L st sh mi mr = some (.inr (.inr (y2, as, nx, rest)))) (hf : Nat.ble (im_flat as).length (im_mx y2) = true) (hm : EvM d y2 as sh mi mr (ev_R sh v mi2 mr2)) (k : Ev (d + 1) y nx L (match im_rt y2 with
    | none => rest
    | some _ => v :: rest) sh mi2 mr2 Q) : Ev (d + 1) y pc L st sh mi mr Q :=
  ev_call0 h (Nat.le_of_ble_eq_true hf) hm (fun r sh2 m2 r2 hq => by obtain ⟨rfl, rfl, rfl, rfl⟩ := hq; exact ⟨Or.inl rfl, k⟩)
/-- a call that makes no cell -/
theorem ev_cQ {y2 nx : Nat} {as rest : List Value} {q : Value → im_MI → im_MR → Prop} (h : im_step y pc L st sh mi mr = some (.inr (.inr (y2, as, nx, rest)))) (hf : Nat.ble (im_flat as).length (im_mx y2) = true) (hm : EvM d y2 as sh mi mr (fun r sh2 mi2 mr2 => sh2 = sh ∧ q r mi2 mr2)) (k : ∀ r mi2 mr2, q r mi2 mr2 → Ev (d + 1) y nx L (match im_rt y2 with
    | none => rest
    | some _ => r :: rest) sh mi2 mr2 Q) : Ev (d + 1) y pc L st sh mi mr Q :=
  ev_call0 h (Nat.le_of_ble_eq_true hf) hm (fun r sh2 m2 r2 hq => by obtain ⟨rfl, hq⟩ := hq; exact ⟨Or.inl rfl, k r m2 r2 hq⟩)
end EV
