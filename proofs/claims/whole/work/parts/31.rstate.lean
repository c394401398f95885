/-! ===== PURE, the reference: what the says-family may write ===== -/
def sc_ (S : Nat → Bool) (mi mi2 : im_MI) : Prop := ∀ k, S k = false → mi2 k = mi k
def sS (k : Nat) : Bool := Nat.beq k 125 || Nat.beq k 126
theorem sc_rf {S : Nat → Bool} {mi : im_MI} : sc_ S mi mi := fun _ _ => rfl
theorem sc_.trans {S : Nat → Bool} {a b c : im_MI} (h1 : sc_ S a b) (h2 : sc_ S b c) : sc_ S a c := fun k hk => (h2 k hk).trans (h1 k hk)
theorem sc_.u {S : Nat → Bool} {a b : im_MI} (h : sc_ S a b) {k j : Nat} {v : Int32} (hk : S k = true) : sc_ S a (im_u b k j v) := by
  intro q hq
  have hne : q ≠ k := fun e => by rw [e, hk] at hq; cases hq
  funext i
  rw [im_u_k _ _ _ _ hne, h q hq]
theorem rr_row {H : ho_T} {G : ho_G} {mi mi2 : im_MI} (h : rr_ok H G mi) (hs : ∀ k, 110 ≤ k → k ≤ 116 → mi2 k = mi k) : rr_ok H G mi2 := by
  obtain ⟨h1, h2, h3, h4, h5, h6, h7, h8, h9⟩ := h
  refine ⟨by rw [hs 110 (by decide) (by decide)]; exact h1, by rw [hs 110 (by decide) (by decide)]; exact h2, by rw [hs 110 (by decide) (by decide)]; exact h3, by rw [hs 110 (by decide) (by decide)]; exact h4, fun m hm => by rw [hs 111 (by decide) (by decide), hs 112 (by decide) (by decide)]; exact h5 m hm, fun m k hm hk => by rw [hs 113 (by decide) (by decide)]; exact h6 m k hm hk, fun t ht => ⟨fun p hp => by rw [hs 116 (by decide) (by decide)]; exact (h7 t ht).1 p hp, fun p k hp hk => by rw [hs 115 (by decide) (by decide)]; exact (h7 t ht).2 p k hp hk⟩, h8, h9⟩
theorem rr_sS {H : ho_T} {G : ho_G} {mi mi2 : im_MI} (h : rr_ok H G mi) (hs : sc_ sS mi mi2) : rr_ok H G mi2 := rr_row h fun k h1 h2 => hs k (by
  unfold sS
  have e1 : Nat.beq k 125 = false := by
    cases e : Nat.beq k 125 with
    | false => rfl
    | true => have := Nat.eq_of_beq_eq_true e; omega
  have e2 : Nat.beq k 126 = false := by
    cases e : Nat.beq k 126 with
    | false => rfl
    | true => have := Nat.eq_of_beq_eq_true e; omega
  rw [e1, e2]; rfl)
/-- the stack row holds a list, its top first -/
def te_st (mi : im_MI) (c : Nat) (st : List Int32) : Prop := ∀ j, j < st.length → mi c (st.length - 1 - j) = st.getD j 0
theorem te_st.push {mi : im_MI} {c : Nat} {st : List Int32} (h : te_st mi c st) (v : Int32) : te_st (im_u mi c st.length v) c (v :: st) := by
  intro j hj
  simp only [List.length_cons] at hj ⊢
  match j, hj with
  | 0, _ => rw [show st.length + 1 - 1 - 0 = st.length by omega, im_u_s]; rfl
  | j + 1, hj =>
    rw [im_u_j _ _ _ _ (by omega), show st.length + 1 - 1 - (j + 1) = st.length - 1 - j by omega]
    exact h j (by omega)
theorem te_st.top {mi : im_MI} {c : Nat} {a : Int32} {st : List Int32} (h : te_st mi c (a :: st)) : mi c st.length = a := by
  have := h 0 (by simp)
  simpa using this
theorem te_st.top2 {mi : im_MI} {c : Nat} {a b : Int32} {st : List Int32} (h : te_st mi c (b :: a :: st)) : mi c st.length = a ∧ mi c (st.length + 1) = b := by
  have h0 := h 0 (by simp)
  have h1 := h 1 (by simp)
  simp only [List.length_cons] at h0 h1
  exact ⟨by simpa using h1, by simpa using h0⟩
theorem te_st.tail {mi : im_MI} {c : Nat} {a : Int32} {st : List Int32} (h : te_st mi c (a :: st)) : te_st mi c st := by
  intro j hj
  have := h (j + 1) (by simp; omega)
  simp only [List.length_cons] at this
  rw [show st.length + 1 - 1 - (j + 1) = st.length - 1 - j by omega] at this
  simpa using this
theorem te_ok_le : ∀ (l : List Nat) (n : Nat), te_ok n l = true → n ≤ 32 ∨ True := fun _ _ _ => Or.inr trivial
