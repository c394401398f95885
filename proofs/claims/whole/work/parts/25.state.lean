/-! ===== PURE: the abstract state. H 0: 0 how many men, 1 watched, 2 texts, 3 the law, 4 taped; H 1 kinds; H 2 mores; H 3: 0 is there an image, 1 its men, 2 watched, 3 law; H 4 a sheet's sort, 1 more; H 5 its size; H 6 the tape; H (10 + m): 0 .. 11 doings, 12 term, 13 place; H (20 + m): so in the image. G t p: the codes of a text's part ===== -/
abbrev ho_T : Type := Nat → Nat → Nat
def lo_find (p : Nat → Bool) : Nat → Nat → Option Nat
  | 0, _ => none
  | j + 1, i => bif p i then some i else lo_find p j (i + 1)
def pu_o : Option Nat → Int32
  | none => -1
  | some k => nI k
def lo_sum (f : Nat → Nat) : Nat → Nat
  | 0 => 0
  | n + 1 => lo_sum f n + f n
def ho_mate (H : ho_T) (m : Nat) : Option Nat := lo_find (fun o => decide (H (10 + o) 13 = H (10 + m) 13 ^^^ 1)) (H 0 0) 0
def kd_signs (k d : Nat) : Nat := if k = 1 then (if d < 5 then d + 1 else 5) else if k = 2 ∨ k = 4 then (if d < 3 then 0 else d) else if k = 3 then (if 2 < d then 0 else d + 1) else if k = 5 then (if d = 5 then 0 else d) else d
def kd_minds (k more v : Nat) : Nat := if k = 2 then v / 2 else if k = 3 then v + more else if k = 4 then (if v ≤ more then 0 else v / 2) else v
def kd_serves (k more v : Nat) : Nat := if k = 4 then v / 3 else if k = 5 then v - more else v
/-- the machine of a text's codes -/
def te_two (s : Nat) (a b : Int32) : Int32 := if s = 11 then pu_b (a ≠ 0 ∨ b ≠ 0) else if s = 12 then pu_b (a ≠ 0 ∧ b ≠ 0) else if s = 14 then pu_b (a < b) else if s = 15 then pu_b (a = b) else if s = 16 then a + b else if s = 17 then a - b else a * b
def te_step (nm : Nat → Int32) (st : List Int32) (c : Nat) : List Int32 :=
  if 100000 ≤ c then nI (c - 100000) :: st else if c < 11 then nm c :: st
  else if c = 13 then (match st with
    | a :: r => pu_b (a = 0) :: r
    | [] => [])
  else if c = 19 then (match st with
    | a :: r => (-a) :: r
    | [] => [])
  else match st with
    | b :: a :: r => te_two c a b :: r
    | _ => st
def te_run (nm : Nat → Int32) : List Nat → List Int32 → List Int32
  | [], st => st
  | c :: l, st => te_run nm l (te_step nm st c)
def te_val (nm : Nat → Int32) (l : List Nat) : Int32 := (te_run nm l []).headD 0
/-- how deep the stack is behind a code; a code that finds what it needs -/
def te_dep (n c : Nat) : Nat := if 100000 ≤ c ∨ c < 11 then n + 1 else if c = 13 ∨ c = 19 then n else n - 1
def te_okc (n c : Nat) : Bool := if 100000 ≤ c then decide (c < 110000) && decide (n < 32) else if c < 11 then decide (c < 6) && decide (n < 32) else if c = 13 ∨ c = 19 then decide (1 ≤ n) else (decide (2 ≤ n) && decide (c = 11 ∨ c = 12 ∨ c = 14 ∨ c = 15 ∨ c = 16 ∨ c = 17 ∨ c = 18))
/-- a text's codes are well formed: from depth n on, ending with one value -/
def te_ok : Nat → List Nat → Bool
  | n, [] => Nat.beq n 1
  | n, c :: l => te_okc n c && te_ok (te_dep n c) l
/-- what a text's part says -/
def te_clamp (hi : Nat) (v : Int32) : Nat := if v < 0 then 0 else if nI hi < v then hi else v.toNatClampNeg
abbrev ho_G : Type := Nat → Nat → List Nat
def ho_nm (H : ho_T) (mine his h term more w : Nat) : Nat → Int32 := fun c => nI (if c = 0 then mine else if c = 1 then his else if c = 2 then h else if c = 3 then term else if c = 4 then more else w)
/-- by a text's codes, of numbers -/
def ho_say (l : List Nat) (hi mine his h term more w : Nat) : Nat := te_clamp hi (te_val (ho_nm (fun _ _ => 0) mine his h term more w) l)
def ho_w (H : ho_T) (h : Nat) : Nat := H 0 1 / 2 ^ h % 2
def ho_sign (H : ho_T) (m h : Nat) : Nat := match ho_mate H m with
  | none => 0
  | some o => kd_signs (H 1 o) (H (10 + o) h)
def ho_asks (H : ho_T) (G : ho_G) (p m h : Nat) : Nat := ho_say (G (H 0 3) p) (if p = 2 then 100 else 99) (H (10 + m) h) (ho_sign H m h) h (H (10 + m) 12) (H 2 m) (ho_w H h)
def ho_comp (H : ho_T) (G : ho_G) (m h : Nat) : Nat := match ho_mate H m with
  | none => 0
  | some _ => kd_minds (H 1 m) (H 2 m) (ho_asks H G 0 m h)
def ho_days (H : ho_T) (G : ho_G) (m h : Nat) : Nat := if ho_w H h = 0 ∨ ho_comp H G m h = 0 then 0 else kd_serves (H 1 m) (H 2 m) (ho_asks H G 1 m h)
def ho_day (H : ho_T) (G : ho_G) (m : Nat) : Nat := lo_sum (fun h => ho_days H G m h) 12
def ho_all (H : ho_T) (G : ho_G) : Nat := lo_sum (fun m => ho_day H G m) (H 0 0)
/-- bounds of what can be there; places may be far away for a while -/
def ho_bd (H : ho_T) : Prop := H 0 0 ≤ 6 ∧ H 0 1 < 4096 ∧ H 0 2 ≤ 6 ∧ H 0 3 < H 0 2 ∧ H 0 4 ≤ 160 ∧ (∀ m, H 1 m < 6) ∧ (∀ m, H 2 m < 10) ∧ (∀ m h, h < 12 → H (10 + m) h < 6) ∧ (∀ m, H (10 + m) 12 ≤ 9999) ∧ (∀ m, H (10 + m) 13 < 1000)
def te_at (l : ho_G) (t p : Nat) : Nat := lo_sum (fun q => (l t q).length) p
def ho_gd (H : ho_T) (G : ho_G) : Prop := ∀ t, t < H 0 2 → (∀ p, p < 3 → te_ok 0 (G t p) = true) ∧ te_at G t 3 ≤ 160
/-! the reference's cells -/
def rr_ok (H : ho_T) (G : ho_G) (mi : im_MI) : Prop :=
  mi 110 0 = nI (H 0 0) ∧ mi 110 4 = nI (H 0 1) ∧ mi 110 9 = nI (H 0 2) ∧ mi 110 10 = nI (H 0 3) ∧ (∀ m, m < 6 → mi 111 m = nI (H 1 m) ∧ mi 112 m = nI (H 2 m)) ∧ (∀ m k, m < 6 → k < 14 → mi 113 (14 * m + k) = nI (H (10 + m) k)) ∧
  (∀ t, t < H 0 2 → (∀ p, p ≤ 3 → mi 116 (4 * t + p) = nI (te_at G t p)) ∧ ∀ p k, p < 3 → k < (G t p).length → mi 115 (200 * t + (te_at G t p + k)) = nI ((G t p).getD k 0)) ∧ ho_bd H ∧ ho_gd H G
/-- a write where none of this lies -/
theorem rr_scr {H : ho_T} {G : ho_G} {mi : im_MI} {k j : Nat} {v : Int32} (h : rr_ok H G mi) (hk : k = 125 ∨ k = 126 ∨ (k = 110 ∧ 18 ≤ j)) : rr_ok H G (im_u mi k j v) := by
  have e1 : ∀ j2, j2 < 18 → im_u mi k j v 110 j2 = mi 110 j2 := fun j2 h2 => by
    rcases hk with rfl | rfl | ⟨rfl, h3⟩
    · exact im_u_k _ _ _ _ (by decide)
    · exact im_u_k _ _ _ _ (by decide)
    · exact im_u_j _ _ _ _ (by omega)
  have e2 : ∀ k2 j2, 111 ≤ k2 → k2 ≤ 116 → im_u mi k j v k2 j2 = mi k2 j2 := fun k2 j2 h2 h3 => im_u_k _ _ _ _ (by omega)
  obtain ⟨h1, h2, h3, h4, h5, h6, h7, h8, h9⟩ := h
  refine ⟨by rw [e1 0 (by decide)]; exact h1, by rw [e1 4 (by decide)]; exact h2, by rw [e1 9 (by decide)]; exact h3, by rw [e1 10 (by decide)]; exact h4, fun m hm => by rw [e2 111 m (by decide) (by decide), e2 112 m (by decide) (by decide)]; exact h5 m hm, fun m k hm hk => by rw [e2 113 _ (by decide) (by decide)]; exact h6 m k hm hk, fun t ht => ⟨fun p hp => by rw [e2 116 _ (by decide) (by decide)]; exact (h7 t ht).1 p hp, fun p k hp hk => by rw [e2 115 _ (by decide) (by decide)]; exact (h7 t ht).2 p k hp hk⟩, h8, h9⟩
theorem lo_find_f {p : Nat → Bool} {j i : Nat} (h : p i = false) : lo_find p (j + 1) i = lo_find p j (i + 1) := by rw [lo_find, h]; rfl
theorem lo_find_t {p : Nat → Bool} {j i : Nat} (h : p i = true) : lo_find p (j + 1) i = some i := by rw [lo_find, h]; rfl
theorem lo_find_lt {p : Nat → Bool} : ∀ {j i k : Nat}, lo_find p j i = some k → k < i + j ∧ p k = true
  | 0, _, _, h => by cases h
  | j + 1, i, k, h => by
    rw [lo_find] at h
    cases hp : p i with
    | true => rw [hp] at h; cases h; exact ⟨by omega, hp⟩
    | false =>
      rw [hp] at h
      have := lo_find_lt (j := j) (i := i + 1) h
      exact ⟨by omega, this.2⟩
theorem nI_xor (a b : Nat) : nI a ^^^ nI b = nI (a ^^^ b) := by
  apply Int32.toBitVec_inj.mp
  show BitVec.ofNat 32 a ^^^ BitVec.ofNat 32 b = BitVec.ofNat 32 (a ^^^ b)
  rw [BitVec.ofNat_xor]
theorem ho_mate_lt {H : ho_T} {m o : Nat} (h : ho_mate H m = some o) : o < H 0 0 := by
  have := (lo_find_lt h).1
  omega
theorem kd_signs_lt (k d : Nat) (h : d < 6) : kd_signs k d < 6 := by
  unfold kd_signs
  repeat' split
  all_goals omega
theorem pu_o_none (o : Option Nat) (h : ∀ k, o = some k → k < 2 ^ 31) : pu_o o = -1 ↔ o = none := by
  cases o with
  | none => simp [pu_o]
  | some k =>
    have h2 := h k rfl
    simp only [pu_o]
    constructor
    · intro e
      have := congrArg Int32.toInt e
      rw [nI_toInt h2] at this
      have h3 : (-1 : Int32).toInt = -1 := by decide
      omega
    · intro e; cases e
