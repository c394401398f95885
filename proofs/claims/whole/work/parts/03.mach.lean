/-! ===== THE PURE MACHINE: cells by number, no addresses, no frames below; what it answers is what the machine does (part 06 proves it) ===== -/
def im_u {α : Type} (f : Nat → Nat → α) (k j : Nat) (v : α) : Nat → Nat → α := fun a b => if a = k ∧ b = j then v else f a b
def im_row {α : Type} (f : Nat → Nat → α) (k : Nat) (g : Nat → α) : Nat → Nat → α := fun a => if a = k then g else f a
abbrev im_bad : Value := .retAddr 0
def im_isL : Value → Bool
  | .long _ | .double _ => true
  | _ => false
/-- is the local ahead of place i a long (whose second half i is) -/
def im_pre (L : List Value) (i : Nat) : Bool := match i with
  | 0 => false
  | j + 1 => match L[j]? with
    | some w => im_isL w
    | none => false
def im_set1 (L : List Value) (i : Nat) (v : Value) : List Value := bif im_pre L i then (L.set i v).set (i - 1) im_bad else L.set i v
def im_set2 (L : List Value) (i : Nat) (v : Value) : List Value := bif im_pre L i then ((L.set i v).set (i + 1) im_bad).set (i - 1) im_bad else (L.set i v).set (i + 1) im_bad
def im_rv : Option Nat → Value
  | none => .null
  | some r => .ref r
/-- what a field gives: of kind 1 a reference, else a number -/
def im_rd (t : Nat) (x : Option Nat) (i : Int32) : Value := bif Nat.beq t 1 then im_rv x else .int i
def im_vr : Value → Option (Option Nat)
  | .null => some none
  | .ref r => some (some r)
  | _ => none
def im_br (c : Jvm.ClassFile.Cond) (x y : Int32) : Bool := match c with
  | .eq => decide (x = y)
  | .ne => decide (¬ x = y)
  | .lt => decide (x < y)
  | .ge => decide (y ≤ x)
  | .gt => decide (y < x)
  | .le => decide (x ≤ y)
def im_len : Instr → Nat
  | .iload _ | .lload _ | .aload _ | .istore _ | .lstore _ | .astore _ | .bipush _ | .ldc _ | .newarray _ => 2
  | .sipush _ | .iinc _ _ | .ifCond _ _ | .if_icmp _ _ | .ifnull _ | .ifnonnull _ | .goto _ | .ldc_w _ | .ldc2_w _ | .getfield _ | .putfield _ | .getstatic _ | .new _ | .anewarray _ | .invokevirtual _ | .invokespecial _ | .invokestatic _ => 3
  | _ => 1
abbrev im_Sh : Type := List (Nat × Nat)
abbrev im_MI : Type := Nat → Nat → Int32
abbrev im_MR : Type := Nat → Nat → Option Nat
/-- where a step comes to: the next place; an answer; a call -/
abbrev im_R : Type := (Nat × List Value × List Value × im_Sh × im_MI × im_MR) ⊕ (Value ⊕ (Nat × List Value × Nat × List Value))
def im_nx (pc : Nat) (L st : List Value) (sh : im_Sh) (mi : im_MI) (mr : im_MR) : Option im_R := some (.inl (pc, L, st, sh, mi, mr))
def im_cat (st : List Value) : Nat := (st.map fun v => v.category).sum
/-- the targets of switches -/
def im_ts (pc : Nat) (d lo hi : Int) (offs : Array Int) (x : Int32) : Option Nat :=
  if x.toInt < lo ∨ hi < x.toInt then (if 0 ≤ (pc : Int) + d then some ((pc : Int) + d).toNat else none)
  else match offs[(x.toInt - lo).toNat]? with
    | some o => if 0 ≤ (pc : Int) + o then some ((pc : Int) + o).toNat else none
    | none => none
def im_ls (pc : Nat) (d : Int) (ps : Array (Int × Int)) (x : Int32) : Option Nat :=
  if (ps.toList.zip (ps.toList.drop 1)).all (fun (a, next) => a.1 < next.1) = true then
    (if 0 ≤ (pc : Int) + Op.lookupswitch.offset ps.toList d x.toInt then some ((pc : Int) + Op.lookupswitch.offset ps.toList d x.toInt).toNat else none)
  else none
/-- every reference among these is a cell's number -/
def im_va (sh : im_Sh) : List Value → Bool
  | [] => true
  | .ref k :: r => Nat.blt k sh.length && im_va sh r
  | _ :: r => im_va sh r
abbrev im_in (i : Int32) (n : Nat) : Prop := ¬ (i < 0 ∨ n ≤ i.toNatClampNeg)
section IMDO
variable (na : Nat → Nat) (rc : Nat → Nat)
/-- a call: Object's constructor and arraycopy are done at once -/
def im_inv (nx a : Nat) (L st : List Value) (sh : im_Sh) (mi : im_MI) (mr : im_MR) : Option im_R :=
    bif Nat.beq a 900 then (match st with
      | .ref _ :: st => if im_cat st ≤ 8 then im_nx nx L st sh mi mr else none
      | _ => none)
    else bif Nat.beq a 901 then (match st with
      | .int n :: .int dp :: .ref q :: .int sp :: .ref r :: st => match sh[r]?, sh[q]? with
        | some (k0, n0), some (k1, n1) => if k0 = 100 ∧ k1 = 100 ∧ ¬ sp < 0 ∧ ¬ dp < 0 ∧ ¬ n < 0 ∧ sp.toNatClampNeg + n.toNatClampNeg ≤ n0 ∧ dp.toNatClampNeg + n.toNatClampNeg ≤ n1 ∧ im_cat st ≤ 8
          then im_nx nx L st sh (im_row mi q (va_cpy (mi r) (mi q) sp.toNatClampNeg dp.toNatClampNeg n.toNatClampNeg)) mr else none
        | _, _ => none
      | _ => none)
    else bif Nat.ble 900 a then none
    else (if na a ≤ st.length ∧ im_cat (st.drop (na a)) ≤ 8 then
      (match rc a with
      | 0 => some (.inr (.inr (a, (st.take (na a)).reverse, nx, st.drop (na a))))
      | k + 1 => match (st.take (na a)).reverse with
        | .ref r :: as => match sh[r]? with
          | some (k2, _) => if k2 = k then some (.inr (.inr (a, .ref r :: as, nx, st.drop (na a)))) else none
          | none => none
        | _ => none) else none)
variable (nf : Nat → Nat) (ft : Nat → Nat → Nat)
/-- one instruction: pc, the next place nx, the resolved operands a b; rt: what the method returns; na: how many a method takes, rc: 1 more than the class of who must be there (0: any), nf: how many fields, ft: a field's kind (0 number, 1 reference, 2 truth) -/
def im_do (rt : Option FieldType) (pc nx a b : Nat) (ins : Instr) (L st : List Value) (sh : im_Sh) (mi : im_MI) (mr : im_MR) : Option im_R :=
  match ins with
  | .aconst_null => im_nx nx L (.null :: st) sh mi mr
  | .iconst n => im_nx nx L (.int (Int32.ofInt n) :: st) sh mi mr
  | .bipush n => im_nx nx L (.int (Int8.ofInt n).toInt32 :: st) sh mi mr
  | .sipush n => im_nx nx L (.int (Int16.ofInt n).toInt32 :: st) sh mi mr
  | .lconst n => im_nx nx L (.long (Int64.ofNat n.val) :: st) sh mi mr
  | .iload i => match L[i]? with
    | some (.int x) => im_nx nx L (.int x :: st) sh mi mr
    | _ => none
  | .iload_n i => match L[i.val]? with
    | some (.int x) => im_nx nx L (.int x :: st) sh mi mr
    | _ => none
  | .lload i => match L[i]? with
    | some (.long x) => im_nx nx L (.long x :: st) sh mi mr
    | _ => none
  | .lload_n i => match L[i.val]? with
    | some (.long x) => im_nx nx L (.long x :: st) sh mi mr
    | _ => none
  | .aload i => match L[i]? with
    | some (.ref x) => im_nx nx L (.ref x :: st) sh mi mr
    | some .null => im_nx nx L (.null :: st) sh mi mr
    | _ => none
  | .aload_n i => match L[i.val]? with
    | some (.ref x) => im_nx nx L (.ref x :: st) sh mi mr
    | some .null => im_nx nx L (.null :: st) sh mi mr
    | _ => none
  | .istore i => match st with
    | .int x :: st => if i < L.length then im_nx nx (im_set1 L i (.int x)) st sh mi mr else none
    | _ => none
  | .istore_n i => match st with
    | .int x :: st => if i.val < L.length then im_nx nx (im_set1 L i.val (.int x)) st sh mi mr else none
    | _ => none
  | .lstore i => match st with
    | .long x :: st => if i + 1 < L.length then im_nx nx (im_set2 L i (.long x)) st sh mi mr else none
    | _ => none
  | .lstore_n i => match st with
    | .long x :: st => if i.val + 1 < L.length then im_nx nx (im_set2 L i.val (.long x)) st sh mi mr else none
    | _ => none
  | .astore i => match st with
    | .ref x :: st => if i < L.length then im_nx nx (im_set1 L i (.ref x)) st sh mi mr else none
    | .null :: st => if i < L.length then im_nx nx (im_set1 L i .null) st sh mi mr else none
    | _ => none
  | .astore_n i => match st with
    | .ref x :: st => if i.val < L.length then im_nx nx (im_set1 L i.val (.ref x)) st sh mi mr else none
    | .null :: st => if i.val < L.length then im_nx nx (im_set1 L i.val .null) st sh mi mr else none
    | _ => none
  | .iinc i n => match L[i]? with
    | some (.int x) => im_nx nx (im_set1 L i (.int (x + Int32.ofInt n))) st sh mi mr
    | _ => none
  | .iadd => match st with
    | .int y :: .int x :: st => im_nx nx L (.int (x + y) :: st) sh mi mr
    | _ => none
  | .isub => match st with
    | .int y :: .int x :: st => im_nx nx L (.int (x - y) :: st) sh mi mr
    | _ => none
  | .imul => match st with
    | .int y :: .int x :: st => im_nx nx L (.int (x * y) :: st) sh mi mr
    | _ => none
  | .idiv => match st with
    | .int y :: .int x :: st => if y = 0 then none else im_nx nx L (.int (x / y) :: st) sh mi mr
    | _ => none
  | .irem => match st with
    | .int y :: .int x :: st => if y = 0 then none else im_nx nx L (.int (x - x / y * y) :: st) sh mi mr
    | _ => none
  | .iand => match st with
    | .int y :: .int x :: st => im_nx nx L (.int (x &&& y) :: st) sh mi mr
    | _ => none
  | .ior => match st with
    | .int y :: .int x :: st => im_nx nx L (.int (x ||| y) :: st) sh mi mr
    | _ => none
  | .ixor => match st with
    | .int y :: .int x :: st => im_nx nx L (.int (x ^^^ y) :: st) sh mi mr
    | _ => none
  | .ishl => match st with
    | .int y :: .int x :: st => im_nx nx L (.int (x <<< (y &&& 31)) :: st) sh mi mr
    | _ => none
  | .ishr => match st with
    | .int y :: .int x :: st => im_nx nx L (.int (x >>> (y &&& 31)) :: st) sh mi mr
    | _ => none
  | .iushr => match st with
    | .int y :: .int x :: st => im_nx nx L (.int (x.toUInt32 >>> (y.toUInt32 &&& Int32.toUInt32 31)).toInt32 :: st) sh mi mr
    | _ => none
  | .ineg => match st with
    | .int x :: st => im_nx nx L (.int (-x) :: st) sh mi mr
    | _ => none
  | .ladd => match st with
    | .long y :: .long x :: st => im_nx nx L (.long (x + y) :: st) sh mi mr
    | _ => none
  | .lmul => match st with
    | .long y :: .long x :: st => im_nx nx L (.long (x * y) :: st) sh mi mr
    | _ => none
  | .ldiv => match st with
    | .long y :: .long x :: st => if y = 0 then none else im_nx nx L (.long (x / y) :: st) sh mi mr
    | _ => none
  | .lrem => match st with
    | .long y :: .long x :: st => if y = 0 then none else im_nx nx L (.long (x - x / y * y) :: st) sh mi mr
    | _ => none
  | .lcmp => match st with
    | .long y :: .long x :: st => im_nx nx L (.int (lg_cmp x y) :: st) sh mi mr
    | _ => none
  | .i2l => match st with
    | .int x :: st => im_nx nx L (.long x.toInt64 :: st) sh mi mr
    | _ => none
  | .i2b => match st with
    | .int x :: st => im_nx nx L (.int x.toInt8.toInt32 :: st) sh mi mr
    | _ => none
  | .i2s => match st with
    | .int x :: st => im_nx nx L (.int x.toInt16.toInt32 :: st) sh mi mr
    | _ => none
  | .i2c => match st with
    | .int x :: st => im_nx nx L (.int (x.toUInt32 % 65536).toInt32 :: st) sh mi mr
    | _ => none
  | .pop => match st with
    | v :: st => if v.category = 1 then im_nx nx L st sh mi mr else none
    | _ => none
  | .dup => match st with
    | v :: st => if v.category = 1 then im_nx nx L (v :: v :: st) sh mi mr else none
    | _ => none
  | .dup_x1 => match st with
    | v :: w :: st => if v.category = 1 ∧ w.category = 1 then im_nx nx L (v :: w :: v :: st) sh mi mr else none
    | _ => none
  | .dup2 => match st with
    | v :: w :: st => if v.category = 1 ∧ w.category = 1 then im_nx nx L (v :: w :: v :: w :: st) sh mi mr else none
    | _ => none
  | .ifCond c _ => match st with
    | .int x :: st => if im_br c x 0 = true then im_nx a L st sh mi mr else im_nx nx L st sh mi mr
    | _ => none
  | .if_icmp c _ => match st with
    | .int y :: .int x :: st => if im_br c x y = true then im_nx a L st sh mi mr else im_nx nx L st sh mi mr
    | _ => none
  | .ifnull _ => match st with
    | .null :: st => im_nx a L st sh mi mr
    | .ref _ :: st => im_nx nx L st sh mi mr
    | _ => none
  | .ifnonnull _ => match st with
    | .null :: st => im_nx nx L st sh mi mr
    | .ref _ :: st => im_nx a L st sh mi mr
    | _ => none
  | .goto _ => im_nx a L st sh mi mr
  | .tableswitch d lo hi offs => match st with
    | .int x :: st => match im_ts pc d lo hi offs x with
      | some t => im_nx t L st sh mi mr
      | none => none
    | _ => none
  | .lookupswitch d ps => match st with
    | .int x :: st => match im_ls pc d ps x with
      | some t => im_nx t L st sh mi mr
      | none => none
    | _ => none
  | .getfield _ => match st with
    | .ref r :: st => match sh[r]? with
      | some (k, n) => if k = a ∧ b < n then im_nx nx L (im_rd (ft a b) (mr r b) (mi r b) :: st) sh mi mr else none
      | none => none
    | _ => none
  | .putfield _ => match st with
    | v :: .ref r :: st => match sh[r]? with
      | some (k, n) => if k = a ∧ b < n ∧ a < 20 then
          (match ft a b, v with
          | 0, .int x => im_nx nx L st sh (im_u mi r b x) mr
          | 1, .null => im_nx nx L st sh mi (im_u mr r b none)
          | 1, .ref q => if q < sh.length then im_nx nx L st sh mi (im_u mr r b (some q)) else none
          | 2, .int x => if x = 0 ∨ x = 1 then im_nx nx L st sh (im_u mi r b x) mr else none
          | _, _ => none) else none
      | none => none
    | _ => none
  | .getstatic _ => match a with
    | 30 => im_nx nx L (.ref 1 :: st) sh mi mr
    | 31 => im_nx nx L (.int 1 :: st) sh mi mr
    | 32 => im_nx nx L (.ref 2 :: st) sh mi mr
    | _ => none
  | .iaload => match st with
    | .int i :: .ref r :: st => match sh[r]? with
      | some (k, n) => if (k = 100 ∨ k = 200) ∧ im_in i n then im_nx nx L (.int (mi r i.toNatClampNeg) :: st) sh mi mr else none
      | none => none
    | _ => none
  | .caload => match st with
    | .int i :: .ref r :: st => match sh[r]? with
      | some (k, n) => if k = 101 ∧ im_in i n then im_nx nx L (.int (mi r i.toNatClampNeg) :: st) sh mi mr else none
      | none => none
    | _ => none
  | .baload => match st with
    | .int i :: .ref r :: st => match sh[r]? with
      | some (k, n) => if k = 204 ∧ im_in i n then im_nx nx L (.int (mi r i.toNatClampNeg) :: st) sh mi mr else none
      | none => none
    | _ => none
  | .aaload => match st with
    | .int i :: .ref r :: st => match sh[r]? with
      | some (k, n) => if 110 ≤ k ∧ k < 120 ∧ im_in i n then im_nx nx L (im_rv (mr r i.toNatClampNeg) :: st) sh mi mr else none
      | none => none
    | _ => none
  | .iastore => match st with
    | .int x :: .int i :: .ref r :: st => match sh[r]? with
      | some (k, n) => if k = 100 ∧ im_in i n then im_nx nx L st sh (im_u mi r i.toNatClampNeg x) mr else none
      | none => none
    | _ => none
  | .castore => match st with
    | .int x :: .int i :: .ref r :: st => match sh[r]? with
      | some (k, n) => if k = 101 ∧ im_in i n then im_nx nx L st sh (im_u mi r i.toNatClampNeg (vp_nar .char x)) mr else none
      | none => none
    | _ => none
  | .aastore => match st with
    | .ref q :: .int i :: .ref r :: st => match sh[r]?, sh[q]? with
      | some (k, n), some (k2, _) => if 110 ≤ k ∧ k < 120 ∧ im_in i n ∧ 110 + k2 = k then im_nx nx L st sh mi (im_u mr r i.toNatClampNeg (some q)) else none
      | _, _ => none
    | _ => none
  | .arraylength => match st with
    | .ref r :: st => match sh[r]? with
      | some (k, n) => if k = 100 ∨ k = 101 ∨ k = 200 ∨ k = 204 then im_nx nx L (.int (Int32.ofNat n) :: st) sh mi mr else none
      | none => none
    | _ => none
  | .newarray t => match t, st with
    | .int, .int n :: st => if ¬ n < 0 ∧ n.toNatClampNeg ≤ 100000 ∧ im_va sh L = true ∧ im_va sh st = true then im_nx nx L (.ref sh.length :: st) (sh ++ [(100, n.toNatClampNeg)]) (im_row mi sh.length fun _ => 0) (im_row mr sh.length fun _ => none) else none
    | .char, .int n :: st => if ¬ n < 0 ∧ n.toNatClampNeg ≤ 100000 ∧ im_va sh L = true ∧ im_va sh st = true then im_nx nx L (.ref sh.length :: st) (sh ++ [(101, n.toNatClampNeg)]) (im_row mi sh.length fun _ => 0) (im_row mr sh.length fun _ => none) else none
    | _, _ => none
  | .anewarray _ => match st with
    | .int n :: st => if ¬ n < 0 ∧ n.toNatClampNeg ≤ 100000 ∧ a < 10 ∧ im_va sh L = true ∧ im_va sh st = true then im_nx nx L (.ref sh.length :: st) (sh ++ [(110 + a, n.toNatClampNeg)]) (im_row mi sh.length fun _ => 0) (im_row mr sh.length fun _ => none) else none
    | _ => none
  | .new _ => if a < 10 ∧ im_va sh L = true ∧ im_va sh st = true then im_nx nx L (.ref sh.length :: st) (sh ++ [(a, nf a)]) (im_row mi sh.length fun _ => 0) (im_row mr sh.length fun _ => none) else none
  | .ldc _ => match b with
    | 0 => im_nx nx L (.int (Int32.ofNat a) :: st) sh mi mr
    | 1 => im_nx nx L (.ref (3 + a) :: st) sh mi mr
    | _ => none
  | .ldc_w _ => match b with
    | 0 => im_nx nx L (.int (Int32.ofNat a) :: st) sh mi mr
    | _ => none
  | .ldc2_w _ => match b with
    | 0 => im_nx nx L (.long (Int64.ofNat a) :: st) sh mi mr
    | _ => none
  | .ireturn => match st, rt with
    | [.int v], some t => if narrow t (.int v) = .int v then some (.inr (.inl (.int v))) else none
    | _, _ => none
  | .lreturn => match st with
    | [.long v] => some (.inr (.inl (.long v)))
    | _ => none
  | .areturn => match st with
    | [.ref v] => some (.inr (.inl (.ref v)))
    | [.null] => some (.inr (.inl .null))
    | _ => none
  | .return_ => match st with
    | [] => some (.inr (.inl im_bad))
    | _ => none
  | .invokevirtual _ | .invokespecial _ | .invokestatic _ => im_inv na rc nx a L st sh mi mr
  | _ => none
end IMDO
/-- a table of instructions, in lumps: each with the place behind its last one -/
abbrev im_E : Type := Nat × Nat × Instr × Nat × Nat × Nat
def im_find : List im_E → Nat → Option (Nat × Instr × Nat × Nat × Nat)
  | [], _ => none
  | e :: r, pc => bif Nat.beq e.1 pc then some e.2 else im_find r pc
def im_find2 : List (Nat × List im_E) → Nat → Option (Nat × Instr × Nat × Nat × Nat)
  | [], _ => none
  | c :: r, pc => bif Nat.blt pc c.1 then im_find c.2 pc else im_find2 r pc
theorem im_find_mem : ∀ (l : List im_E) (pc : Nat) (e : Nat × Instr × Nat × Nat × Nat), im_find l pc = some e → (pc, e) ∈ l
  | [], _, _, h => by cases h
  | x :: r, pc, e, h => by
    unfold im_find at h
    cases hb : Nat.beq x.1 pc with
    | true =>
      rw [hb] at h
      have h1 : x.1 = pc := Nat.eq_of_beq_eq_true hb
      have h2 : x.2 = e := Option.some.inj h
      rw [← h1, ← h2]
      exact List.mem_cons_self
    | false =>
      rw [hb] at h
      exact List.mem_cons_of_mem _ (im_find_mem r pc e h)
theorem im_find2_mem : ∀ (l : List (Nat × List im_E)) (pc : Nat) (e : Nat × Instr × Nat × Nat × Nat), im_find2 l pc = some e → ∃ c ∈ l, (pc, e) ∈ c.2
  | [], _, _, h => by cases h
  | x :: r, pc, e, h => by
    unfold im_find2 at h
    cases hb : Nat.blt pc x.1 with
    | true =>
      rw [hb] at h
      exact ⟨x, List.mem_cons_self, im_find_mem _ _ _ h⟩
    | false =>
      rw [hb] at h
      obtain ⟨c, h1, h2⟩ := im_find2_mem r pc e h
      exact ⟨c, List.mem_cons_of_mem _ h1, h2⟩
