/-! ===== PURE: a row an instruction ===== -/
theorem is_null {y pc nx a b c : Nat} {L st : List Value} {sh : im_Sh} {mi : im_MI} {mr : im_MR} (hi : im_ins y pc = some (nx, .aconst_null, a, b, c)) : im_step y pc L st sh mi mr = im_nx nx L (.null :: st) sh mi mr := by
  simp only [im_step, hi, im_do]
theorem is_iconst {y pc nx a b c : Nat} {L st : List Value} {sh : im_Sh} {mi : im_MI} {mr : im_MR} {n : Int} (v : Int32) (hi : im_ins y pc = some (nx, .iconst n, a, b, c)) (hv : Int32.ofInt n = v) : im_step y pc L st sh mi mr = im_nx nx L (.int v :: st) sh mi mr := by
  simp only [im_step, hi, im_do, hv]
theorem is_bipush {y pc nx a b c : Nat} {L st : List Value} {sh : im_Sh} {mi : im_MI} {mr : im_MR} {n : Int} (v : Int32) (hi : im_ins y pc = some (nx, .bipush n, a, b, c)) (hv : (Int8.ofInt n).toInt32 = v) : im_step y pc L st sh mi mr = im_nx nx L (.int v :: st) sh mi mr := by
  simp only [im_step, hi, im_do, hv]
theorem is_sipush {y pc nx a b c : Nat} {L st : List Value} {sh : im_Sh} {mi : im_MI} {mr : im_MR} {n : Int} (v : Int32) (hi : im_ins y pc = some (nx, .sipush n, a, b, c)) (hv : (Int16.ofInt n).toInt32 = v) : im_step y pc L st sh mi mr = im_nx nx L (.int v :: st) sh mi mr := by
  simp only [im_step, hi, im_do, hv]
theorem is_lconst {y pc nx a b c : Nat} {L st : List Value} {sh : im_Sh} {mi : im_MI} {mr : im_MR} {n : Fin 2} (v : Int64) (hi : im_ins y pc = some (nx, .lconst n, a, b, c)) (hv : Int64.ofNat n.val = v) : im_step y pc L st sh mi mr = im_nx nx L (.long v :: st) sh mi mr := by
  simp only [im_step, hi, im_do, hv]
theorem is_iload {y pc nx a b c : Nat} {L st : List Value} {sh : im_Sh} {mi : im_MI} {mr : im_MR} {i : Nat} {x : Int32} (hi : im_ins y pc = some (nx, .iload i, a, b, c)) (hx : L[i]? = some (.int x)) : im_step y pc L st sh mi mr = im_nx nx L (.int x :: st) sh mi mr := by
  simp only [im_step, hi, im_do, hx]
theorem is_iload_n {y pc nx a b c : Nat} {L st : List Value} {sh : im_Sh} {mi : im_MI} {mr : im_MR} {i : Fin 4} {x : Int32} (hi : im_ins y pc = some (nx, .iload_n i, a, b, c)) (hx : L[i.val]? = some (.int x)) : im_step y pc L st sh mi mr = im_nx nx L (.int x :: st) sh mi mr := by
  simp only [im_step, hi, im_do, hx]
theorem is_lload {y pc nx a b c : Nat} {L st : List Value} {sh : im_Sh} {mi : im_MI} {mr : im_MR} {i : Nat} {x : Int64} (hi : im_ins y pc = some (nx, .lload i, a, b, c)) (hx : L[i]? = some (.long x)) : im_step y pc L st sh mi mr = im_nx nx L (.long x :: st) sh mi mr := by
  simp only [im_step, hi, im_do, hx]
theorem is_lload_n {y pc nx a b c : Nat} {L st : List Value} {sh : im_Sh} {mi : im_MI} {mr : im_MR} {i : Fin 4} {x : Int64} (hi : im_ins y pc = some (nx, .lload_n i, a, b, c)) (hx : L[i.val]? = some (.long x)) : im_step y pc L st sh mi mr = im_nx nx L (.long x :: st) sh mi mr := by
  simp only [im_step, hi, im_do, hx]
theorem is_aload {y pc nx a b c : Nat} {L st : List Value} {sh : im_Sh} {mi : im_MI} {mr : im_MR} {i : Nat} {x : Nat} (hi : im_ins y pc = some (nx, .aload i, a, b, c)) (hx : L[i]? = some (.ref x)) : im_step y pc L st sh mi mr = im_nx nx L (.ref x :: st) sh mi mr := by
  simp only [im_step, hi, im_do, hx]
theorem is_aloadN {y pc nx a b c : Nat} {L st : List Value} {sh : im_Sh} {mi : im_MI} {mr : im_MR} {i : Nat} (hi : im_ins y pc = some (nx, .aload i, a, b, c)) (hx : L[i]? = some .null) : im_step y pc L st sh mi mr = im_nx nx L (.null :: st) sh mi mr := by
  simp only [im_step, hi, im_do, hx]
theorem is_aload_n {y pc nx a b c : Nat} {L st : List Value} {sh : im_Sh} {mi : im_MI} {mr : im_MR} {i : Fin 4} {x : Nat} (hi : im_ins y pc = some (nx, .aload_n i, a, b, c)) (hx : L[i.val]? = some (.ref x)) : im_step y pc L st sh mi mr = im_nx nx L (.ref x :: st) sh mi mr := by
  simp only [im_step, hi, im_do, hx]
theorem is_aload_nN {y pc nx a b c : Nat} {L st : List Value} {sh : im_Sh} {mi : im_MI} {mr : im_MR} {i : Fin 4} (hi : im_ins y pc = some (nx, .aload_n i, a, b, c)) (hx : L[i.val]? = some .null) : im_step y pc L st sh mi mr = im_nx nx L (.null :: st) sh mi mr := by
  simp only [im_step, hi, im_do, hx]
theorem is_istore {y pc nx a b c : Nat} {L st : List Value} {sh : im_Sh} {mi : im_MI} {mr : im_MR} {i : Nat} {x : Int32} (L2 : List Value) (hi : im_ins y pc = some (nx, .istore i, a, b, c)) (hl : Nat.blt (i) L.length = true) (hL : im_set1 L i (.int x) = L2) : im_step y pc L (.int x :: st) sh mi mr = im_nx nx L2 st sh mi mr := by
  simp only [im_step, hi, im_do, if_pos (Nat.blt_eq.mp hl), hL]
theorem is_istore_n {y pc nx a b c : Nat} {L st : List Value} {sh : im_Sh} {mi : im_MI} {mr : im_MR} {i : Fin 4} {x : Int32} (L2 : List Value) (hi : im_ins y pc = some (nx, .istore_n i, a, b, c)) (hl : Nat.blt (i.val) L.length = true) (hL : im_set1 L i.val (.int x) = L2) : im_step y pc L (.int x :: st) sh mi mr = im_nx nx L2 st sh mi mr := by
  simp only [im_step, hi, im_do, if_pos (Nat.blt_eq.mp hl), hL]
theorem is_lstore {y pc nx a b c : Nat} {L st : List Value} {sh : im_Sh} {mi : im_MI} {mr : im_MR} {i : Nat} {x : Int64} (L2 : List Value) (hi : im_ins y pc = some (nx, .lstore i, a, b, c)) (hl : Nat.blt (i + 1) L.length = true) (hL : im_set2 L i (.long x) = L2) : im_step y pc L (.long x :: st) sh mi mr = im_nx nx L2 st sh mi mr := by
  simp only [im_step, hi, im_do, if_pos (Nat.blt_eq.mp hl), hL]
theorem is_lstore_n {y pc nx a b c : Nat} {L st : List Value} {sh : im_Sh} {mi : im_MI} {mr : im_MR} {i : Fin 4} {x : Int64} (L2 : List Value) (hi : im_ins y pc = some (nx, .lstore_n i, a, b, c)) (hl : Nat.blt (i.val + 1) L.length = true) (hL : im_set2 L i.val (.long x) = L2) : im_step y pc L (.long x :: st) sh mi mr = im_nx nx L2 st sh mi mr := by
  simp only [im_step, hi, im_do, if_pos (Nat.blt_eq.mp hl), hL]
theorem is_astore {y pc nx a b c : Nat} {L st : List Value} {sh : im_Sh} {mi : im_MI} {mr : im_MR} {i : Nat} {x : Nat} (L2 : List Value) (hi : im_ins y pc = some (nx, .astore i, a, b, c)) (hl : Nat.blt (i) L.length = true) (hL : im_set1 L i (.ref x) = L2) : im_step y pc L (.ref x :: st) sh mi mr = im_nx nx L2 st sh mi mr := by
  simp only [im_step, hi, im_do, if_pos (Nat.blt_eq.mp hl), hL]
theorem is_astore_n {y pc nx a b c : Nat} {L st : List Value} {sh : im_Sh} {mi : im_MI} {mr : im_MR} {i : Fin 4} {x : Nat} (L2 : List Value) (hi : im_ins y pc = some (nx, .astore_n i, a, b, c)) (hl : Nat.blt (i.val) L.length = true) (hL : im_set1 L i.val (.ref x) = L2) : im_step y pc L (.ref x :: st) sh mi mr = im_nx nx L2 st sh mi mr := by
  simp only [im_step, hi, im_do, if_pos (Nat.blt_eq.mp hl), hL]
theorem is_astoreN {y pc nx a b c : Nat} {L st : List Value} {sh : im_Sh} {mi : im_MI} {mr : im_MR} {i : Nat} (L2 : List Value) (hi : im_ins y pc = some (nx, .astore i, a, b, c)) (hl : Nat.blt i L.length = true) (hL : im_set1 L i .null = L2) : im_step y pc L (.null :: st) sh mi mr = im_nx nx L2 st sh mi mr := by
  simp only [im_step, hi, im_do, if_pos (Nat.blt_eq.mp hl), hL]
theorem is_astore_nN {y pc nx a b c : Nat} {L st : List Value} {sh : im_Sh} {mi : im_MI} {mr : im_MR} {i : Fin 4} (L2 : List Value) (hi : im_ins y pc = some (nx, .astore_n i, a, b, c)) (hl : Nat.blt i.val L.length = true) (hL : im_set1 L i.val .null = L2) : im_step y pc L (.null :: st) sh mi mr = im_nx nx L2 st sh mi mr := by
  simp only [im_step, hi, im_do, if_pos (Nat.blt_eq.mp hl), hL]
theorem is_iinc {y pc nx a b c : Nat} {L st : List Value} {sh : im_Sh} {mi : im_MI} {mr : im_MR} {i : Nat} {n : Int} {x : Int32} (v : Int32) (L2 : List Value) (hi : im_ins y pc = some (nx, .iinc i n, a, b, c)) (hx : L[i]? = some (.int x)) (hv : x + Int32.ofInt n = v) (hL : im_set1 L i (.int v) = L2) : im_step y pc L st sh mi mr = im_nx nx L2 st sh mi mr := by
  simp only [im_step, hi, im_do, hx, hv, hL]
theorem is_iadd {y pc nx a b c : Nat} {L st : List Value} {sh : im_Sh} {mi : im_MI} {mr : im_MR} {x z : Int32} (v : Int32) (hi : im_ins y pc = some (nx, .iadd, a, b, c)) (hv : x + z = v) : im_step y pc L (.int z :: .int x :: st) sh mi mr = im_nx nx L (.int v :: st) sh mi mr := by
  simp only [im_step, hi, im_do, hv]
theorem is_isub {y pc nx a b c : Nat} {L st : List Value} {sh : im_Sh} {mi : im_MI} {mr : im_MR} {x z : Int32} (v : Int32) (hi : im_ins y pc = some (nx, .isub, a, b, c)) (hv : x - z = v) : im_step y pc L (.int z :: .int x :: st) sh mi mr = im_nx nx L (.int v :: st) sh mi mr := by
  simp only [im_step, hi, im_do, hv]
theorem is_imul {y pc nx a b c : Nat} {L st : List Value} {sh : im_Sh} {mi : im_MI} {mr : im_MR} {x z : Int32} (v : Int32) (hi : im_ins y pc = some (nx, .imul, a, b, c)) (hv : x * z = v) : im_step y pc L (.int z :: .int x :: st) sh mi mr = im_nx nx L (.int v :: st) sh mi mr := by
  simp only [im_step, hi, im_do, hv]
theorem is_iand {y pc nx a b c : Nat} {L st : List Value} {sh : im_Sh} {mi : im_MI} {mr : im_MR} {x z : Int32} (v : Int32) (hi : im_ins y pc = some (nx, .iand, a, b, c)) (hv : x &&& z = v) : im_step y pc L (.int z :: .int x :: st) sh mi mr = im_nx nx L (.int v :: st) sh mi mr := by
  simp only [im_step, hi, im_do, hv]
theorem is_ior {y pc nx a b c : Nat} {L st : List Value} {sh : im_Sh} {mi : im_MI} {mr : im_MR} {x z : Int32} (v : Int32) (hi : im_ins y pc = some (nx, .ior, a, b, c)) (hv : x ||| z = v) : im_step y pc L (.int z :: .int x :: st) sh mi mr = im_nx nx L (.int v :: st) sh mi mr := by
  simp only [im_step, hi, im_do, hv]
theorem is_ixor {y pc nx a b c : Nat} {L st : List Value} {sh : im_Sh} {mi : im_MI} {mr : im_MR} {x z : Int32} (v : Int32) (hi : im_ins y pc = some (nx, .ixor, a, b, c)) (hv : x ^^^ z = v) : im_step y pc L (.int z :: .int x :: st) sh mi mr = im_nx nx L (.int v :: st) sh mi mr := by
  simp only [im_step, hi, im_do, hv]
theorem is_ishl {y pc nx a b c : Nat} {L st : List Value} {sh : im_Sh} {mi : im_MI} {mr : im_MR} {x z : Int32} (v : Int32) (hi : im_ins y pc = some (nx, .ishl, a, b, c)) (hv : x <<< (z &&& 31) = v) : im_step y pc L (.int z :: .int x :: st) sh mi mr = im_nx nx L (.int v :: st) sh mi mr := by
  simp only [im_step, hi, im_do, hv]
theorem is_ishr {y pc nx a b c : Nat} {L st : List Value} {sh : im_Sh} {mi : im_MI} {mr : im_MR} {x z : Int32} (v : Int32) (hi : im_ins y pc = some (nx, .ishr, a, b, c)) (hv : x >>> (z &&& 31) = v) : im_step y pc L (.int z :: .int x :: st) sh mi mr = im_nx nx L (.int v :: st) sh mi mr := by
  simp only [im_step, hi, im_do, hv]
theorem is_iushr {y pc nx a b c : Nat} {L st : List Value} {sh : im_Sh} {mi : im_MI} {mr : im_MR} {x z : Int32} (v : Int32) (hi : im_ins y pc = some (nx, .iushr, a, b, c)) (hv : (x.toUInt32 >>> (z.toUInt32 &&& Int32.toUInt32 31)).toInt32 = v) : im_step y pc L (.int z :: .int x :: st) sh mi mr = im_nx nx L (.int v :: st) sh mi mr := by
  simp only [im_step, hi, im_do, hv]
theorem is_ladd {y pc nx a b c : Nat} {L st : List Value} {sh : im_Sh} {mi : im_MI} {mr : im_MR} {x z : Int64} (v : Int64) (hi : im_ins y pc = some (nx, .ladd, a, b, c)) (hv : x + z = v) : im_step y pc L (.long z :: .long x :: st) sh mi mr = im_nx nx L (.long v :: st) sh mi mr := by
  simp only [im_step, hi, im_do, hv]
theorem is_lmul {y pc nx a b c : Nat} {L st : List Value} {sh : im_Sh} {mi : im_MI} {mr : im_MR} {x z : Int64} (v : Int64) (hi : im_ins y pc = some (nx, .lmul, a, b, c)) (hv : x * z = v) : im_step y pc L (.long z :: .long x :: st) sh mi mr = im_nx nx L (.long v :: st) sh mi mr := by
  simp only [im_step, hi, im_do, hv]
theorem is_lcmp {y pc nx a b c : Nat} {L st : List Value} {sh : im_Sh} {mi : im_MI} {mr : im_MR} {x z : Int64} (v : Int32) (hi : im_ins y pc = some (nx, .lcmp, a, b, c)) (hv : lg_cmp x z = v) : im_step y pc L (.long z :: .long x :: st) sh mi mr = im_nx nx L (.int v :: st) sh mi mr := by
  simp only [im_step, hi, im_do, hv]
theorem is_idiv {y pc nx a b c : Nat} {L st : List Value} {sh : im_Sh} {mi : im_MI} {mr : im_MR} {x z : Int32} (v : Int32) (hi : im_ins y pc = some (nx, .idiv, a, b, c)) (hz : ¬ z = 0) (hv : x / z = v) : im_step y pc L (.int z :: .int x :: st) sh mi mr = im_nx nx L (.int v :: st) sh mi mr := by
  simp only [im_step, hi, im_do, if_neg hz, hv]
theorem is_irem {y pc nx a b c : Nat} {L st : List Value} {sh : im_Sh} {mi : im_MI} {mr : im_MR} {x z : Int32} (v : Int32) (hi : im_ins y pc = some (nx, .irem, a, b, c)) (hz : ¬ z = 0) (hv : x - x / z * z = v) : im_step y pc L (.int z :: .int x :: st) sh mi mr = im_nx nx L (.int v :: st) sh mi mr := by
  simp only [im_step, hi, im_do, if_neg hz, hv]
theorem is_ldiv {y pc nx a b c : Nat} {L st : List Value} {sh : im_Sh} {mi : im_MI} {mr : im_MR} {x z : Int64} (v : Int64) (hi : im_ins y pc = some (nx, .ldiv, a, b, c)) (hz : ¬ z = 0) (hv : x / z = v) : im_step y pc L (.long z :: .long x :: st) sh mi mr = im_nx nx L (.long v :: st) sh mi mr := by
  simp only [im_step, hi, im_do, if_neg hz, hv]
theorem is_lrem {y pc nx a b c : Nat} {L st : List Value} {sh : im_Sh} {mi : im_MI} {mr : im_MR} {x z : Int64} (v : Int64) (hi : im_ins y pc = some (nx, .lrem, a, b, c)) (hz : ¬ z = 0) (hv : x - x / z * z = v) : im_step y pc L (.long z :: .long x :: st) sh mi mr = im_nx nx L (.long v :: st) sh mi mr := by
  simp only [im_step, hi, im_do, if_neg hz, hv]
theorem is_ineg {y pc nx a b c : Nat} {L st : List Value} {sh : im_Sh} {mi : im_MI} {mr : im_MR} {x : Int32} (v : Int32) (hi : im_ins y pc = some (nx, .ineg, a, b, c)) (hv : -x = v) : im_step y pc L (.int x :: st) sh mi mr = im_nx nx L (.int v :: st) sh mi mr := by
  simp only [im_step, hi, im_do, hv]
theorem is_i2l {y pc nx a b c : Nat} {L st : List Value} {sh : im_Sh} {mi : im_MI} {mr : im_MR} {x : Int32} (v : Int64) (hi : im_ins y pc = some (nx, .i2l, a, b, c)) (hv : x.toInt64 = v) : im_step y pc L (.int x :: st) sh mi mr = im_nx nx L (.long v :: st) sh mi mr := by
  simp only [im_step, hi, im_do, hv]
theorem is_i2b {y pc nx a b c : Nat} {L st : List Value} {sh : im_Sh} {mi : im_MI} {mr : im_MR} {x : Int32} (v : Int32) (hi : im_ins y pc = some (nx, .i2b, a, b, c)) (hv : x.toInt8.toInt32 = v) : im_step y pc L (.int x :: st) sh mi mr = im_nx nx L (.int v :: st) sh mi mr := by
  simp only [im_step, hi, im_do, hv]
theorem is_i2s {y pc nx a b c : Nat} {L st : List Value} {sh : im_Sh} {mi : im_MI} {mr : im_MR} {x : Int32} (v : Int32) (hi : im_ins y pc = some (nx, .i2s, a, b, c)) (hv : x.toInt16.toInt32 = v) : im_step y pc L (.int x :: st) sh mi mr = im_nx nx L (.int v :: st) sh mi mr := by
  simp only [im_step, hi, im_do, hv]
theorem is_i2c {y pc nx a b c : Nat} {L st : List Value} {sh : im_Sh} {mi : im_MI} {mr : im_MR} {x : Int32} (v : Int32) (hi : im_ins y pc = some (nx, .i2c, a, b, c)) (hv : (x.toUInt32 % 65536).toInt32 = v) : im_step y pc L (.int x :: st) sh mi mr = im_nx nx L (.int v :: st) sh mi mr := by
  simp only [im_step, hi, im_do, hv]
theorem is_pop {y pc nx a b c : Nat} {L st : List Value} {sh : im_Sh} {mi : im_MI} {mr : im_MR} {v : Value} (hi : im_ins y pc = some (nx, .pop, a, b, c)) (hc : v.category = 1) : im_step y pc L (v :: st) sh mi mr = im_nx nx L st sh mi mr := by
  simp only [im_step, hi, im_do, if_pos hc]
theorem is_dup {y pc nx a b c : Nat} {L st : List Value} {sh : im_Sh} {mi : im_MI} {mr : im_MR} {v : Value} (hi : im_ins y pc = some (nx, .dup, a, b, c)) (hc : v.category = 1) : im_step y pc L (v :: st) sh mi mr = im_nx nx L (v :: v :: st) sh mi mr := by
  simp only [im_step, hi, im_do, if_pos hc]
theorem is_dup_x1 {y pc nx a b c : Nat} {L st : List Value} {sh : im_Sh} {mi : im_MI} {mr : im_MR} {v w : Value} (hi : im_ins y pc = some (nx, .dup_x1, a, b, c)) (hc : v.category = 1) (hd : w.category = 1) : im_step y pc L (v :: w :: st) sh mi mr = im_nx nx L (v :: w :: v :: st) sh mi mr := by
  simp only [im_step, hi, im_do, if_pos (And.intro hc hd)]
theorem is_dup2 {y pc nx a b c : Nat} {L st : List Value} {sh : im_Sh} {mi : im_MI} {mr : im_MR} {v w : Value} (hi : im_ins y pc = some (nx, .dup2, a, b, c)) (hc : v.category = 1) (hd : w.category = 1) : im_step y pc L (v :: w :: st) sh mi mr = im_nx nx L (v :: w :: v :: w :: st) sh mi mr := by
  simp only [im_step, hi, im_do, if_pos (And.intro hc hd)]
theorem is_goto {y pc nx a b c : Nat} {L st : List Value} {sh : im_Sh} {mi : im_MI} {mr : im_MR} {o : Int} (hi : im_ins y pc = some (nx, .goto o, a, b, c)) : im_step y pc L st sh mi mr = im_nx a L st sh mi mr := by
  simp only [im_step, hi, im_do]
theorem is_ifnullN {y pc nx a b c : Nat} {L st : List Value} {sh : im_Sh} {mi : im_MI} {mr : im_MR} {o : Int} (hi : im_ins y pc = some (nx, .ifnull o, a, b, c)) : im_step y pc L (.null :: st) sh mi mr = im_nx a L st sh mi mr := by
  simp only [im_step, hi, im_do]
theorem is_ifnull {y pc nx a b c : Nat} {L st : List Value} {sh : im_Sh} {mi : im_MI} {mr : im_MR} {o : Int} {r : Nat} (hi : im_ins y pc = some (nx, .ifnull o, a, b, c)) : im_step y pc L (.ref r :: st) sh mi mr = im_nx nx L st sh mi mr := by
  simp only [im_step, hi, im_do]
theorem is_ifnonnullN {y pc nx a b c : Nat} {L st : List Value} {sh : im_Sh} {mi : im_MI} {mr : im_MR} {o : Int} (hi : im_ins y pc = some (nx, .ifnonnull o, a, b, c)) : im_step y pc L (.null :: st) sh mi mr = im_nx nx L st sh mi mr := by
  simp only [im_step, hi, im_do]
theorem is_ifnonnull {y pc nx a b c : Nat} {L st : List Value} {sh : im_Sh} {mi : im_MI} {mr : im_MR} {o : Int} {r : Nat} (hi : im_ins y pc = some (nx, .ifnonnull o, a, b, c)) : im_step y pc L (.ref r :: st) sh mi mr = im_nx a L st sh mi mr := by
  simp only [im_step, hi, im_do]
theorem is_if_eq_t {y pc nx a b c : Nat} {L st : List Value} {sh : im_Sh} {mi : im_MI} {mr : im_MR} {o : Int} {x : Int32} (hi : im_ins y pc = some (nx, .ifCond .eq o, a, b, c)) (h : x = 0) : im_step y pc L (.int x :: st) sh mi mr = im_nx a L st sh mi mr := by
  simp only [im_step, hi, im_do, if_pos (show im_br .eq x 0 = true from decide_eq_true h)]
theorem is_if_eq_f {y pc nx a b c : Nat} {L st : List Value} {sh : im_Sh} {mi : im_MI} {mr : im_MR} {o : Int} {x : Int32} (hi : im_ins y pc = some (nx, .ifCond .eq o, a, b, c)) (h : ¬ (x = 0)) : im_step y pc L (.int x :: st) sh mi mr = im_nx nx L st sh mi mr := by
  simp only [im_step, hi, im_do, if_neg (show ¬ im_br .eq x 0 = true from fun q => h (of_decide_eq_true q))]
theorem ev_if_eq {d y pc nx a b c : Nat} {L st : List Value} {sh : im_Sh} {mi : im_MI} {mr : im_MR} {Q : ev_Q} {o : Int} {x : Int32} (hi : im_ins y pc = some (nx, .ifCond .eq o, a, b, c)) (kt : (x = 0) → Ev d y a L st sh mi mr Q) (kf : ¬ (x = 0) → Ev d y nx L st sh mi mr Q) : Ev d y pc L (.int x :: st) sh mi mr Q := by
  by_cases h : x = 0
  · exact ev_s (is_if_eq_t hi h) (kt h)
  · exact ev_s (is_if_eq_f hi h) (kf h)
theorem is_icmp_eq_t {y pc nx a b c : Nat} {L st : List Value} {sh : im_Sh} {mi : im_MI} {mr : im_MR} {o : Int} {x z : Int32} (hi : im_ins y pc = some (nx, .if_icmp .eq o, a, b, c)) (h : x = z) : im_step y pc L (.int z :: .int x :: st) sh mi mr = im_nx a L st sh mi mr := by
  simp only [im_step, hi, im_do, if_pos (show im_br .eq x z = true from decide_eq_true h)]
theorem is_icmp_eq_f {y pc nx a b c : Nat} {L st : List Value} {sh : im_Sh} {mi : im_MI} {mr : im_MR} {o : Int} {x z : Int32} (hi : im_ins y pc = some (nx, .if_icmp .eq o, a, b, c)) (h : ¬ (x = z)) : im_step y pc L (.int z :: .int x :: st) sh mi mr = im_nx nx L st sh mi mr := by
  simp only [im_step, hi, im_do, if_neg (show ¬ im_br .eq x z = true from fun q => h (of_decide_eq_true q))]
theorem ev_icmp_eq {d y pc nx a b c : Nat} {L st : List Value} {sh : im_Sh} {mi : im_MI} {mr : im_MR} {Q : ev_Q} {o : Int} {x z : Int32} (hi : im_ins y pc = some (nx, .if_icmp .eq o, a, b, c)) (kt : (x = z) → Ev d y a L st sh mi mr Q) (kf : ¬ (x = z) → Ev d y nx L st sh mi mr Q) : Ev d y pc L (.int z :: .int x :: st) sh mi mr Q := by
  by_cases h : x = z
  · exact ev_s (is_icmp_eq_t hi h) (kt h)
  · exact ev_s (is_icmp_eq_f hi h) (kf h)
theorem is_if_ne_t {y pc nx a b c : Nat} {L st : List Value} {sh : im_Sh} {mi : im_MI} {mr : im_MR} {o : Int} {x : Int32} (hi : im_ins y pc = some (nx, .ifCond .ne o, a, b, c)) (h : ¬ x = 0) : im_step y pc L (.int x :: st) sh mi mr = im_nx a L st sh mi mr := by
  simp only [im_step, hi, im_do, if_pos (show im_br .ne x 0 = true from decide_eq_true h)]
theorem is_if_ne_f {y pc nx a b c : Nat} {L st : List Value} {sh : im_Sh} {mi : im_MI} {mr : im_MR} {o : Int} {x : Int32} (hi : im_ins y pc = some (nx, .ifCond .ne o, a, b, c)) (h : ¬ (¬ x = 0)) : im_step y pc L (.int x :: st) sh mi mr = im_nx nx L st sh mi mr := by
  simp only [im_step, hi, im_do, if_neg (show ¬ im_br .ne x 0 = true from fun q => h (of_decide_eq_true q))]
theorem ev_if_ne {d y pc nx a b c : Nat} {L st : List Value} {sh : im_Sh} {mi : im_MI} {mr : im_MR} {Q : ev_Q} {o : Int} {x : Int32} (hi : im_ins y pc = some (nx, .ifCond .ne o, a, b, c)) (kt : (¬ x = 0) → Ev d y a L st sh mi mr Q) (kf : ¬ (¬ x = 0) → Ev d y nx L st sh mi mr Q) : Ev d y pc L (.int x :: st) sh mi mr Q := by
  by_cases h : ¬ x = 0
  · exact ev_s (is_if_ne_t hi h) (kt h)
  · exact ev_s (is_if_ne_f hi h) (kf h)
theorem is_icmp_ne_t {y pc nx a b c : Nat} {L st : List Value} {sh : im_Sh} {mi : im_MI} {mr : im_MR} {o : Int} {x z : Int32} (hi : im_ins y pc = some (nx, .if_icmp .ne o, a, b, c)) (h : ¬ x = z) : im_step y pc L (.int z :: .int x :: st) sh mi mr = im_nx a L st sh mi mr := by
  simp only [im_step, hi, im_do, if_pos (show im_br .ne x z = true from decide_eq_true h)]
theorem is_icmp_ne_f {y pc nx a b c : Nat} {L st : List Value} {sh : im_Sh} {mi : im_MI} {mr : im_MR} {o : Int} {x z : Int32} (hi : im_ins y pc = some (nx, .if_icmp .ne o, a, b, c)) (h : ¬ (¬ x = z)) : im_step y pc L (.int z :: .int x :: st) sh mi mr = im_nx nx L st sh mi mr := by
  simp only [im_step, hi, im_do, if_neg (show ¬ im_br .ne x z = true from fun q => h (of_decide_eq_true q))]
theorem ev_icmp_ne {d y pc nx a b c : Nat} {L st : List Value} {sh : im_Sh} {mi : im_MI} {mr : im_MR} {Q : ev_Q} {o : Int} {x z : Int32} (hi : im_ins y pc = some (nx, .if_icmp .ne o, a, b, c)) (kt : (¬ x = z) → Ev d y a L st sh mi mr Q) (kf : ¬ (¬ x = z) → Ev d y nx L st sh mi mr Q) : Ev d y pc L (.int z :: .int x :: st) sh mi mr Q := by
  by_cases h : ¬ x = z
  · exact ev_s (is_icmp_ne_t hi h) (kt h)
  · exact ev_s (is_icmp_ne_f hi h) (kf h)
theorem is_if_lt_t {y pc nx a b c : Nat} {L st : List Value} {sh : im_Sh} {mi : im_MI} {mr : im_MR} {o : Int} {x : Int32} (hi : im_ins y pc = some (nx, .ifCond .lt o, a, b, c)) (h : x < 0) : im_step y pc L (.int x :: st) sh mi mr = im_nx a L st sh mi mr := by
  simp only [im_step, hi, im_do, if_pos (show im_br .lt x 0 = true from decide_eq_true h)]
theorem is_if_lt_f {y pc nx a b c : Nat} {L st : List Value} {sh : im_Sh} {mi : im_MI} {mr : im_MR} {o : Int} {x : Int32} (hi : im_ins y pc = some (nx, .ifCond .lt o, a, b, c)) (h : ¬ (x < 0)) : im_step y pc L (.int x :: st) sh mi mr = im_nx nx L st sh mi mr := by
  simp only [im_step, hi, im_do, if_neg (show ¬ im_br .lt x 0 = true from fun q => h (of_decide_eq_true q))]
theorem ev_if_lt {d y pc nx a b c : Nat} {L st : List Value} {sh : im_Sh} {mi : im_MI} {mr : im_MR} {Q : ev_Q} {o : Int} {x : Int32} (hi : im_ins y pc = some (nx, .ifCond .lt o, a, b, c)) (kt : (x < 0) → Ev d y a L st sh mi mr Q) (kf : ¬ (x < 0) → Ev d y nx L st sh mi mr Q) : Ev d y pc L (.int x :: st) sh mi mr Q := by
  by_cases h : x < 0
  · exact ev_s (is_if_lt_t hi h) (kt h)
  · exact ev_s (is_if_lt_f hi h) (kf h)
theorem is_icmp_lt_t {y pc nx a b c : Nat} {L st : List Value} {sh : im_Sh} {mi : im_MI} {mr : im_MR} {o : Int} {x z : Int32} (hi : im_ins y pc = some (nx, .if_icmp .lt o, a, b, c)) (h : x < z) : im_step y pc L (.int z :: .int x :: st) sh mi mr = im_nx a L st sh mi mr := by
  simp only [im_step, hi, im_do, if_pos (show im_br .lt x z = true from decide_eq_true h)]
theorem is_icmp_lt_f {y pc nx a b c : Nat} {L st : List Value} {sh : im_Sh} {mi : im_MI} {mr : im_MR} {o : Int} {x z : Int32} (hi : im_ins y pc = some (nx, .if_icmp .lt o, a, b, c)) (h : ¬ (x < z)) : im_step y pc L (.int z :: .int x :: st) sh mi mr = im_nx nx L st sh mi mr := by
  simp only [im_step, hi, im_do, if_neg (show ¬ im_br .lt x z = true from fun q => h (of_decide_eq_true q))]
theorem ev_icmp_lt {d y pc nx a b c : Nat} {L st : List Value} {sh : im_Sh} {mi : im_MI} {mr : im_MR} {Q : ev_Q} {o : Int} {x z : Int32} (hi : im_ins y pc = some (nx, .if_icmp .lt o, a, b, c)) (kt : (x < z) → Ev d y a L st sh mi mr Q) (kf : ¬ (x < z) → Ev d y nx L st sh mi mr Q) : Ev d y pc L (.int z :: .int x :: st) sh mi mr Q := by
  by_cases h : x < z
  · exact ev_s (is_icmp_lt_t hi h) (kt h)
  · exact ev_s (is_icmp_lt_f hi h) (kf h)
theorem is_if_ge_t {y pc nx a b c : Nat} {L st : List Value} {sh : im_Sh} {mi : im_MI} {mr : im_MR} {o : Int} {x : Int32} (hi : im_ins y pc = some (nx, .ifCond .ge o, a, b, c)) (h : 0 ≤ x) : im_step y pc L (.int x :: st) sh mi mr = im_nx a L st sh mi mr := by
  simp only [im_step, hi, im_do, if_pos (show im_br .ge x 0 = true from decide_eq_true h)]
theorem is_if_ge_f {y pc nx a b c : Nat} {L st : List Value} {sh : im_Sh} {mi : im_MI} {mr : im_MR} {o : Int} {x : Int32} (hi : im_ins y pc = some (nx, .ifCond .ge o, a, b, c)) (h : ¬ (0 ≤ x)) : im_step y pc L (.int x :: st) sh mi mr = im_nx nx L st sh mi mr := by
  simp only [im_step, hi, im_do, if_neg (show ¬ im_br .ge x 0 = true from fun q => h (of_decide_eq_true q))]
theorem ev_if_ge {d y pc nx a b c : Nat} {L st : List Value} {sh : im_Sh} {mi : im_MI} {mr : im_MR} {Q : ev_Q} {o : Int} {x : Int32} (hi : im_ins y pc = some (nx, .ifCond .ge o, a, b, c)) (kt : (0 ≤ x) → Ev d y a L st sh mi mr Q) (kf : ¬ (0 ≤ x) → Ev d y nx L st sh mi mr Q) : Ev d y pc L (.int x :: st) sh mi mr Q := by
  by_cases h : 0 ≤ x
  · exact ev_s (is_if_ge_t hi h) (kt h)
  · exact ev_s (is_if_ge_f hi h) (kf h)
theorem is_icmp_ge_t {y pc nx a b c : Nat} {L st : List Value} {sh : im_Sh} {mi : im_MI} {mr : im_MR} {o : Int} {x z : Int32} (hi : im_ins y pc = some (nx, .if_icmp .ge o, a, b, c)) (h : z ≤ x) : im_step y pc L (.int z :: .int x :: st) sh mi mr = im_nx a L st sh mi mr := by
  simp only [im_step, hi, im_do, if_pos (show im_br .ge x z = true from decide_eq_true h)]
theorem is_icmp_ge_f {y pc nx a b c : Nat} {L st : List Value} {sh : im_Sh} {mi : im_MI} {mr : im_MR} {o : Int} {x z : Int32} (hi : im_ins y pc = some (nx, .if_icmp .ge o, a, b, c)) (h : ¬ (z ≤ x)) : im_step y pc L (.int z :: .int x :: st) sh mi mr = im_nx nx L st sh mi mr := by
  simp only [im_step, hi, im_do, if_neg (show ¬ im_br .ge x z = true from fun q => h (of_decide_eq_true q))]
theorem ev_icmp_ge {d y pc nx a b c : Nat} {L st : List Value} {sh : im_Sh} {mi : im_MI} {mr : im_MR} {Q : ev_Q} {o : Int} {x z : Int32} (hi : im_ins y pc = some (nx, .if_icmp .ge o, a, b, c)) (kt : (z ≤ x) → Ev d y a L st sh mi mr Q) (kf : ¬ (z ≤ x) → Ev d y nx L st sh mi mr Q) : Ev d y pc L (.int z :: .int x :: st) sh mi mr Q := by
  by_cases h : z ≤ x
  · exact ev_s (is_icmp_ge_t hi h) (kt h)
  · exact ev_s (is_icmp_ge_f hi h) (kf h)
theorem is_if_gt_t {y pc nx a b c : Nat} {L st : List Value} {sh : im_Sh} {mi : im_MI} {mr : im_MR} {o : Int} {x : Int32} (hi : im_ins y pc = some (nx, .ifCond .gt o, a, b, c)) (h : 0 < x) : im_step y pc L (.int x :: st) sh mi mr = im_nx a L st sh mi mr := by
  simp only [im_step, hi, im_do, if_pos (show im_br .gt x 0 = true from decide_eq_true h)]
theorem is_if_gt_f {y pc nx a b c : Nat} {L st : List Value} {sh : im_Sh} {mi : im_MI} {mr : im_MR} {o : Int} {x : Int32} (hi : im_ins y pc = some (nx, .ifCond .gt o, a, b, c)) (h : ¬ (0 < x)) : im_step y pc L (.int x :: st) sh mi mr = im_nx nx L st sh mi mr := by
  simp only [im_step, hi, im_do, if_neg (show ¬ im_br .gt x 0 = true from fun q => h (of_decide_eq_true q))]
theorem ev_if_gt {d y pc nx a b c : Nat} {L st : List Value} {sh : im_Sh} {mi : im_MI} {mr : im_MR} {Q : ev_Q} {o : Int} {x : Int32} (hi : im_ins y pc = some (nx, .ifCond .gt o, a, b, c)) (kt : (0 < x) → Ev d y a L st sh mi mr Q) (kf : ¬ (0 < x) → Ev d y nx L st sh mi mr Q) : Ev d y pc L (.int x :: st) sh mi mr Q := by
  by_cases h : 0 < x
  · exact ev_s (is_if_gt_t hi h) (kt h)
  · exact ev_s (is_if_gt_f hi h) (kf h)
theorem is_icmp_gt_t {y pc nx a b c : Nat} {L st : List Value} {sh : im_Sh} {mi : im_MI} {mr : im_MR} {o : Int} {x z : Int32} (hi : im_ins y pc = some (nx, .if_icmp .gt o, a, b, c)) (h : z < x) : im_step y pc L (.int z :: .int x :: st) sh mi mr = im_nx a L st sh mi mr := by
  simp only [im_step, hi, im_do, if_pos (show im_br .gt x z = true from decide_eq_true h)]
theorem is_icmp_gt_f {y pc nx a b c : Nat} {L st : List Value} {sh : im_Sh} {mi : im_MI} {mr : im_MR} {o : Int} {x z : Int32} (hi : im_ins y pc = some (nx, .if_icmp .gt o, a, b, c)) (h : ¬ (z < x)) : im_step y pc L (.int z :: .int x :: st) sh mi mr = im_nx nx L st sh mi mr := by
  simp only [im_step, hi, im_do, if_neg (show ¬ im_br .gt x z = true from fun q => h (of_decide_eq_true q))]
theorem ev_icmp_gt {d y pc nx a b c : Nat} {L st : List Value} {sh : im_Sh} {mi : im_MI} {mr : im_MR} {Q : ev_Q} {o : Int} {x z : Int32} (hi : im_ins y pc = some (nx, .if_icmp .gt o, a, b, c)) (kt : (z < x) → Ev d y a L st sh mi mr Q) (kf : ¬ (z < x) → Ev d y nx L st sh mi mr Q) : Ev d y pc L (.int z :: .int x :: st) sh mi mr Q := by
  by_cases h : z < x
  · exact ev_s (is_icmp_gt_t hi h) (kt h)
  · exact ev_s (is_icmp_gt_f hi h) (kf h)
theorem is_if_le_t {y pc nx a b c : Nat} {L st : List Value} {sh : im_Sh} {mi : im_MI} {mr : im_MR} {o : Int} {x : Int32} (hi : im_ins y pc = some (nx, .ifCond .le o, a, b, c)) (h : x ≤ 0) : im_step y pc L (.int x :: st) sh mi mr = im_nx a L st sh mi mr := by
  simp only [im_step, hi, im_do, if_pos (show im_br .le x 0 = true from decide_eq_true h)]
theorem is_if_le_f {y pc nx a b c : Nat} {L st : List Value} {sh : im_Sh} {mi : im_MI} {mr : im_MR} {o : Int} {x : Int32} (hi : im_ins y pc = some (nx, .ifCond .le o, a, b, c)) (h : ¬ (x ≤ 0)) : im_step y pc L (.int x :: st) sh mi mr = im_nx nx L st sh mi mr := by
  simp only [im_step, hi, im_do, if_neg (show ¬ im_br .le x 0 = true from fun q => h (of_decide_eq_true q))]
theorem ev_if_le {d y pc nx a b c : Nat} {L st : List Value} {sh : im_Sh} {mi : im_MI} {mr : im_MR} {Q : ev_Q} {o : Int} {x : Int32} (hi : im_ins y pc = some (nx, .ifCond .le o, a, b, c)) (kt : (x ≤ 0) → Ev d y a L st sh mi mr Q) (kf : ¬ (x ≤ 0) → Ev d y nx L st sh mi mr Q) : Ev d y pc L (.int x :: st) sh mi mr Q := by
  by_cases h : x ≤ 0
  · exact ev_s (is_if_le_t hi h) (kt h)
  · exact ev_s (is_if_le_f hi h) (kf h)
theorem is_icmp_le_t {y pc nx a b c : Nat} {L st : List Value} {sh : im_Sh} {mi : im_MI} {mr : im_MR} {o : Int} {x z : Int32} (hi : im_ins y pc = some (nx, .if_icmp .le o, a, b, c)) (h : x ≤ z) : im_step y pc L (.int z :: .int x :: st) sh mi mr = im_nx a L st sh mi mr := by
  simp only [im_step, hi, im_do, if_pos (show im_br .le x z = true from decide_eq_true h)]
theorem is_icmp_le_f {y pc nx a b c : Nat} {L st : List Value} {sh : im_Sh} {mi : im_MI} {mr : im_MR} {o : Int} {x z : Int32} (hi : im_ins y pc = some (nx, .if_icmp .le o, a, b, c)) (h : ¬ (x ≤ z)) : im_step y pc L (.int z :: .int x :: st) sh mi mr = im_nx nx L st sh mi mr := by
  simp only [im_step, hi, im_do, if_neg (show ¬ im_br .le x z = true from fun q => h (of_decide_eq_true q))]
theorem ev_icmp_le {d y pc nx a b c : Nat} {L st : List Value} {sh : im_Sh} {mi : im_MI} {mr : im_MR} {Q : ev_Q} {o : Int} {x z : Int32} (hi : im_ins y pc = some (nx, .if_icmp .le o, a, b, c)) (kt : (x ≤ z) → Ev d y a L st sh mi mr Q) (kf : ¬ (x ≤ z) → Ev d y nx L st sh mi mr Q) : Ev d y pc L (.int z :: .int x :: st) sh mi mr Q := by
  by_cases h : x ≤ z
  · exact ev_s (is_icmp_le_t hi h) (kt h)
  · exact ev_s (is_icmp_le_f hi h) (kf h)
theorem is_tsw {y pc nx a b c : Nat} {L st : List Value} {sh : im_Sh} {mi : im_MI} {mr : im_MR} {dd lo hh : Int} {offs : Array Int} {x : Int32} (t : Nat) (hi : im_ins y pc = some (nx, .tableswitch dd lo hh offs, a, b, c)) (ht : im_ts pc dd lo hh offs x = some t) : im_step y pc L (.int x :: st) sh mi mr = im_nx t L st sh mi mr := by
  simp only [im_step, hi, im_do, ht]
theorem is_lsw {y pc nx a b c : Nat} {L st : List Value} {sh : im_Sh} {mi : im_MI} {mr : im_MR} {dd : Int} {ps : Array (Int × Int)} {x : Int32} (t : Nat) (hi : im_ins y pc = some (nx, .lookupswitch dd ps, a, b, c)) (ht : im_ls pc dd ps x = some t) : im_step y pc L (.int x :: st) sh mi mr = im_nx t L st sh mi mr := by
  simp only [im_step, hi, im_do, ht]
theorem is_getI {y pc nx a b c : Nat} {L st : List Value} {sh : im_Sh} {mi : im_MI} {mr : im_MR} {i r n : Nat} (hi : im_ins y pc = some (nx, .getfield i, a, b, c)) (hs : sh[r]? = some (a, n)) (hb : Nat.blt b n = true) (hf : Nat.beq (im_ft a b) 1 = false) : im_step y pc L (.ref r :: st) sh mi mr = im_nx nx L (.int (mi r b) :: st) sh mi mr := by
  simp only [im_step, hi, im_do, hs, true_and, if_pos (Nat.blt_eq.mp hb), im_rd, hf, cond_false]
theorem is_getR {y pc nx a b c : Nat} {L st : List Value} {sh : im_Sh} {mi : im_MI} {mr : im_MR} {i r n : Nat} (hi : im_ins y pc = some (nx, .getfield i, a, b, c)) (hs : sh[r]? = some (a, n)) (hb : Nat.blt b n = true) (hf : Nat.beq (im_ft a b) 1 = true) {q : Nat} (hq : mr r b = some q) : im_step y pc L (.ref r :: st) sh mi mr = im_nx nx L (.ref q :: st) sh mi mr := by
  simp only [im_step, hi, im_do, hs, true_and, if_pos (Nat.blt_eq.mp hb), im_rd, hf, cond_true, hq, im_rv]
theorem is_putI {y pc nx a b c : Nat} {L st : List Value} {sh : im_Sh} {mi : im_MI} {mr : im_MR} {i r n : Nat} {x : Int32} (hi : im_ins y pc = some (nx, .putfield i, a, b, c)) (hs : sh[r]? = some (a, n)) (hb : Nat.blt b n = true) (ha : Nat.blt a 20 = true) (hf : im_ft a b = 0) : im_step y pc L (.int x :: .ref r :: st) sh mi mr = im_nx nx L st sh (im_u mi r b x) mr := by
  simp only [im_step, hi, im_do, hs, true_and, if_pos (And.intro (Nat.blt_eq.mp hb) (Nat.blt_eq.mp ha)), hf]
theorem is_putB {y pc nx a b c : Nat} {L st : List Value} {sh : im_Sh} {mi : im_MI} {mr : im_MR} {i r n : Nat} {x : Int32} (hi : im_ins y pc = some (nx, .putfield i, a, b, c)) (hs : sh[r]? = some (a, n)) (hb : Nat.blt b n = true) (ha : Nat.blt a 20 = true) (hf : im_ft a b = 2) (hx : x = 0 ∨ x = 1) : im_step y pc L (.int x :: .ref r :: st) sh mi mr = im_nx nx L st sh (im_u mi r b x) mr := by
  simp only [im_step, hi, im_do, hs, true_and, if_pos (And.intro (Nat.blt_eq.mp hb) (Nat.blt_eq.mp ha)), hf, if_pos hx]
theorem is_putR {y pc nx a b c : Nat} {L st : List Value} {sh : im_Sh} {mi : im_MI} {mr : im_MR} {i r n q : Nat} (hi : im_ins y pc = some (nx, .putfield i, a, b, c)) (hs : sh[r]? = some (a, n)) (hb : Nat.blt b n = true) (ha : Nat.blt a 20 = true) (hf : im_ft a b = 1) (hq : q < sh.length) : im_step y pc L (.ref q :: .ref r :: st) sh mi mr = im_nx nx L st sh mi (im_u mr r b (some q)) := by
  simp only [im_step, hi, im_do, hs, true_and, if_pos (And.intro (Nat.blt_eq.mp hb) (Nat.blt_eq.mp ha)), hf, if_pos hq]
theorem is_putN {y pc nx a b c : Nat} {L st : List Value} {sh : im_Sh} {mi : im_MI} {mr : im_MR} {i r n : Nat} (hi : im_ins y pc = some (nx, .putfield i, a, b, c)) (hs : sh[r]? = some (a, n)) (hb : Nat.blt b n = true) (ha : Nat.blt a 20 = true) (hf : im_ft a b = 1) : im_step y pc L (.null :: .ref r :: st) sh mi mr = im_nx nx L st sh mi (im_u mr r b none) := by
  simp only [im_step, hi, im_do, hs, true_and, if_pos (And.intro (Nat.blt_eq.mp hb) (Nat.blt_eq.mp ha)), hf]
theorem im_in_nI {i : Int32} {j n : Nat} (hj : i = nI j) (h : j < n) (hn : Nat.ble n 100000 = true) : im_in i n ∧ i.toNatClampNeg = j := by
  have hn2 := Nat.le_of_ble_eq_true hn
  subst hj
  have h2 : (nI j).toNatClampNeg = j := nI_clamp (by omega)
  refine ⟨fun q => ?_, h2⟩
  rcases q with q | q
  · exact nI_pos (by omega) q
  · omega
theorem is_iaload {y pc nx a b c : Nat} {L st : List Value} {sh : im_Sh} {mi : im_MI} {mr : im_MR} {r n : Nat} {i : Int32} (j : Nat) (hi : im_ins y pc = some (nx, .iaload, a, b, c)) (hs : sh[r]? = some (100, n)) (hn : Nat.ble n 100000 = true) (hj : i = nI j) (h : j < n) : im_step y pc L (.int i :: .ref r :: st) sh mi mr = im_nx nx L (.int (mi r j) :: st) sh mi mr := by
  have hh := im_in_nI hj h hn
  simp only [im_step, hi, im_do, hs]
  rw [if_pos ⟨Or.inl trivial, hh.1⟩, hh.2]
theorem is_ialoadX {y pc nx a b c : Nat} {L st : List Value} {sh : im_Sh} {mi : im_MI} {mr : im_MR} {r n : Nat} {i : Int32} (j : Nat) (hi : im_ins y pc = some (nx, .iaload, a, b, c)) (hs : sh[r]? = some (200, n)) (hn : Nat.ble n 100000 = true) (hj : i = nI j) (h : j < n) : im_step y pc L (.int i :: .ref r :: st) sh mi mr = im_nx nx L (.int (mi r j) :: st) sh mi mr := by
  have hh := im_in_nI hj h hn
  simp only [im_step, hi, im_do, hs]
  rw [if_pos ⟨Or.inr trivial, hh.1⟩, hh.2]
theorem is_caload {y pc nx a b c : Nat} {L st : List Value} {sh : im_Sh} {mi : im_MI} {mr : im_MR} {r n : Nat} {i : Int32} (j : Nat) (hi : im_ins y pc = some (nx, .caload, a, b, c)) (hs : sh[r]? = some (101, n)) (hn : Nat.ble n 100000 = true) (hj : i = nI j) (h : j < n) : im_step y pc L (.int i :: .ref r :: st) sh mi mr = im_nx nx L (.int (mi r j) :: st) sh mi mr := by
  have hh := im_in_nI hj h hn
  simp only [im_step, hi, im_do, hs]
  rw [if_pos ⟨trivial, hh.1⟩, hh.2]
theorem is_baload {y pc nx a b c : Nat} {L st : List Value} {sh : im_Sh} {mi : im_MI} {mr : im_MR} {r n : Nat} {i : Int32} (j : Nat) (hi : im_ins y pc = some (nx, .baload, a, b, c)) (hs : sh[r]? = some (204, n)) (hn : Nat.ble n 100000 = true) (hj : i = nI j) (h : j < n) : im_step y pc L (.int i :: .ref r :: st) sh mi mr = im_nx nx L (.int (mi r j) :: st) sh mi mr := by
  have hh := im_in_nI hj h hn
  simp only [im_step, hi, im_do, hs]
  rw [if_pos ⟨trivial, hh.1⟩, hh.2]
theorem is_aaload {y pc nx a b c : Nat} {L st : List Value} {sh : im_Sh} {mi : im_MI} {mr : im_MR} {r n k q : Nat} {i : Int32} (j : Nat) (hi : im_ins y pc = some (nx, .aaload, a, b, c)) (hs : sh[r]? = some (110 + k, n)) (hk : Nat.blt k 10 = true) (hn : Nat.ble n 100000 = true) (hj : i = nI j) (h : j < n) (hq : mr r j = some q) : im_step y pc L (.int i :: .ref r :: st) sh mi mr = im_nx nx L (.ref q :: st) sh mi mr := by
  have hh := im_in_nI hj h hn
  have hk2 := Nat.blt_eq.mp hk
  simp only [im_step, hi, im_do, hs]
  rw [if_pos ⟨by omega, by omega, hh.1⟩, hh.2, hq]
  rfl
theorem is_iastore {y pc nx a b c : Nat} {L st : List Value} {sh : im_Sh} {mi : im_MI} {mr : im_MR} {r n : Nat} {i x : Int32} (j : Nat) (hi : im_ins y pc = some (nx, .iastore, a, b, c)) (hs : sh[r]? = some (100, n)) (hn : Nat.ble n 100000 = true) (hj : i = nI j) (h : j < n) : im_step y pc L (.int x :: .int i :: .ref r :: st) sh mi mr = im_nx nx L st sh (im_u mi r j x) mr := by
  have hh := im_in_nI hj h hn
  simp only [im_step, hi, im_do, hs]
  rw [if_pos ⟨trivial, hh.1⟩, hh.2]
theorem is_castore {y pc nx a b c : Nat} {L st : List Value} {sh : im_Sh} {mi : im_MI} {mr : im_MR} {r n : Nat} {i x : Int32} (j : Nat) (hi : im_ins y pc = some (nx, .castore, a, b, c)) (hs : sh[r]? = some (101, n)) (hn : Nat.ble n 100000 = true) (hj : i = nI j) (h : j < n) : im_step y pc L (.int x :: .int i :: .ref r :: st) sh mi mr = im_nx nx L st sh (im_u mi r j (vp_nar .char x)) mr := by
  have hh := im_in_nI hj h hn
  simp only [im_step, hi, im_do, hs]
  rw [if_pos ⟨trivial, hh.1⟩, hh.2]
theorem is_aastore {y pc nx a b c : Nat} {L st : List Value} {sh : im_Sh} {mi : im_MI} {mr : im_MR} {r n k q n2 : Nat} {i : Int32} (j : Nat) (hi : im_ins y pc = some (nx, .aastore, a, b, c)) (hs : sh[r]? = some (110 + k, n)) (hs2 : sh[q]? = some (k, n2)) (hk : Nat.blt k 10 = true) (hn : Nat.ble n 100000 = true) (hj : i = nI j) (h : j < n) : im_step y pc L (.ref q :: .int i :: .ref r :: st) sh mi mr = im_nx nx L st sh mi (im_u mr r j (some q)) := by
  have hh := im_in_nI hj h hn
  have hk2 := Nat.blt_eq.mp hk
  simp only [im_step, hi, im_do, hs, hs2]
  rw [if_pos ⟨by omega, by omega, hh.1, trivial⟩, hh.2]
theorem is_alen {y pc nx a b c : Nat} {L st : List Value} {sh : im_Sh} {mi : im_MI} {mr : im_MR} {r n k : Nat} (hi : im_ins y pc = some (nx, .arraylength, a, b, c)) (hs : sh[r]? = some (k, n)) (hk : k = 100 ∨ k = 101 ∨ k = 200 ∨ k = 204) : im_step y pc L (.ref r :: st) sh mi mr = im_nx nx L (.int (nI n) :: st) sh mi mr := by
  simp only [im_step, hi, im_do, hs, if_pos hk]
  rfl
theorem is_newI {y pc nx a b c : Nat} {L st : List Value} {sh : im_Sh} {mi : im_MI} {mr : im_MR} {x : Int32} (n : Nat) (hi : im_ins y pc = some (nx, .newarray .int, a, b, c)) (hx : x = nI n) (hn : Nat.ble n 100000 = true) (hL : im_va sh L = true) (hst : im_va sh st = true) : im_step y pc L (.int x :: st) sh mi mr = im_nx nx L (.ref sh.length :: st) (sh ++ [(100, n)]) (im_row mi sh.length fun _ => 0) (im_row mr sh.length fun _ => none) := by
  have hn2 := Nat.le_of_ble_eq_true hn
  subst hx
  have e : (nI n).toNatClampNeg = n := nI_clamp (by omega)
  simp only [im_step, hi, im_do, e]
  rw [if_pos ⟨nI_pos (by omega), hn2, hL, by simpa [im_va] using hst⟩]
theorem is_newC {y pc nx a b c : Nat} {L st : List Value} {sh : im_Sh} {mi : im_MI} {mr : im_MR} {x : Int32} (n : Nat) (hi : im_ins y pc = some (nx, .newarray .char, a, b, c)) (hx : x = nI n) (hn : Nat.ble n 100000 = true) (hL : im_va sh L = true) (hst : im_va sh st = true) : im_step y pc L (.int x :: st) sh mi mr = im_nx nx L (.ref sh.length :: st) (sh ++ [(101, n)]) (im_row mi sh.length fun _ => 0) (im_row mr sh.length fun _ => none) := by
  have hn2 := Nat.le_of_ble_eq_true hn
  subst hx
  have e : (nI n).toNatClampNeg = n := nI_clamp (by omega)
  simp only [im_step, hi, im_do, e]
  rw [if_pos ⟨nI_pos (by omega), hn2, hL, by simpa [im_va] using hst⟩]
theorem is_newA {y pc nx a b c : Nat} {L st : List Value} {sh : im_Sh} {mi : im_MI} {mr : im_MR} {x : Int32} {i : Nat} (n : Nat) (hi : im_ins y pc = some (nx, .anewarray i, a, b, c)) (hx : x = nI n) (hn : Nat.ble n 100000 = true) (ha : Nat.blt a 10 = true) (hL : im_va sh L = true) (hst : im_va sh st = true) : im_step y pc L (.int x :: st) sh mi mr = im_nx nx L (.ref sh.length :: st) (sh ++ [(110 + a, n)]) (im_row mi sh.length fun _ => 0) (im_row mr sh.length fun _ => none) := by
  have hn2 := Nat.le_of_ble_eq_true hn
  subst hx
  have e : (nI n).toNatClampNeg = n := nI_clamp (by omega)
  simp only [im_step, hi, im_do, e]
  rw [if_pos ⟨nI_pos (by omega), hn2, Nat.blt_eq.mp ha, hL, by simpa [im_va] using hst⟩]
theorem is_new {y pc nx a b c : Nat} {L st : List Value} {sh : im_Sh} {mi : im_MI} {mr : im_MR} {i : Nat} (hi : im_ins y pc = some (nx, .new i, a, b, c)) (ha : Nat.blt a 10 = true) (hL : im_va sh L = true) (hst : im_va sh st = true) : im_step y pc L st sh mi mr = im_nx nx L (.ref sh.length :: st) (sh ++ [(a, im_nf a)]) (im_row mi sh.length fun _ => 0) (im_row mr sh.length fun _ => none) := by
  simp only [im_step, hi, im_do]
  rw [if_pos ⟨Nat.blt_eq.mp ha, hL, hst⟩]
theorem is_ldcI {y pc nx a c : Nat} {L st : List Value} {sh : im_Sh} {mi : im_MI} {mr : im_MR} {i : Nat} (v : Int32) (hi : im_ins y pc = some (nx, .ldc i, a, 0, c)) (hv : Int32.ofNat a = v) : im_step y pc L st sh mi mr = im_nx nx L (.int v :: st) sh mi mr := by
  simp only [im_step, hi, im_do, hv]
theorem is_ldcS {y pc nx a c : Nat} {L st : List Value} {sh : im_Sh} {mi : im_MI} {mr : im_MR} {i : Nat} (hi : im_ins y pc = some (nx, .ldc i, a, 1, c)) : im_step y pc L st sh mi mr = im_nx nx L (.ref (3 + a) :: st) sh mi mr := by
  simp only [im_step, hi, im_do]
theorem is_ldcw {y pc nx a c : Nat} {L st : List Value} {sh : im_Sh} {mi : im_MI} {mr : im_MR} {i : Nat} (v : Int32) (hi : im_ins y pc = some (nx, .ldc_w i, a, 0, c)) (hv : Int32.ofNat a = v) : im_step y pc L st sh mi mr = im_nx nx L (.int v :: st) sh mi mr := by
  simp only [im_step, hi, im_do, hv]
theorem is_ldc2 {y pc nx a c : Nat} {L st : List Value} {sh : im_Sh} {mi : im_MI} {mr : im_MR} {i : Nat} (v : Int64) (hi : im_ins y pc = some (nx, .ldc2_w i, a, 0, c)) (hv : Int64.ofNat a = v) : im_step y pc L st sh mi mr = im_nx nx L (.long v :: st) sh mi mr := by
  simp only [im_step, hi, im_do, hv]
theorem is_gets {y pc nx b c : Nat} {L st : List Value} {sh : im_Sh} {mi : im_MI} {mr : im_MR} {i : Nat} (hi : im_ins y pc = some (nx, .getstatic i, 30, b, c)) : im_step y pc L st sh mi mr = im_nx nx L (.ref 1 :: st) sh mi mr := by
  simp only [im_step, hi, im_do]
theorem is_getsC {y pc nx b c : Nat} {L st : List Value} {sh : im_Sh} {mi : im_MI} {mr : im_MR} {i : Nat} (hi : im_ins y pc = some (nx, .getstatic i, 31, b, c)) : im_step y pc L st sh mi mr = im_nx nx L (.int (nI 1) :: st) sh mi mr := by
  simp only [im_step, hi, im_do]
  rfl
theorem is_getsF {y pc nx b c : Nat} {L st : List Value} {sh : im_Sh} {mi : im_MI} {mr : im_MR} {i : Nat} (hi : im_ins y pc = some (nx, .getstatic i, 32, b, c)) : im_step y pc L st sh mi mr = im_nx nx L (.ref 2 :: st) sh mi mr := by
  simp only [im_step, hi, im_do]
theorem is_ireturn {y pc nx a b c : Nat} {L : List Value} {sh : im_Sh} {mi : im_MI} {mr : im_MR} {v : Int32} {t : FieldType} (hi : im_ins y pc = some (nx, .ireturn, a, b, c)) (ht : im_rt y = some t) (hn : narrow t (.int v) = .int v) : im_step y pc L [.int v] sh mi mr = some (.inr (.inl (.int v))) := by
  simp only [im_step, hi, im_do, ht, if_pos hn]
theorem is_lreturn {y pc nx a b c : Nat} {L : List Value} {sh : im_Sh} {mi : im_MI} {mr : im_MR} {v : Int64} (hi : im_ins y pc = some (nx, .lreturn, a, b, c)) : im_step y pc L [.long v] sh mi mr = some (.inr (.inl (.long v))) := by
  simp only [im_step, hi, im_do]
theorem is_areturn {y pc nx a b c : Nat} {L : List Value} {sh : im_Sh} {mi : im_MI} {mr : im_MR} {v : Nat} (hi : im_ins y pc = some (nx, .areturn, a, b, c)) : im_step y pc L [.ref v] sh mi mr = some (.inr (.inl (.ref v))) := by
  simp only [im_step, hi, im_do]
theorem is_areturnN {y pc nx a b c : Nat} {L : List Value} {sh : im_Sh} {mi : im_MI} {mr : im_MR} (hi : im_ins y pc = some (nx, .areturn, a, b, c)) : im_step y pc L [.null] sh mi mr = some (.inr (.inl .null)) := by
  simp only [im_step, hi, im_do]
theorem is_return {y pc nx a b c : Nat} {L : List Value} {sh : im_Sh} {mi : im_MI} {mr : im_MR} (hi : im_ins y pc = some (nx, .return_, a, b, c)) : im_step y pc L [] sh mi mr = some (.inr (.inl im_bad)) := by
  simp only [im_step, hi, im_do]
theorem is_oinit {y pc nx b c : Nat} {L st : List Value} {sh : im_Sh} {mi : im_MI} {mr : im_MR} {i r : Nat} (hi : im_ins y pc = some (nx, .invokespecial i, 900, b, c)) (hc : im_cat st ≤ 8) : im_step y pc L (.ref r :: st) sh mi mr = im_nx nx L st sh mi mr := by
  simp only [im_step, hi, im_do, im_inv, show Nat.beq 900 900 = true from rfl, cond_true, if_pos hc]
theorem is_acopy {y pc nx b c : Nat} {L st : List Value} {sh : im_Sh} {mi : im_MI} {mr : im_MR} {i r q n0 n1 : Nat} {n dp sp : Int32} (jn jd js : Nat) (hi : im_ins y pc = some (nx, .invokestatic i, 901, b, c)) (hs : sh[r]? = some (100, n0)) (hs1 : sh[q]? = some (100, n1)) (h0 : Nat.ble n0 100000 = true) (h1 : Nat.ble n1 100000 = true) (en : n = nI jn) (ed : dp = nI jd) (es : sp = nI js) (hb0 : js + jn ≤ n0) (hb1 : jd + jn ≤ n1) (hc : im_cat st ≤ 8) : im_step y pc L (.int n :: .int dp :: .ref q :: .int sp :: .ref r :: st) sh mi mr = im_nx nx L st sh (im_row mi q (va_cpy (mi r) (mi q) js jd jn)) mr := by
  have h0' := Nat.le_of_ble_eq_true h0
  have h1' := Nat.le_of_ble_eq_true h1
  subst en; subst ed; subst es
  have e1 : (nI jn).toNatClampNeg = jn := nI_clamp (by omega)
  have e2 : (nI jd).toNatClampNeg = jd := nI_clamp (by omega)
  have e3 : (nI js).toNatClampNeg = js := nI_clamp (by omega)
  simp only [im_step, hi, im_do, im_inv, show Nat.beq 901 900 = false from rfl, show Nat.beq 901 901 = true from rfl, cond_true, cond_false, hs, hs1, e1, e2, e3]
  rw [if_pos ⟨trivial, trivial, nI_pos (by omega), nI_pos (by omega), nI_pos (by omega), hb0, hb1, hc⟩]
theorem is_call0 {y pc nx a b c : Nat} {ins : Instr} {L st : List Value} {sh : im_Sh} {mi : im_MI} {mr : im_MR} (n : Nat) (as rest : List Value) (hi : im_ins y pc = some (nx, ins, a, b, c)) (hk : (match ins with
    | .invokevirtual _ => true
    | .invokespecial _ => true
    | .invokestatic _ => true
    | _ => false) = true) (ha : Nat.ble 900 a = false) (hn : im_na a = n) (hl : Nat.ble n st.length = true) (hc : im_cat rest ≤ 8) (h1 : (st.take n).reverse = as) (h2 : st.drop n = rest) (hr : im_rc a = 0) : im_step y pc L st sh mi mr = some (.inr (.inr (a, as, nx, rest))) := by
  subst hn h1 h2
  have h9 : Nat.beq a 900 = false := by
    cases h : Nat.beq a 900 with
    | false => rfl
    | true => rw [Nat.eq_of_beq_eq_true h] at ha; cases ha
  have h8 : Nat.beq a 901 = false := by
    cases h : Nat.beq a 901 with
    | false => rfl
    | true => rw [Nat.eq_of_beq_eq_true h] at ha; cases ha
  have e : im_do im_na im_rc im_nf im_ft (im_rt y) pc nx a b ins L st sh mi mr = im_inv im_na im_rc nx a L st sh mi mr := by
    cases ins <;> first
      | rfl
      | cases hk
  simp only [im_step, hi, e, im_inv, h9, h8, ha, cond_false, if_pos (And.intro (Nat.le_of_ble_eq_true hl) hc), hr]
theorem is_callR {y pc nx a b c : Nat} {ins : Instr} {L st : List Value} {sh : im_Sh} {mi : im_MI} {mr : im_MR} {r k m : Nat} (n : Nat) (as rest : List Value) (hi : im_ins y pc = some (nx, ins, a, b, c)) (hk : (match ins with
    | .invokevirtual _ => true
    | .invokespecial _ => true
    | .invokestatic _ => true
    | _ => false) = true) (ha : Nat.ble 900 a = false) (hn : im_na a = n) (hl : Nat.ble n st.length = true) (hc : im_cat rest ≤ 8) (h1 : (st.take n).reverse = .ref r :: as) (h2 : st.drop n = rest) (hr : im_rc a = k + 1) (hs : sh[r]? = some (k, m)) : im_step y pc L st sh mi mr = some (.inr (.inr (a, .ref r :: as, nx, rest))) := by
  subst hn h2
  have h9 : Nat.beq a 900 = false := by
    cases h : Nat.beq a 900 with
    | false => rfl
    | true => rw [Nat.eq_of_beq_eq_true h] at ha; cases ha
  have h8 : Nat.beq a 901 = false := by
    cases h : Nat.beq a 901 with
    | false => rfl
    | true => rw [Nat.eq_of_beq_eq_true h] at ha; cases ha
  have e : im_do im_na im_rc im_nf im_ft (im_rt y) pc nx a b ins L st sh mi mr = im_inv im_na im_rc nx a L st sh mi mr := by
    cases ins <;> first
      | rfl
      | cases hk
  simp only [im_step, hi, e, im_inv, h9, h8, ha, cond_false, if_pos (And.intro (Nat.le_of_ble_eq_true hl) hc), hr, h1, hs, if_true]
