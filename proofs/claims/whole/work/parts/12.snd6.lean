/-! ===== SOUNDNESS 6: every instruction; warm words; growth ===== -/
section SND6
variable {p : Program} {l : Launch} {e : Env} {R : Room} {s : State} {m : MethodId} {args : Array Value} {below : List Frame} {meth : Method} {c : Code} {Q : State → Prop} {A : Nat → Prop} {D : va_G} {xs : Nat → Int32} {LL y : Nat}
theorem im_SP_no {ins : Instr} (h : ∀ rt pc nx a b L st sh mi mr x, im_do im_na im_rc im_nf im_ft rt pc nx a b ins L st sh mi mr ≠ some (.inl x)) : im_SP p l e R s m args below meth c Q A D xs LL y ins :=
  fun pc nx a b c0 L st sh mi mr pc2 L2 st2 sh2 mi2 mr2 ad ca H locs cells slots ls hdec hle hok hdo => absurd hdo (h _ _ _ _ _ _ _ _ _ _ _)
theorem im_SPall0 (C : im_Cx p R s m args meth c A D y) (ins : Instr) (hg : ∀ i, ins ≠ .getstatic i) : im_SP p l e R s m args below meth c Q A D xs LL y ins := by
  cases ins with
  | aconst_null => exact im_SP_aconst_null C
  | iconst n => exact im_SP_iconst C
  | bipush n => exact im_SP_bipush C
  | sipush n => exact im_SP_sipush C
  | lconst n => exact im_SP_lconst C
  | iload i => exact im_SP_iload C
  | iload_n i => exact im_SP_iload_n C
  | lload i => exact im_SP_lload C
  | lload_n i => exact im_SP_lload_n C
  | aload i => exact im_SP_aload C
  | aload_n i => exact im_SP_aload_n C
  | istore i => exact im_SP_istore C
  | istore_n i => exact im_SP_istore_n C
  | lstore i => exact im_SP_lstore C
  | lstore_n i => exact im_SP_lstore_n C
  | astore i => exact im_SP_astore C
  | astore_n i => exact im_SP_astore_n C
  | iinc i n => exact im_SP_iinc C
  | iadd => exact im_SP_iadd C
  | isub => exact im_SP_isub C
  | imul => exact im_SP_imul C
  | idiv => exact im_SP_idiv C
  | irem => exact im_SP_irem C
  | iand => exact im_SP_iand C
  | ior => exact im_SP_ior C
  | ixor => exact im_SP_ixor C
  | ishl => exact im_SP_ishl C
  | ishr => exact im_SP_ishr C
  | iushr => exact im_SP_iushr C
  | ineg => exact im_SP_ineg C
  | ladd => exact im_SP_ladd C
  | lmul => exact im_SP_lmul C
  | ldiv => exact im_SP_ldiv C
  | lrem => exact im_SP_lrem C
  | lcmp => exact im_SP_lcmp C
  | i2l => exact im_SP_i2l C
  | i2b => exact im_SP_i2b C
  | i2s => exact im_SP_i2s C
  | i2c => exact im_SP_i2c C
  | pop => exact im_SP_pop C
  | dup => exact im_SP_dup C
  | dup_x1 => exact im_SP_dup_x1 C
  | dup2 => exact im_SP_dup2 C
  | ifCond cc off => cases cc with
    | eq => exact im_SP_if_eq C
    | ne => exact im_SP_if_ne C
    | lt => exact im_SP_if_lt C
    | ge => exact im_SP_if_ge C
    | gt => exact im_SP_if_gt C
    | le => exact im_SP_if_le C
  | if_icmp cc off => cases cc with
    | eq => exact im_SP_icmp_eq C
    | ne => exact im_SP_icmp_ne C
    | lt => exact im_SP_icmp_lt C
    | ge => exact im_SP_icmp_ge C
    | gt => exact im_SP_icmp_gt C
    | le => exact im_SP_icmp_le C
  | goto off => exact im_SP_goto C
  | ifnull off => exact im_SP_ifnull C
  | ifnonnull off => exact im_SP_ifnonnull C
  | tableswitch dd lo hi offs => exact im_SP_tableswitch C
  | lookupswitch dd ps => exact im_SP_lookupswitch C
  | ldc i => exact im_SP_ldc C
  | ldc_w i => exact im_SP_ldc_w C
  | ldc2_w i => exact im_SP_ldc2_w C
  | getstatic i => exact absurd rfl (hg i)
  | getfield i => exact im_SP_getfield C
  | putfield i => exact im_SP_putfield C
  | iaload => exact im_SP_iaload C
  | caload => exact im_SP_caload C
  | baload => exact im_SP_baload C
  | aaload => exact im_SP_aaload C
  | iastore => exact im_SP_iastore C
  | castore => exact im_SP_castore C
  | aastore => exact im_SP_aastore C
  | arraylength => exact im_SP_arraylength C
  | new i => exact im_SP_new C
  | newarray t => exact im_SP_newarray C
  | anewarray i => exact im_SP_anewarray C
  | invokespecial i => exact im_SP_oinit C
  | invokevirtual i => exact im_SP_vcall C
  | invokestatic i => exact im_SP_scall C
  | ireturn =>
    refine im_SP_no fun rt pc nx a b L st sh mi mr x h => ?_
    simp only [im_do] at h
    split at h
    · split at h
      · simp at h
      · cases h
    · cases h
  | lreturn =>
    refine im_SP_no fun rt pc nx a b L st sh mi mr x h => ?_
    simp only [im_do] at h
    split at h <;> simp at h
  | areturn =>
    refine im_SP_no fun rt pc nx a b L st sh mi mr x h => ?_
    simp only [im_do] at h
    split at h <;> simp at h
  | return_ =>
    refine im_SP_no fun rt pc nx a b L st sh mi mr x h => ?_
    simp only [im_do] at h
    split at h <;> simp at h
  | _ => exact im_SP_no fun rt pc nx a b L st sh mi mr x h => by simp only [im_do] at h; cases h
theorem im_SPall (C : im_Cx p R s m args meth c A D y) (ins : Instr) {a : Nat} (hn : im_n32 ins a) : ∀ pc nx b c0, im_SPa p l e R s m args below meth c Q A D xs LL y ins pc nx a b c0 := by
  intro pc nx b c0
  by_cases hg : ∃ i, ins = .getstatic i
  · obtain ⟨i, rfl⟩ := hg
    exact im_SP_getstatic C hn pc nx b c0
  · exact im_SPall0 C ins (fun i q => hg ⟨i, q⟩) pc nx a b c0
theorem im_warm (hts : ∀ w ∈ im_ws, w.before args s = true) : ∀ w ∈ im_ws, ∀ (a' : Array Value) (U : State), s.WarmedH U.vm → w.before a' U = true := by
  intro w hw a' U hW
  have hb := hts w hw
  have hok := (List.mem_filter.mp hw).2
  unfold im_okw at hok
  rw [Bool.or_eq_true] at hok
  rcases hok with h | h
  · exact word_at hW (good_of_word h) hb
  · split at h
    · exact va_Nw.use rfl (va_Nw.warmM hW (va_Nw.of rfl hb))
    · exact va_AO.use (va_AO.moved hW.alike (va_AO.of hb))
    · cases h
end SND6
theorem im_do_grow {rt : Option FieldType} {pc nx a b : Nat} {ins : Instr} {L st : List Value} {sh : im_Sh} {mi : im_MI} {mr : im_MR} {x : Nat × List Value × List Value × im_Sh × im_MI × im_MR} (h : im_do im_na im_rc im_nf im_ft rt pc nx a b ins L st sh mi mr = some (.inl x)) : ∃ t, x.2.2.2.1 = sh ++ t := by
  cases ins <;> simp only [im_do, im_nx, im_inv] at h <;> first
    | (cases h; done)
    | (cases h; exact ⟨[], (List.append_nil _).symm⟩)
    | (repeat' split at h
       all_goals first
        | (cases h; done)
        | (cases h; exact ⟨[], (List.append_nil _).symm⟩)
        | (cases h; exact ⟨_, rfl⟩))
    | (cases h9 : Nat.beq a 900 <;> cases h8 : Nat.beq a 901 <;> cases h7 : Nat.ble 900 a <;> simp only [h9, h8, h7, cond_true, cond_false] at h <;> (repeat' split at h) <;> first
        | (cases h; done)
        | (cases h; exact ⟨[], (List.append_nil _).symm⟩))
theorem im_ex_grow : ∀ (n d y pc : Nat) (L st : List Value) (sh : im_Sh) (mi : im_MI) (mr : im_MR) (r : Value × im_Sh × im_MI × im_MR), im_exec n d y pc L st sh mi mr = some r → ∃ t, r.2.1 = sh ++ t
  | 0, _, _, _, _, _, _, _, _, _, h => by cases h
  | n + 1, d, y, pc, L, st, sh, mi, mr, r, h => by
    simp only [im_exec] at h
    split at h
    · cases h
    · rename_i q hq
      obtain ⟨t1, h1⟩ := im_ex_grow n _ _ _ _ _ _ _ _ _ h
      unfold im_step at hq
      split at hq
      · cases hq
      · obtain ⟨t0, h0⟩ := im_do_grow hq
        exact ⟨t0 ++ t1, by rw [h1, h0, List.append_assoc]⟩
    · cases h
      exact ⟨[], (List.append_nil _).symm⟩
    · split at h
      · cases h
      · split at h
        · split at h
          · cases h
          · rename_i r1 hr1
            split at h
            · obtain ⟨t1, h1⟩ := im_ex_grow n _ _ _ _ _ _ _ _ _ hr1
              obtain ⟨t2, h2⟩ := im_ex_grow n _ _ _ _ _ _ _ _ _ h
              exact ⟨t1 ++ t2, by rw [h2, h1, List.append_assoc]⟩
            · cases h
        · cases h
theorem im_ins_ok {y pc : Nat} {e : Nat × Instr × Nat × Nat × Nat} (hy : y < 222) (h : im_ins y pc = some e) : decode (im_code y) pc = .ok (e.2.1, e.1 - pc) ∧ pc ≤ e.1 ∧ im_okR y pc e.1 e.2.2.1 e.2.2.2.1 e.2.2.2.2 e.2.1 = true := by
  obtain ⟨cc, h1, h2⟩ := im_find2_mem _ _ _ h
  have hk := im_kt hy
  unfold im_okT at hk
  have hk2 := List.all_eq_true.mp (List.all_eq_true.mp hk cc h1) _ h2
  unfold im_okB at hk2
  simp only [Bool.and_eq_true, decide_eq_true_eq] at hk2
  exact ⟨hk2.1.1, Nat.le_of_ble_eq_true hk2.1.2, hk2.2⟩
