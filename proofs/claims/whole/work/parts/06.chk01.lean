theorem im_kl130_1 : im_l130_1.2.all (im_okB 130) = true := by decide +kernel
theorem im_kl130_2 : im_l130_2.2.all (im_okB 130) = true := by decide +kernel
theorem im_kl130_3 : im_l130_3.2.all (im_okB 130) = true := by decide +kernel
theorem im_kl130_4 : im_l130_4.2.all (im_okB 130) = true := by decide +kernel
theorem im_kl130_5 : im_l130_5.2.all (im_okB 130) = true := by decide +kernel
theorem im_kl130_6 : im_l130_6.2.all (im_okB 130) = true := by decide +kernel
theorem im_kl130_7 : im_l130_7.2.all (im_okB 130) = true := by decide +kernel
theorem im_kl130_8 : im_l130_8.2.all (im_okB 130) = true := by decide +kernel
theorem im_kl130_9 : im_l130_9.2.all (im_okB 130) = true := by decide +kernel
theorem im_kl130_10 : im_l130_10.2.all (im_okB 130) = true := by decide +kernel
theorem im_kl130_11 : im_l130_11.2.all (im_okB 130) = true := by decide +kernel
theorem im_kl130_12 : im_l130_12.2.all (im_okB 130) = true := by decide +kernel
theorem im_kl130_13 : im_l130_13.2.all (im_okB 130) = true := by decide +kernel
theorem im_kl130_14 : im_l130_14.2.all (im_okB 130) = true := by decide +kernel
theorem im_kl130_15 : im_l130_15.2.all (im_okB 130) = true := by decide +kernel
theorem im_kl130_16 : im_l130_16.2.all (im_okB 130) = true := by decide +kernel
theorem im_kl130_17 : im_l130_17.2.all (im_okB 130) = true := by decide +kernel
theorem im_kl130_18 : im_l130_18.2.all (im_okB 130) = true := by decide +kernel
theorem im_kl130_19 : im_l130_19.2.all (im_okB 130) = true := by decide +kernel
theorem im_kl130_20 : im_l130_20.2.all (im_okB 130) = true := by decide +kernel
theorem im_kl130_21 : im_l130_21.2.all (im_okB 130) = true := by decide +kernel
theorem im_kl130_22 : im_l130_22.2.all (im_okB 130) = true := by decide +kernel
theorem im_kb130 : im_okT 130 = true := List.all_eq_true.mpr (show ∀ c ∈ im_t130, (c.2.all (im_okB 130)) = true from List.forall_mem_cons.mpr ⟨im_kl130_0, List.forall_mem_cons.mpr ⟨im_kl130_1, List.forall_mem_cons.mpr ⟨im_kl130_2, List.forall_mem_cons.mpr ⟨im_kl130_3, List.forall_mem_cons.mpr ⟨im_kl130_4, List.forall_mem_cons.mpr ⟨im_kl130_5, List.forall_mem_cons.mpr ⟨im_kl130_6, List.forall_mem_cons.mpr ⟨im_kl130_7, List.forall_mem_cons.mpr ⟨im_kl130_8, List.forall_mem_cons.mpr ⟨im_kl130_9, List.forall_mem_cons.mpr ⟨im_kl130_10, List.forall_mem_cons.mpr ⟨im_kl130_11, List.forall_mem_cons.mpr ⟨im_kl130_12, List.forall_mem_cons.mpr ⟨im_kl130_13, List.forall_mem_cons.mpr ⟨im_kl130_14, List.forall_mem_cons.mpr ⟨im_kl130_15, List.forall_mem_cons.mpr ⟨im_kl130_16, List.forall_mem_cons.mpr ⟨im_kl130_17, List.forall_mem_cons.mpr ⟨im_kl130_18, List.forall_mem_cons.mpr ⟨im_kl130_19, List.forall_mem_cons.mpr ⟨im_kl130_20, List.forall_mem_cons.mpr ⟨im_kl130_21, List.forall_mem_cons.mpr ⟨im_kl130_22, fun _ h => absurd h List.not_mem_nil⟩⟩⟩⟩⟩⟩⟩⟩⟩⟩⟩⟩⟩⟩⟩⟩⟩⟩⟩⟩⟩⟩⟩)
theorem im_kt23 : (List.range' 130 1).all im_okT = true := by simp only [List.range', List.all_cons, List.all_nil, im_kb130, Bool.and_true]
