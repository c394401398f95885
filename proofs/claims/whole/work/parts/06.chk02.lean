theorem im_kt24 : (List.range' 131 9).all im_okT = true := by decide +kernel
theorem im_kl140_0 : im_l140_0.2.all (im_okB 140) = true := by decide +kernel
theorem im_kl140_1 : im_l140_1.2.all (im_okB 140) = true := by decide +kernel
theorem im_kl140_2 : im_l140_2.2.all (im_okB 140) = true := by decide +kernel
theorem im_kl140_3 : im_l140_3.2.all (im_okB 140) = true := by decide +kernel
theorem im_kl140_4 : im_l140_4.2.all (im_okB 140) = true := by decide +kernel
theorem im_kl140_5 : im_l140_5.2.all (im_okB 140) = true := by decide +kernel
theorem im_kl140_6 : im_l140_6.2.all (im_okB 140) = true := by decide +kernel
theorem im_kl140_7 : im_l140_7.2.all (im_okB 140) = true := by decide +kernel
theorem im_kb140 : im_okT 140 = true := List.all_eq_true.mpr (show ∀ c ∈ im_t140, (c.2.all (im_okB 140)) = true from List.forall_mem_cons.mpr ⟨im_kl140_0, List.forall_mem_cons.mpr ⟨im_kl140_1, List.forall_mem_cons.mpr ⟨im_kl140_2, List.forall_mem_cons.mpr ⟨im_kl140_3, List.forall_mem_cons.mpr ⟨im_kl140_4, List.forall_mem_cons.mpr ⟨im_kl140_5, List.forall_mem_cons.mpr ⟨im_kl140_6, List.forall_mem_cons.mpr ⟨im_kl140_7, fun _ h => absurd h List.not_mem_nil⟩⟩⟩⟩⟩⟩⟩⟩)
theorem im_kt25 : (List.range' 140 1).all im_okT = true := by simp only [List.range', List.all_cons, List.all_nil, im_kb140, Bool.and_true]
theorem im_kt26 : (List.range' 141 6).all im_okT = true := by decide +kernel
theorem im_kt27 : (List.range' 147 2).all im_okT = true := by decide +kernel
theorem im_kt28 : (List.range' 149 3).all im_okT = true := by decide +kernel
theorem im_kt29 : (List.range' 152 5).all im_okT = true := by decide +kernel
theorem im_kt30 : (List.range' 157 4).all im_okT = true := by decide +kernel
theorem im_kt31 : (List.range' 161 4).all im_okT = true := by decide +kernel
theorem im_kt32 : (List.range' 165 6).all im_okT = true := by decide +kernel
theorem im_kt33 : (List.range' 171 2).all im_okT = true := by decide +kernel
theorem im_kt34 : (List.range' 173 2).all im_okT = true := by decide +kernel
theorem im_kt35 : (List.range' 175 3).all im_okT = true := by decide +kernel
theorem im_kt36 : (List.range' 178 5).all im_okT = true := by decide +kernel
theorem im_kt37 : (List.range' 183 4).all im_okT = true := by decide +kernel
theorem im_kt38 : (List.range' 187 5).all im_okT = true := by decide +kernel
