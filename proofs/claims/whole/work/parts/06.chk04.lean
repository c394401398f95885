theorem im_kl221_17 : im_l221_17.2.all (im_okB 221) = true := by decide +kernel
theorem im_kl221_18 : im_l221_18.2.all (im_okB 221) = true := by decide +kernel
theorem im_kl221_19 : im_l221_19.2.all (im_okB 221) = true := by decide +kernel
theorem im_kl221_20 : im_l221_20.2.all (im_okB 221) = true := by decide +kernel
theorem im_kl221_21 : im_l221_21.2.all (im_okB 221) = true := by decide +kernel
theorem im_kl221_22 : im_l221_22.2.all (im_okB 221) = true := by decide +kernel
theorem im_kl221_23 : im_l221_23.2.all (im_okB 221) = true := by decide +kernel
theorem im_kl221_24 : im_l221_24.2.all (im_okB 221) = true := by decide +kernel
theorem im_kl221_25 : im_l221_25.2.all (im_okB 221) = true := by decide +kernel
theorem im_kl221_26 : im_l221_26.2.all (im_okB 221) = true := by decide +kernel
theorem im_kl221_27 : im_l221_27.2.all (im_okB 221) = true := by decide +kernel
theorem im_kl221_28 : im_l221_28.2.all (im_okB 221) = true := by decide +kernel
theorem im_kl221_29 : im_l221_29.2.all (im_okB 221) = true := by decide +kernel
theorem im_kl221_30 : im_l221_30.2.all (im_okB 221) = true := by decide +kernel
theorem im_kl221_31 : im_l221_31.2.all (im_okB 221) = true := by decide +kernel
theorem im_kl221_32 : im_l221_32.2.all (im_okB 221) = true := by decide +kernel
theorem im_kl221_33 : im_l221_33.2.all (im_okB 221) = true := by decide +kernel
theorem im_kl221_34 : im_l221_34.2.all (im_okB 221) = true := by decide +kernel
theorem im_kl221_35 : im_l221_35.2.all (im_okB 221) = true := by decide +kernel
theorem im_kl221_36 : im_l221_36.2.all (im_okB 221) = true := by decide +kernel
theorem im_kb221 : im_okT 221 = true := List.all_eq_true.mpr (show ∀ c ∈ im_t221, (c.2.all (im_okB 221)) = true from List.forall_mem_cons.mpr ⟨im_kl221_0, List.forall_mem_cons.mpr ⟨im_kl221_1, List.forall_mem_cons.mpr ⟨im_kl221_2, List.forall_mem_cons.mpr ⟨im_kl221_3, List.forall_mem_cons.mpr ⟨im_kl221_4, List.forall_mem_cons.mpr ⟨im_kl221_5, List.forall_mem_cons.mpr ⟨im_kl221_6, List.forall_mem_cons.mpr ⟨im_kl221_7, List.forall_mem_cons.mpr ⟨im_kl221_8, List.forall_mem_cons.mpr ⟨im_kl221_9, List.forall_mem_cons.mpr ⟨im_kl221_10, List.forall_mem_cons.mpr ⟨im_kl221_11, List.forall_mem_cons.mpr ⟨im_kl221_12, List.forall_mem_cons.mpr ⟨im_kl221_13, List.forall_mem_cons.mpr ⟨im_kl221_14, List.forall_mem_cons.mpr ⟨im_kl221_15, List.forall_mem_cons.mpr ⟨im_kl221_16, List.forall_mem_cons.mpr ⟨im_kl221_17, List.forall_mem_cons.mpr ⟨im_kl221_18, List.forall_mem_cons.mpr ⟨im_kl221_19, List.forall_mem_cons.mpr ⟨im_kl221_20, List.forall_mem_cons.mpr ⟨im_kl221_21, List.forall_mem_cons.mpr ⟨im_kl221_22, List.forall_mem_cons.mpr ⟨im_kl221_23, List.forall_mem_cons.mpr ⟨im_kl221_24, List.forall_mem_cons.mpr ⟨im_kl221_25, List.forall_mem_cons.mpr ⟨im_kl221_26, List.forall_mem_cons.mpr ⟨im_kl221_27, List.forall_mem_cons.mpr ⟨im_kl221_28, List.forall_mem_cons.mpr ⟨im_kl221_29, List.forall_mem_cons.mpr ⟨im_kl221_30, List.forall_mem_cons.mpr ⟨im_kl221_31, List.forall_mem_cons.mpr ⟨im_kl221_32, List.forall_mem_cons.mpr ⟨im_kl221_33, List.forall_mem_cons.mpr ⟨im_kl221_34, List.forall_mem_cons.mpr ⟨im_kl221_35, List.forall_mem_cons.mpr ⟨im_kl221_36, fun _ h => absurd h List.not_mem_nil⟩⟩⟩⟩⟩⟩⟩⟩⟩⟩⟩⟩⟩⟩⟩⟩⟩⟩⟩⟩⟩⟩⟩⟩⟩⟩⟩⟩⟩⟩⟩⟩⟩⟩⟩⟩⟩)
theorem im_kt46 : (List.range' 221 1).all im_okT = true := by simp only [List.range', List.all_cons, List.all_nil, im_kb221, Bool.and_true]
theorem im_kt {y : Nat} (h : y < 222) : im_okT y = true := by
  by_cases h0 : y < 6
  · exact List.all_eq_true.mp im_kt0 y (List.mem_range'_1.mpr ⟨by omega, by omega⟩)
  by_cases h1 : y < 13
  · exact List.all_eq_true.mp im_kt1 y (List.mem_range'_1.mpr ⟨by omega, by omega⟩)
  by_cases h2 : y < 18
  · exact List.all_eq_true.mp im_kt2 y (List.mem_range'_1.mpr ⟨by omega, by omega⟩)
  by_cases h3 : y < 28
  · exact List.all_eq_true.mp im_kt3 y (List.mem_range'_1.mpr ⟨by omega, by omega⟩)
  by_cases h4 : y < 37
  · exact List.all_eq_true.mp im_kt4 y (List.mem_range'_1.mpr ⟨by omega, by omega⟩)
  by_cases h5 : y < 42
  · exact List.all_eq_true.mp im_kt5 y (List.mem_range'_1.mpr ⟨by omega, by omega⟩)
  by_cases h6 : y < 49
  · exact List.all_eq_true.mp im_kt6 y (List.mem_range'_1.mpr ⟨by omega, by omega⟩)
  by_cases h7 : y < 56
  · exact List.all_eq_true.mp im_kt7 y (List.mem_range'_1.mpr ⟨by omega, by omega⟩)
  by_cases h8 : y < 62
  · exact List.all_eq_true.mp im_kt8 y (List.mem_range'_1.mpr ⟨by omega, by omega⟩)
  by_cases h9 : y < 65
  · exact List.all_eq_true.mp im_kt9 y (List.mem_range'_1.mpr ⟨by omega, by omega⟩)
  by_cases h10 : y < 70
  · exact List.all_eq_true.mp im_kt10 y (List.mem_range'_1.mpr ⟨by omega, by omega⟩)
  by_cases h11 : y < 74
  · exact List.all_eq_true.mp im_kt11 y (List.mem_range'_1.mpr ⟨by omega, by omega⟩)
  by_cases h12 : y < 78
  · exact List.all_eq_true.mp im_kt12 y (List.mem_range'_1.mpr ⟨by omega, by omega⟩)
  by_cases h13 : y < 81
  · exact List.all_eq_true.mp im_kt13 y (List.mem_range'_1.mpr ⟨by omega, by omega⟩)
  by_cases h14 : y < 86
  · exact List.all_eq_true.mp im_kt14 y (List.mem_range'_1.mpr ⟨by omega, by omega⟩)
  by_cases h15 : y < 90
  · exact List.all_eq_true.mp im_kt15 y (List.mem_range'_1.mpr ⟨by omega, by omega⟩)
  by_cases h16 : y < 93
  · exact List.all_eq_true.mp im_kt16 y (List.mem_range'_1.mpr ⟨by omega, by omega⟩)
  by_cases h17 : y < 98
  · exact List.all_eq_true.mp im_kt17 y (List.mem_range'_1.mpr ⟨by omega, by omega⟩)
  by_cases h18 : y < 102
  · exact List.all_eq_true.mp im_kt18 y (List.mem_range'_1.mpr ⟨by omega, by omega⟩)
  by_cases h19 : y < 112
  · exact List.all_eq_true.mp im_kt19 y (List.mem_range'_1.mpr ⟨by omega, by omega⟩)
  by_cases h20 : y < 120
  · exact List.all_eq_true.mp im_kt20 y (List.mem_range'_1.mpr ⟨by omega, by omega⟩)
  by_cases h21 : y < 128
  · exact List.all_eq_true.mp im_kt21 y (List.mem_range'_1.mpr ⟨by omega, by omega⟩)
  by_cases h22 : y < 130
  · exact List.all_eq_true.mp im_kt22 y (List.mem_range'_1.mpr ⟨by omega, by omega⟩)
  by_cases h23 : y < 131
  · exact List.all_eq_true.mp im_kt23 y (List.mem_range'_1.mpr ⟨by omega, by omega⟩)
  by_cases h24 : y < 140
  · exact List.all_eq_true.mp im_kt24 y (List.mem_range'_1.mpr ⟨by omega, by omega⟩)
  by_cases h25 : y < 141
  · exact List.all_eq_true.mp im_kt25 y (List.mem_range'_1.mpr ⟨by omega, by omega⟩)
  by_cases h26 : y < 147
  · exact List.all_eq_true.mp im_kt26 y (List.mem_range'_1.mpr ⟨by omega, by omega⟩)
  by_cases h27 : y < 149
  · exact List.all_eq_true.mp im_kt27 y (List.mem_range'_1.mpr ⟨by omega, by omega⟩)
  by_cases h28 : y < 152
  · exact List.all_eq_true.mp im_kt28 y (List.mem_range'_1.mpr ⟨by omega, by omega⟩)
  by_cases h29 : y < 157
  · exact List.all_eq_true.mp im_kt29 y (List.mem_range'_1.mpr ⟨by omega, by omega⟩)
  by_cases h30 : y < 161
  · exact List.all_eq_true.mp im_kt30 y (List.mem_range'_1.mpr ⟨by omega, by omega⟩)
  by_cases h31 : y < 165
  · exact List.all_eq_true.mp im_kt31 y (List.mem_range'_1.mpr ⟨by omega, by omega⟩)
  by_cases h32 : y < 171
  · exact List.all_eq_true.mp im_kt32 y (List.mem_range'_1.mpr ⟨by omega, by omega⟩)
  by_cases h33 : y < 173
  · exact List.all_eq_true.mp im_kt33 y (List.mem_range'_1.mpr ⟨by omega, by omega⟩)
  by_cases h34 : y < 175
  · exact List.all_eq_true.mp im_kt34 y (List.mem_range'_1.mpr ⟨by omega, by omega⟩)
  by_cases h35 : y < 178
  · exact List.all_eq_true.mp im_kt35 y (List.mem_range'_1.mpr ⟨by omega, by omega⟩)
  by_cases h36 : y < 183
  · exact List.all_eq_true.mp im_kt36 y (List.mem_range'_1.mpr ⟨by omega, by omega⟩)
  by_cases h37 : y < 187
  · exact List.all_eq_true.mp im_kt37 y (List.mem_range'_1.mpr ⟨by omega, by omega⟩)
  by_cases h38 : y < 192
  · exact List.all_eq_true.mp im_kt38 y (List.mem_range'_1.mpr ⟨by omega, by omega⟩)
  by_cases h39 : y < 195
  · exact List.all_eq_true.mp im_kt39 y (List.mem_range'_1.mpr ⟨by omega, by omega⟩)
  by_cases h40 : y < 198
  · exact List.all_eq_true.mp im_kt40 y (List.mem_range'_1.mpr ⟨by omega, by omega⟩)
  by_cases h41 : y < 202
  · exact List.all_eq_true.mp im_kt41 y (List.mem_range'_1.mpr ⟨by omega, by omega⟩)
  by_cases h42 : y < 204
  · exact List.all_eq_true.mp im_kt42 y (List.mem_range'_1.mpr ⟨by omega, by omega⟩)
  by_cases h43 : y < 207
  · exact List.all_eq_true.mp im_kt43 y (List.mem_range'_1.mpr ⟨by omega, by omega⟩)
  by_cases h44 : y < 219
  · exact List.all_eq_true.mp im_kt44 y (List.mem_range'_1.mpr ⟨by omega, by omega⟩)
  by_cases h45 : y < 221
  · exact List.all_eq_true.mp im_kt45 y (List.mem_range'_1.mpr ⟨by omega, by omega⟩)
  · exact List.all_eq_true.mp im_kt46 y (List.mem_range'_1.mpr ⟨by omega, by omega⟩)
theorem im_km0 : (List.range' 0 12).all im_okM = true := by decide +kernel
