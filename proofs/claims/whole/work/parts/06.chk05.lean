theorem im_km12 : (List.range' 12 12).all im_okM = true := by decide +kernel
theorem im_km24 : (List.range' 24 12).all im_okM = true := by decide +kernel
theorem im_km36 : (List.range' 36 12).all im_okM = true := by decide +kernel
theorem im_km48 : (List.range' 48 12).all im_okM = true := by decide +kernel
theorem im_km60 : (List.range' 60 12).all im_okM = true := by decide +kernel
theorem im_km72 : (List.range' 72 12).all im_okM = true := by decide +kernel
theorem im_km84 : (List.range' 84 12).all im_okM = true := by decide +kernel
theorem im_km96 : (List.range' 96 12).all im_okM = true := by decide +kernel
theorem im_km108 : (List.range' 108 12).all im_okM = true := by decide +kernel
theorem im_km120 : (List.range' 120 10).all im_okM = true := by decide +kernel
set_option maxRecDepth 100000 in
theorem im_k130a : tables_1[(im_pl 130).1]? = some (.code (im_mn 130) (im_code 130) (im_mx 130) (im_rt 130)) := by rfl
set_option maxRecDepth 100000 in
theorem im_k130b : im_okw (.code (im_mn 130) (im_code 130) (im_mx 130) (im_rt 130)) = true := by rfl
theorem im_k130c : im_at (im_pl 130).1 (.code (im_mn 130) (im_code 130) (im_mx 130) (im_rt 130)) = true := by
  unfold im_at
  rw [decide_eq_true im_k130a, im_k130b]
  rfl
theorem im_km130 : (List.range' 130 1).all im_okM = true := by
  have h : im_okM 130 = true := by
    unfold im_okM
    rw [im_k130c]
    decide +kernel
  simp only [List.range', List.all_cons, List.all_nil, h, Bool.and_true]
theorem im_km131 : (List.range' 131 1).all im_okM = true := by decide +kernel
theorem im_km132 : (List.range' 132 12).all im_okM = true := by decide +kernel
theorem im_km144 : (List.range' 144 12).all im_okM = true := by decide +kernel
theorem im_km156 : (List.range' 156 12).all im_okM = true := by decide +kernel
theorem im_km168 : (List.range' 168 12).all im_okM = true := by decide +kernel
theorem im_km180 : (List.range' 180 12).all im_okM = true := by decide +kernel
theorem im_km192 : (List.range' 192 12).all im_okM = true := by decide +kernel
theorem im_km204 : (List.range' 204 12).all im_okM = true := by decide +kernel
theorem im_km216 : (List.range' 216 5).all im_okM = true := by decide +kernel
theorem im_km {y : Nat} (h : y < im_nM) : im_okM y = true := by
  have h : y < 221 := h
  by_cases h0 : y < 12
  · exact List.all_eq_true.mp im_km0 y (List.mem_range'_1.mpr ⟨by omega, by omega⟩)
  by_cases h12 : y < 24
  · exact List.all_eq_true.mp im_km12 y (List.mem_range'_1.mpr ⟨by omega, by omega⟩)
  by_cases h24 : y < 36
  · exact List.all_eq_true.mp im_km24 y (List.mem_range'_1.mpr ⟨by omega, by omega⟩)
  by_cases h36 : y < 48
  · exact List.all_eq_true.mp im_km36 y (List.mem_range'_1.mpr ⟨by omega, by omega⟩)
  by_cases h48 : y < 60
  · exact List.all_eq_true.mp im_km48 y (List.mem_range'_1.mpr ⟨by omega, by omega⟩)
  by_cases h60 : y < 72
  · exact List.all_eq_true.mp im_km60 y (List.mem_range'_1.mpr ⟨by omega, by omega⟩)
  by_cases h72 : y < 84
  · exact List.all_eq_true.mp im_km72 y (List.mem_range'_1.mpr ⟨by omega, by omega⟩)
  by_cases h84 : y < 96
  · exact List.all_eq_true.mp im_km84 y (List.mem_range'_1.mpr ⟨by omega, by omega⟩)
  by_cases h96 : y < 108
  · exact List.all_eq_true.mp im_km96 y (List.mem_range'_1.mpr ⟨by omega, by omega⟩)
  by_cases h108 : y < 120
  · exact List.all_eq_true.mp im_km108 y (List.mem_range'_1.mpr ⟨by omega, by omega⟩)
  by_cases h120 : y < 130
  · exact List.all_eq_true.mp im_km120 y (List.mem_range'_1.mpr ⟨by omega, by omega⟩)
  by_cases h130 : y < 131
  · exact List.all_eq_true.mp im_km130 y (List.mem_range'_1.mpr ⟨by omega, by omega⟩)
  by_cases h131 : y < 132
  · exact List.all_eq_true.mp im_km131 y (List.mem_range'_1.mpr ⟨by omega, by omega⟩)
  by_cases h132 : y < 144
  · exact List.all_eq_true.mp im_km132 y (List.mem_range'_1.mpr ⟨by omega, by omega⟩)
  by_cases h144 : y < 156
  · exact List.all_eq_true.mp im_km144 y (List.mem_range'_1.mpr ⟨by omega, by omega⟩)
  by_cases h156 : y < 168
  · exact List.all_eq_true.mp im_km156 y (List.mem_range'_1.mpr ⟨by omega, by omega⟩)
  by_cases h168 : y < 180
  · exact List.all_eq_true.mp im_km168 y (List.mem_range'_1.mpr ⟨by omega, by omega⟩)
  by_cases h180 : y < 192
  · exact List.all_eq_true.mp im_km180 y (List.mem_range'_1.mpr ⟨by omega, by omega⟩)
  by_cases h192 : y < 204
  · exact List.all_eq_true.mp im_km192 y (List.mem_range'_1.mpr ⟨by omega, by omega⟩)
  by_cases h204 : y < 216
  · exact List.all_eq_true.mp im_km204 y (List.mem_range'_1.mpr ⟨by omega, by omega⟩)
  · exact List.all_eq_true.mp im_km216 y (List.mem_range'_1.mpr ⟨by omega, by omega⟩)

