theorem im_kt39 : (List.range' 192 3).all im_okT = true := by decide +kernel
theorem im_kt40 : (List.range' 195 3).all im_okT = true := by decide +kernel
theorem im_kt41 : (List.range' 198 4).all im_okT = true := by decide +kernel
theorem im_kt42 : (List.range' 202 2).all im_okT = true := by decide +kernel
theorem im_kt43 : (List.range' 204 3).all im_okT = true := by decide +kernel
theorem im_kt44 : (List.range' 207 12).all im_okT = true := by decide +kernel
theorem im_kt45 : (List.range' 219 2).all im_okT = true := by decide +kernel
theorem im_kl221_0 : im_l221_0.2.all (im_okB 221) = true := by decide +kernel
theorem im_kl221_1 : im_l221_1.2.all (im_okB 221) = true := by decide +kernel
theorem im_kl221_2 : im_l221_2.2.all (im_okB 221) = true := by decide +kernel
theorem im_kl221_3 : im_l221_3.2.all (im_okB 221) = true := by decide +kernel
theorem im_kl221_4 : im_l221_4.2.all (im_okB 221) = true := by decide +kernel
theorem im_kl221_5 : im_l221_5.2.all (im_okB 221) = true := by decide +kernel
theorem im_kl221_6 : im_l221_6.2.all (im_okB 221) = true := by decide +kernel
theorem im_kl221_7 : im_l221_7.2.all (im_okB 221) = true := by decide +kernel
theorem im_kl221_8 : im_l221_8.2.all (im_okB 221) = true := by decide +kernel
theorem im_kl221_9 : im_l221_9.2.all (im_okB 221) = true := by decide +kernel
theorem im_kl221_10 : im_l221_10.2.all (im_okB 221) = true := by decide +kernel
theorem im_kl221_11 : im_l221_11.2.all (im_okB 221) = true := by decide +kernel
theorem im_kl221_12 : im_l221_12.2.all (im_okB 221) = true := by decide +kernel
theorem im_kl221_13 : im_l221_13.2.all (im_okB 221) = true := by decide +kernel
theorem im_kl221_14 : im_l221_14.2.all (im_okB 221) = true := by decide +kernel
theorem im_kl221_15 : im_l221_15.2.all (im_okB 221) = true := by decide +kernel
theorem im_kl221_16 : im_l221_16.2.all (im_okB 221) = true := by decide +kernel
