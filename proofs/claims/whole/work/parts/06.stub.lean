theorem im_kt {y : Nat} (h : y < 222) : im_okT y = true := sorry
theorem im_km {y : Nat} (h : y < im_nM) : im_okM y = true := sorry
