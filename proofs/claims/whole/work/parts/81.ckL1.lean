theorem ckl285 : (List.range' 285 95).all (rz_chk 273) = true := by decide +kernel
theorem ckl380 : (List.range' 380 95).all (rz_chk 273) = true := by decide +kernel
theorem ckl475 : (List.range' 475 95).all (rz_chk 273) = true := by decide +kernel
