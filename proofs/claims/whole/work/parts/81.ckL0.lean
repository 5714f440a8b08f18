theorem ckl0 : (List.range' 0 95).all (rz_chk 273) = true := by decide +kernel
theorem ckl95 : (List.range' 95 95).all (rz_chk 273) = true := by decide +kernel
theorem ckl190 : (List.range' 190 95).all (rz_chk 273) = true := by decide +kernel
