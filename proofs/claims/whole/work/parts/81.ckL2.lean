theorem ckl570 : (List.range' 570 95).all (rz_chk 273) = true := by decide +kernel
theorem ckl665 : (List.range' 665 95).all (rz_chk 273) = true := by decide +kernel
theorem ckl760 : (List.range' 760 95).all (rz_chk 273) = true := by decide +kernel
