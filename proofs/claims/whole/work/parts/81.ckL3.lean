theorem ckl855 : (List.range' 855 5).all (rz_chk 273) = true := by decide +kernel
