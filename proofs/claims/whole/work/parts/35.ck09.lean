theorem ckm274 : rz_chM 274 = true := by decide +kernel
theorem ckm275 : rz_chM 275 = true := by decide +kernel
theorem ckm276 : rz_chM 276 = true := by decide +kernel
theorem ckm277 : rz_chM 277 = true := by decide +kernel
theorem ckm278 : rz_chM 278 = true := by decide +kernel
