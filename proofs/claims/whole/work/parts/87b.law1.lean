theorem ckLaw_4 : zchk code 402 tLaw_4 = true := by decide +kernel
theorem ckLaw_5 : zchk code 474 tLaw_5 = true := by decide +kernel
theorem ckLaw_6 : zchk code 560 tLaw_6 = true := by decide +kernel
theorem ckLaw_7 : zchk code 622 tLaw_7 = true := by decide +kernel
