theorem ckLaw_8 : zchk code 684 tLaw_8 = true := by decide +kernel
theorem ckLaw_9 : zchk code 758 tLaw_9 = true := by decide +kernel
theorem ckLaw_10 : zchk code 818 tLaw_10 = true := by decide +kernel
theorem ckLaw_11 : zchk code 882 tLaw_11 = true := by decide +kernel
