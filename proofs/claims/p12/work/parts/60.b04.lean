theorem svC_233_k7 : sx_mc sv_tt sv_od (sv_cf svS_228) svC_233 svC_233_c [] 3000 svC_233_c6 = true := by decide +kernel
theorem svC_233_k8 : sx_mc sv_tt sv_od (sv_cf svS_228) svC_233 svC_233_c [] 3000 svC_233_c7 = true := by decide +kernel
theorem svC_233_k9 : sx_mc sv_tt sv_od (sv_cf svS_228) svC_233 svC_233_c [] 3000 svC_233_c8 = true := by decide +kernel
theorem svC_233_k10 : sx_mc sv_tt sv_od (sv_cf svS_228) svC_233 svC_233_c [] 3000 svC_233_c9 = true := by decide +kernel
theorem svC_233_k11 : sx_mc sv_tt sv_od (sv_cf svS_228) svC_233 svC_233_c [] 3000 svC_233_c10 = true := by decide +kernel
theorem svC_233_k12 : sx_mc sv_tt sv_od (sv_cf svS_228) svC_233 svC_233_c [] 3000 svC_233_c11 = true := by decide +kernel
