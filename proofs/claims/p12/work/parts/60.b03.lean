theorem svC_233_k1 : sx_mc sv_tt sv_od (sv_cf svS_228) svC_233 svC_233_c [] 3000 svC_233_c0 = true := by decide +kernel
theorem svC_233_k2 : sx_mc sv_tt sv_od (sv_cf svS_228) svC_233 svC_233_c [] 3000 svC_233_c1 = true := by decide +kernel
theorem svC_233_k3 : sx_mc sv_tt sv_od (sv_cf svS_228) svC_233 svC_233_c [] 3000 svC_233_c2 = true := by decide +kernel
theorem svC_233_k4 : sx_mc sv_tt sv_od (sv_cf svS_228) svC_233 svC_233_c [] 3000 svC_233_c3 = true := by decide +kernel
theorem svC_233_k5 : sx_mc sv_tt sv_od (sv_cf svS_228) svC_233 svC_233_c [] 3000 svC_233_c4 = true := by decide +kernel
theorem svC_233_k6 : sx_mc sv_tt sv_od (sv_cf svS_228) svC_233 svC_233_c [] 3000 svC_233_c5 = true := by decide +kernel
