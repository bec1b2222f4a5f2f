theorem svC_236_k : sx_meth sv_tt sv_od (sv_cf svS_236) svC_236 svC_236_c [] 3000 [] = true := by decide +kernel
def svS_237 : List (Nat × List sv_C) := (186, [svC_236]) :: svS_236
