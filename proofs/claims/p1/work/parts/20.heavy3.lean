theorem ae_h_run_12 : ae_two 40000 152 226 [ae_i 4, ae_i 5] = true := by decide +kernel
theorem ae_h_run_13 : ae_two 40000 152 226 [ae_i 5, ae_i 4] = true := by decide +kernel
theorem ae_h_run_14 : ae_two 40000 152 226 [ae_i 6, ae_i 7] = true := by decide +kernel
theorem ae_h_run_15 : ae_two 40000 152 226 [ae_i 7, ae_i 6] = true := by decide +kernel
