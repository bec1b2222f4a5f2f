theorem ae_h_run_8 : ae_two 40000 152 226 [ae_i 0, ae_i 1] = true := by decide +kernel
theorem ae_h_run_9 : ae_two 40000 152 226 [ae_i 1, ae_i 0] = true := by decide +kernel
theorem ae_h_run_10 : ae_two 40000 152 226 [ae_i 2, ae_i 3] = true := by decide +kernel
theorem ae_h_run_11 : ae_two 40000 152 226 [ae_i 3, ae_i 2] = true := by decide +kernel
