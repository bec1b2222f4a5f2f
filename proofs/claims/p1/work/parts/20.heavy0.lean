theorem ae_h_idle_0 : ae_two 40000 157 236 [.inl (.inr (2147483648, 2147483655))] = true := by decide +kernel
theorem ae_h_unseen_1 : ae_two 40000 172 244 [.inl (.inr (2147483648, 2147483655))] = true := by decide +kernel
theorem ae_h_run_2 : ae_two 40000 152 226 [.inl (.inr (2147483648, 2147483651)), .inl (.inr (2147483652, 2147483655))] = true := by decide +kernel
theorem ae_h_run_3 : ae_two 40000 152 226 [.inl (.inr (2147483652, 2147483655)), .inl (.inr (2147483648, 2147483651))] = true := by decide +kernel
