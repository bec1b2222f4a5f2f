theorem ae_h_run_4 : ae_two 40000 152 226 [.inl (.inr (2147483648, 2147483649)), .inl (.inr (2147483650, 2147483651))] = true := by decide +kernel
theorem ae_h_run_5 : ae_two 40000 152 226 [.inl (.inr (2147483650, 2147483651)), .inl (.inr (2147483648, 2147483649))] = true := by decide +kernel
theorem ae_h_run_6 : ae_two 40000 152 226 [.inl (.inr (2147483652, 2147483653)), .inl (.inr (2147483654, 2147483655))] = true := by decide +kernel
theorem ae_h_run_7 : ae_two 40000 152 226 [.inl (.inr (2147483654, 2147483655)), .inl (.inr (2147483652, 2147483653))] = true := by decide +kernel
