theorem ae_h_idle_0 : ae_two 40000 157 236 [.inl (.inr (2147483648, 2147483655))] = true := sorry
theorem ae_h_unseen_1 : ae_two 40000 172 244 [.inl (.inr (2147483648, 2147483655))] = true := sorry
theorem ae_h_run_2 : ae_two 40000 152 226 [.inl (.inr (2147483648, 2147483651)), .inl (.inr (2147483652, 2147483655))] = true := sorry
theorem ae_h_run_3 : ae_two 40000 152 226 [.inl (.inr (2147483652, 2147483655)), .inl (.inr (2147483648, 2147483651))] = true := sorry
theorem ae_h_run_4 : ae_two 40000 152 226 [.inl (.inr (2147483648, 2147483649)), .inl (.inr (2147483650, 2147483651))] = true := sorry
theorem ae_h_run_5 : ae_two 40000 152 226 [.inl (.inr (2147483650, 2147483651)), .inl (.inr (2147483648, 2147483649))] = true := sorry
theorem ae_h_run_6 : ae_two 40000 152 226 [.inl (.inr (2147483652, 2147483653)), .inl (.inr (2147483654, 2147483655))] = true := sorry
theorem ae_h_run_7 : ae_two 40000 152 226 [.inl (.inr (2147483654, 2147483655)), .inl (.inr (2147483652, 2147483653))] = true := sorry
theorem ae_h_run_8 : ae_two 40000 152 226 [ae_i 0, ae_i 1] = true := sorry
theorem ae_h_run_9 : ae_two 40000 152 226 [ae_i 1, ae_i 0] = true := sorry
theorem ae_h_run_10 : ae_two 40000 152 226 [ae_i 2, ae_i 3] = true := sorry
theorem ae_h_run_11 : ae_two 40000 152 226 [ae_i 3, ae_i 2] = true := sorry
theorem ae_h_run_12 : ae_two 40000 152 226 [ae_i 4, ae_i 5] = true := sorry
theorem ae_h_run_13 : ae_two 40000 152 226 [ae_i 5, ae_i 4] = true := sorry
theorem ae_h_run_14 : ae_two 40000 152 226 [ae_i 6, ae_i 7] = true := sorry
theorem ae_h_run_15 : ae_two 40000 152 226 [ae_i 7, ae_i 6] = true := sorry
