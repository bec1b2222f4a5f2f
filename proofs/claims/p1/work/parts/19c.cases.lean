theorem ae_t_feed_0 : ae_two 40000 144 185 [ae_top, ae_top, ae_top, ae_top, ae_top] = true := by decide +kernel
theorem ae_t_end_0 : ae_two 40000 145 187 [.inl (.inr (0, 2147483647))] = true := by decide +kernel
theorem ae_t_end_1 : ae_two 40000 145 187 [ae_i 0] = true := by decide +kernel
theorem ae_t_end_2 : ae_two 40000 145 187 [.inl (.inr (2147483649, 4294967295))] = true := by decide +kernel
theorem ae_t_ran_0 : ae_two 40000 153 227 [ae_top] = true := by decide +kernel
theorem ae_t_count_0 : ae_two 40000 181 283 [.inl (.inr (0, 2147483647))] = true := by decide +kernel
theorem ae_t_count_1 : ae_two 40000 181 283 [ae_i 0] = true := by decide +kernel
theorem ae_t_count_2 : ae_two 40000 181 283 [ae_i 1] = true := by decide +kernel
theorem ae_t_count_3 : ae_two 40000 181 283 [ae_i 2] = true := by decide +kernel
theorem ae_t_count_4 : ae_two 40000 181 283 [.inl (.inr (2147483651, 4294967295))] = true := by decide +kernel
theorem ae_t_card_0 : ae_two 40000 146 192 [.inl (.inr (0, 2147483647))] = true := by decide +kernel
theorem ae_t_card_1 : ae_two 40000 146 192 [.inl (.inr (2147483648, 2147483655))] = true := by decide +kernel
theorem ae_t_card_2 : ae_two 40000 146 192 [.inl (.inr (2147483656, 4294967295))] = true := by decide +kernel
theorem ae_t_cards_0 : ae_two 40000 147 193 [.inl (.inr (0, 2147483647))] = true := by decide +kernel
theorem ae_t_cards_1 : ae_two 40000 147 193 [.inl (.inr (2147483648, 2147483655))] = true := by decide +kernel
theorem ae_t_cards_2 : ae_two 40000 147 193 [.inl (.inr (2147483656, 4294967295))] = true := by decide +kernel
theorem ae_t_empty_0 : ae_two 40000 149 195 [.inl (.inr (0, 2147483647))] = true := by decide +kernel
theorem ae_t_empty_1 : ae_two 40000 149 195 [.inl (.inr (2147483648, 2147483655))] = true := by decide +kernel
theorem ae_t_empty_2 : ae_two 40000 149 195 [.inl (.inr (2147483656, 4294967295))] = true := by decide +kernel
theorem ae_t_idle_0 : ae_two 40000 157 236 [.inl (.inr (0, 2147483647))] = true := by decide +kernel
theorem ae_t_idle_2 : ae_two 40000 157 236 [.inl (.inr (2147483656, 4294967295))] = true := by decide +kernel
theorem ae_t_missing_0 : ae_two 40000 158 239 [.inl (.inr (0, 2147483647))] = true := by decide +kernel
theorem ae_t_missing_1 : ae_two 40000 158 239 [ae_i 0] = true := by decide +kernel
theorem ae_t_missing_2 : ae_two 40000 158 239 [ae_i 1] = true := by decide +kernel
theorem ae_t_missing_3 : ae_two 40000 158 239 [ae_i 2] = true := by decide +kernel
theorem ae_t_missing_4 : ae_two 40000 158 239 [ae_i 3] = true := by decide +kernel
theorem ae_t_missing_5 : ae_two 40000 158 239 [ae_i 4] = true := by decide +kernel
theorem ae_t_missing_6 : ae_two 40000 158 239 [ae_i 5] = true := by decide +kernel
theorem ae_t_missing_7 : ae_two 40000 158 239 [ae_i 6] = true := by decide +kernel
theorem ae_t_missing_8 : ae_two 40000 158 239 [ae_i 7] = true := by decide +kernel
theorem ae_t_missing_9 : ae_two 40000 158 239 [.inl (.inr (2147483656, 4294967295))] = true := by decide +kernel
theorem ae_t_tests_0 : ae_two 40000 160 241 [.inl (.inr (0, 2147483647))] = true := by decide +kernel
theorem ae_t_tests_1 : ae_two 40000 160 241 [.inl (.inr (2147483648, 2147483655))] = true := by decide +kernel
theorem ae_t_tests_2 : ae_two 40000 160 241 [.inl (.inr (2147483656, 4294967295))] = true := by decide +kernel
theorem ae_t_unseen_0 : ae_two 40000 172 244 [.inl (.inr (0, 2147483647))] = true := by decide +kernel
theorem ae_t_unseen_2 : ae_two 40000 172 244 [.inl (.inr (2147483656, 4294967295))] = true := by decide +kernel
theorem ae_t_moves_0 : ae_two 40000 174 247 [.inl (.inr (0, 2147483647))] = true := by decide +kernel
theorem ae_t_moves_1 : ae_two 40000 174 247 [ae_i 0] = true := by decide +kernel
theorem ae_t_moves_2 : ae_two 40000 174 247 [ae_i 1] = true := by decide +kernel
theorem ae_t_moves_3 : ae_two 40000 174 247 [ae_i 2] = true := by decide +kernel
theorem ae_t_moves_4 : ae_two 40000 174 247 [ae_i 3] = true := by decide +kernel
theorem ae_t_moves_5 : ae_two 40000 174 247 [ae_i 4] = true := by decide +kernel
theorem ae_t_moves_6 : ae_two 40000 174 247 [ae_i 5] = true := by decide +kernel
theorem ae_t_moves_7 : ae_two 40000 174 247 [ae_i 6] = true := by decide +kernel
theorem ae_t_moves_8 : ae_two 40000 174 247 [ae_i 7] = true := by decide +kernel
theorem ae_t_moves_9 : ae_two 40000 174 247 [.inl (.inr (2147483656, 4294967295))] = true := by decide +kernel
theorem ae_t_needed_0 : ae_two 40000 170 234 [.inl (.inr (0, 2147483647))] = true := by decide +kernel
theorem ae_t_needed_1 : ae_two 40000 170 234 [.inl (.inr (2147483648, 2147483655))] = true := by decide +kernel
theorem ae_t_needed_2 : ae_two 40000 170 234 [.inl (.inr (2147483656, 4294967295))] = true := by decide +kernel
theorem ae_t_keep_0 : ae_two 40000 176 273 [.inl (.inr (0, 2147483647))] = true := by decide +kernel
theorem ae_t_keep_1 : ae_two 40000 176 273 [ae_i 0] = true := by decide +kernel
theorem ae_t_keep_2 : ae_two 40000 176 273 [ae_i 1] = true := by decide +kernel
theorem ae_t_keep_3 : ae_two 40000 176 273 [ae_i 2] = true := by decide +kernel
theorem ae_t_keep_4 : ae_two 40000 176 273 [ae_i 3] = true := by decide +kernel
theorem ae_t_keep_5 : ae_two 40000 176 273 [ae_i 4] = true := by decide +kernel
theorem ae_t_keep_6 : ae_two 40000 176 273 [ae_i 5] = true := by decide +kernel
theorem ae_t_keep_7 : ae_two 40000 176 273 [ae_i 6] = true := by decide +kernel
theorem ae_t_keep_8 : ae_two 40000 176 273 [ae_i 7] = true := by decide +kernel
theorem ae_t_keep_9 : ae_two 40000 176 273 [.inl (.inr (2147483656, 4294967295))] = true := by decide +kernel
theorem ae_t_use_0 : ae_two 40000 177 275 [.inl (.inr (0, 2147483647))] = true := by decide +kernel
theorem ae_t_use_1 : ae_two 40000 177 275 [ae_i 0] = true := by decide +kernel
theorem ae_t_use_2 : ae_two 40000 177 275 [ae_i 1] = true := by decide +kernel
theorem ae_t_use_3 : ae_two 40000 177 275 [ae_i 2] = true := by decide +kernel
theorem ae_t_use_4 : ae_two 40000 177 275 [ae_i 3] = true := by decide +kernel
theorem ae_t_use_5 : ae_two 40000 177 275 [ae_i 4] = true := by decide +kernel
theorem ae_t_use_6 : ae_two 40000 177 275 [ae_i 5] = true := by decide +kernel
theorem ae_t_use_7 : ae_two 40000 177 275 [ae_i 6] = true := by decide +kernel
theorem ae_t_use_8 : ae_two 40000 177 275 [ae_i 7] = true := by decide +kernel
theorem ae_t_use_9 : ae_two 40000 177 275 [.inl (.inr (2147483656, 4294967295))] = true := by decide +kernel
theorem ae_t_board_0 : ae_two 40000 150 210 [] = true := by decide +kernel
theorem ae_t_fault_0 : ae_two 40000 151 203 [] = true := by decide +kernel
theorem ae_t_testSet_0 : ae_two 40000 161 242 [] = true := by decide +kernel
theorem ae_t_shown_0 : ae_two 40000 162 243 [] = true := by decide +kernel
theorem ae_t_job_0 : ae_two 40000 163 257 [] = true := by decide +kernel
theorem ae_t_runs_0 : ae_two 40000 164 263 [] = true := by decide +kernel
theorem ae_t_neededSet_0 : ae_two 40000 171 235 [] = true := by decide +kernel
theorem ae_t_friday_0 : ae_two 40000 179 279 [] = true := by decide +kernel
theorem ae_t_wire_0 : ae_two 40000 159 240 [.inl (.inr (0, 2147483647))] = true := by decide +kernel
theorem ae_t_wire_1 : ae_two 40000 159 240 [.inl (.inr (2147483648, 4294967295))] = true := by decide +kernel
theorem ae_t_wants_0 : ae_two 40000 165 265 [.inl (.inr (0, 2147483647))] = true := by decide +kernel
theorem ae_t_wants_1 : ae_two 40000 165 265 [.inl (.inr (2147483648, 4294967295))] = true := by decide +kernel
theorem ae_t_make_0 : ae_two 40000 166 266 [.inl (.inr (0, 2147483647))] = true := by decide +kernel
theorem ae_t_make_1 : ae_two 40000 166 266 [.inl (.inr (2147483648, 4294967295))] = true := by decide +kernel
theorem ae_t_unseenAt_0 : ae_two 40000 173 245 [.inl (.inr (0, 2147483647))] = true := by decide +kernel
theorem ae_t_unseenAt_1 : ae_two 40000 173 245 [.inl (.inr (2147483648, 4294967295))] = true := by decide +kernel
theorem ae_t_fridayAt_0 : ae_two 40000 180 282 [.inl (.inr (0, 2147483647))] = true := by decide +kernel
theorem ae_t_fridayAt_1 : ae_two 40000 180 282 [.inl (.inr (2147483648, 4294967295))] = true := by decide +kernel
theorem ae_t_run_0 : ae_two 40000 152 226 [.inl (.inr (0, 2147483647)), ae_top] = true := by decide +kernel
theorem ae_t_run_1 : ae_two 40000 152 226 [.inl (.inr (2147483656, 4294967295)), ae_top] = true := by decide +kernel
theorem ae_t_run_2 : ae_two 40000 152 226 [.inl (.inr (2147483648, 2147483655)), .inl (.inr (0, 2147483647))] = true := by decide +kernel
theorem ae_t_run_3 : ae_two 40000 152 226 [.inl (.inr (2147483648, 2147483655)), .inl (.inr (2147483656, 4294967295))] = true := by decide +kernel
theorem ae_t_run_4 : ae_two 40000 152 226 [ae_i 0, ae_i 0] = true := by decide +kernel
theorem ae_t_run_5 : ae_two 40000 152 226 [ae_i 1, ae_i 1] = true := by decide +kernel
theorem ae_t_run_6 : ae_two 40000 152 226 [ae_i 2, ae_i 2] = true := by decide +kernel
theorem ae_t_run_7 : ae_two 40000 152 226 [ae_i 3, ae_i 3] = true := by decide +kernel
theorem ae_t_run_8 : ae_two 40000 152 226 [ae_i 4, ae_i 4] = true := by decide +kernel
theorem ae_t_run_9 : ae_two 40000 152 226 [ae_i 5, ae_i 5] = true := by decide +kernel
theorem ae_t_run_10 : ae_two 40000 152 226 [ae_i 6, ae_i 6] = true := by decide +kernel
theorem ae_t_run_11 : ae_two 40000 152 226 [ae_i 7, ae_i 7] = true := by decide +kernel
theorem ae_t_pass_0 : ae_two 40000 156 231 [.inl (.inr (0, 2147483647)), ae_top] = true := by decide +kernel
theorem ae_t_pass_1 : ae_two 40000 156 231 [.inl (.inr (2147483656, 4294967295)), ae_top] = true := by decide +kernel
theorem ae_t_pass_2 : ae_two 40000 156 231 [.inl (.inr (2147483648, 2147483655)), .inl (.inr (0, 2147483648))] = true := by decide +kernel
theorem ae_t_pass_3 : ae_two 40000 156 231 [.inl (.inr (2147483648, 2147483655)), .inl (.inr (2147483669, 4294967295))] = true := by decide +kernel
theorem ae_t_pass_4 : ae_two 40000 156 231 [ae_i 0, .inl (.inr (2147483649, 2147483668))] = true := by decide +kernel
theorem ae_t_pass_5 : ae_two 40000 156 231 [ae_i 1, .inl (.inr (2147483649, 2147483668))] = true := by decide +kernel
theorem ae_t_pass_6 : ae_two 40000 156 231 [ae_i 2, .inl (.inr (2147483649, 2147483668))] = true := by decide +kernel
theorem ae_t_pass_7 : ae_two 40000 156 231 [ae_i 3, .inl (.inr (2147483649, 2147483668))] = true := by decide +kernel
theorem ae_t_pass_8 : ae_two 40000 156 231 [ae_i 4, .inl (.inr (2147483649, 2147483668))] = true := by decide +kernel
theorem ae_t_pass_9 : ae_two 40000 156 231 [ae_i 5, .inl (.inr (2147483649, 2147483668))] = true := by decide +kernel
theorem ae_t_pass_10 : ae_two 40000 156 231 [ae_i 6, .inl (.inr (2147483649, 2147483668))] = true := by decide +kernel
theorem ae_t_pass_11 : ae_two 40000 156 231 [ae_i 7, .inl (.inr (2147483649, 2147483668))] = true := by decide +kernel
theorem ae_t_wanted_0 : ae_two 40000 167 270 [.inl (.inr (0, 2147483647)), .inl (.inr (0, 2147483647))] = true := by decide +kernel
theorem ae_t_wanted_1 : ae_two 40000 167 270 [.inl (.inr (0, 2147483647)), .inl (.inr (2147483648, 4294967295))] = true := by decide +kernel
theorem ae_t_wanted_2 : ae_two 40000 167 270 [.inl (.inr (2147483648, 2147483655)), .inl (.inr (0, 2147483647))] = true := by decide +kernel
theorem ae_t_wanted_3 : ae_two 40000 167 270 [.inl (.inr (2147483648, 2147483655)), .inl (.inr (2147483648, 4294967295))] = true := by decide +kernel
theorem ae_t_wanted_4 : ae_two 40000 167 270 [.inl (.inr (2147483656, 4294967295)), .inl (.inr (0, 2147483647))] = true := by decide +kernel
theorem ae_t_wanted_5 : ae_two 40000 167 270 [.inl (.inr (2147483656, 4294967295)), .inl (.inr (2147483648, 4294967295))] = true := by decide +kernel
theorem ae_t_same_0 : ae_two 40000 169 272 [.inl (.inr (0, 2147483647)), .inl (.inr (0, 2147483647))] = true := by decide +kernel
theorem ae_t_same_1 : ae_two 40000 169 272 [.inl (.inr (0, 2147483647)), .inl (.inr (2147483648, 4294967295))] = true := by decide +kernel
theorem ae_t_same_2 : ae_two 40000 169 272 [.inl (.inr (2147483648, 2147483655)), .inl (.inr (0, 2147483647))] = true := by decide +kernel
theorem ae_t_same_3 : ae_two 40000 169 272 [.inl (.inr (2147483648, 2147483655)), .inl (.inr (2147483648, 4294967295))] = true := by decide +kernel
theorem ae_t_same_4 : ae_two 40000 169 272 [.inl (.inr (2147483656, 4294967295)), .inl (.inr (0, 2147483647))] = true := by decide +kernel
theorem ae_t_same_5 : ae_two 40000 169 272 [.inl (.inr (2147483656, 4294967295)), .inl (.inr (2147483648, 4294967295))] = true := by decide +kernel
theorem ae_t_apart_0 : ae_two 40000 178 278 [.inl (.inr (0, 2147483647)), ae_top] = true := by decide +kernel
theorem ae_t_apart_1 : ae_two 40000 178 278 [ae_i 0, ae_top] = true := by decide +kernel
theorem ae_t_apart_2 : ae_two 40000 178 278 [ae_i 1, ae_top] = true := by decide +kernel
theorem ae_t_apart_3 : ae_two 40000 178 278 [ae_i 2, ae_top] = true := by decide +kernel
theorem ae_t_apart_4 : ae_two 40000 178 278 [ae_i 3, ae_top] = true := by decide +kernel
theorem ae_t_apart_5 : ae_two 40000 178 278 [ae_i 4, ae_top] = true := by decide +kernel
theorem ae_t_apart_6 : ae_two 40000 178 278 [ae_i 5, ae_top] = true := by decide +kernel
theorem ae_t_apart_7 : ae_two 40000 178 278 [ae_i 6, ae_top] = true := by decide +kernel
theorem ae_t_apart_8 : ae_two 40000 178 278 [ae_i 7, ae_top] = true := by decide +kernel
theorem ae_t_apart_9 : ae_two 40000 178 278 [.inl (.inr (2147483656, 4294967295)), ae_top] = true := by decide +kernel
theorem ae_t_move_0 : ae_two 40000 175 249 [.inl (.inr (0, 2147483647)), ae_top] = true := by decide +kernel
theorem ae_t_move_1 : ae_two 40000 175 249 [.inl (.inr (2147483648, 4294967295)), ae_top] = true := by decide +kernel
