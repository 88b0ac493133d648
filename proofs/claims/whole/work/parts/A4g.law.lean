/-! the law's own instructions; laid by a program -/
set_option maxRecDepth 100000 in
theorem kc_15_0 : ((tb_law_15.drop 0).take 25).all ev_dq = true := by decide +kernel
set_option maxRecDepth 100000 in
theorem kc_15_1 : ((tb_law_15.drop 25).take 25).all ev_dq = true := by decide +kernel
set_option maxRecDepth 100000 in
theorem kc_15_2 : ((tb_law_15.drop 50).take 25).all ev_dq = true := by decide +kernel
set_option maxRecDepth 100000 in
theorem kc_15_3 : ((tb_law_15.drop 75).take 25).all ev_dq = true := by decide +kernel
theorem kd_15_4 : (tb_law_15.drop 100).all ev_dq = true := rfl
theorem kd_15_3 : (tb_law_15.drop 75).all ev_dq = true := ev_cut 25 kc_15_3 (by rw [List.drop_drop]; exact kd_15_4)
theorem kd_15_2 : (tb_law_15.drop 50).all ev_dq = true := ev_cut 25 kc_15_2 (by rw [List.drop_drop]; exact kd_15_3)
theorem kd_15_1 : (tb_law_15.drop 25).all ev_dq = true := ev_cut 25 kc_15_1 (by rw [List.drop_drop]; exact kd_15_2)
theorem kd_15_0 : (tb_law_15.drop 0).all ev_dq = true := ev_cut 25 kc_15_0 (by rw [List.drop_drop]; exact kd_15_1)
theorem k_tb_law_15 : ∀ q ∈ tb_law_15, decode code q.1 = .ok q.2 := ev_dec_law (l := tb_law_15) kd_15_0
set_option maxRecDepth 100000 in
theorem kc_16_0 : ((tb_law_16.drop 0).take 25).all ev_dq = true := by decide +kernel
set_option maxRecDepth 100000 in
theorem kc_16_1 : ((tb_law_16.drop 25).take 25).all ev_dq = true := by decide +kernel
set_option maxRecDepth 100000 in
theorem kc_16_2 : ((tb_law_16.drop 50).take 25).all ev_dq = true := by decide +kernel
set_option maxRecDepth 100000 in
theorem kc_16_3 : ((tb_law_16.drop 75).take 25).all ev_dq = true := by decide +kernel
theorem kd_16_4 : (tb_law_16.drop 100).all ev_dq = true := rfl
theorem kd_16_3 : (tb_law_16.drop 75).all ev_dq = true := ev_cut 25 kc_16_3 (by rw [List.drop_drop]; exact kd_16_4)
theorem kd_16_2 : (tb_law_16.drop 50).all ev_dq = true := ev_cut 25 kc_16_2 (by rw [List.drop_drop]; exact kd_16_3)
theorem kd_16_1 : (tb_law_16.drop 25).all ev_dq = true := ev_cut 25 kc_16_1 (by rw [List.drop_drop]; exact kd_16_2)
theorem kd_16_0 : (tb_law_16.drop 0).all ev_dq = true := ev_cut 25 kc_16_0 (by rw [List.drop_drop]; exact kd_16_1)
theorem k_tb_law_16 : ∀ q ∈ tb_law_16, decode code q.1 = .ok q.2 := ev_dec_law (l := tb_law_16) kd_16_0
theorem k_law : ∀ q ∈ tb_law, decode code q.1 = .ok q.2 := fun q hq => by
  simp only [tb_law, List.mem_append] at hq
  rcases hq with h | h | h | h | h | h | h | h | h | h | h | h | h | h | h | h | h
  · exact k_tb_law_0 q h
  · exact k_tb_law_1 q h
  · exact k_tb_law_2 q h
  · exact k_tb_law_3 q h
  · exact k_tb_law_4 q h
  · exact k_tb_law_5 q h
  · exact k_tb_law_6 q h
  · exact k_tb_law_7 q h
  · exact k_tb_law_8 q h
  · exact k_tb_law_9 q h
  · exact k_tb_law_10 q h
  · exact k_tb_law_11 q h
  · exact k_tb_law_12 q h
  · exact k_tb_law_13 q h
  · exact k_tb_law_14 q h
  · exact k_tb_law_15 q h
  · exact k_tb_law_16 q h
