/-! the law's own instructions; laid by a program -/
set_option maxRecDepth 100000 in
theorem kc_7_0 : ((tb_law_7.drop 0).take 50).all ev_dq = true := by decide +kernel
set_option maxRecDepth 100000 in
theorem kc_7_1 : ((tb_law_7.drop 50).take 50).all ev_dq = true := by decide +kernel
theorem kd_7_2 : (tb_law_7.drop 100).all ev_dq = true := rfl
theorem kd_7_1 : (tb_law_7.drop 50).all ev_dq = true := ev_cut 50 kc_7_1 (by rw [List.drop_drop]; exact kd_7_2)
theorem kd_7_0 : (tb_law_7.drop 0).all ev_dq = true := ev_cut 50 kc_7_0 (by rw [List.drop_drop]; exact kd_7_1)
theorem k_tb_law_7 : ∀ q ∈ tb_law_7, decode code q.1 = .ok q.2 := ev_dec_law (l := tb_law_7) kd_7_0
set_option maxRecDepth 100000 in
theorem kc_8_0 : ((tb_law_8.drop 0).take 50).all ev_dq = true := by decide +kernel
set_option maxRecDepth 100000 in
theorem kc_8_1 : ((tb_law_8.drop 50).take 50).all ev_dq = true := by decide +kernel
theorem kd_8_2 : (tb_law_8.drop 100).all ev_dq = true := rfl
theorem kd_8_1 : (tb_law_8.drop 50).all ev_dq = true := ev_cut 50 kc_8_1 (by rw [List.drop_drop]; exact kd_8_2)
theorem kd_8_0 : (tb_law_8.drop 0).all ev_dq = true := ev_cut 50 kc_8_0 (by rw [List.drop_drop]; exact kd_8_1)
theorem k_tb_law_8 : ∀ q ∈ tb_law_8, decode code q.1 = .ok q.2 := ev_dec_law (l := tb_law_8) kd_8_0
