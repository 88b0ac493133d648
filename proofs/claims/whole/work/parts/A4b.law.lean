/-! the law's own instructions; laid by a program -/
set_option maxRecDepth 100000 in
theorem kc_4_0 : ((tb_law_4.drop 0).take 50).all ev_dq = true := by decide +kernel
set_option maxRecDepth 100000 in
theorem kc_4_1 : ((tb_law_4.drop 50).take 50).all ev_dq = true := by decide +kernel
theorem kd_4_2 : (tb_law_4.drop 100).all ev_dq = true := rfl
theorem kd_4_1 : (tb_law_4.drop 50).all ev_dq = true := ev_cut 50 kc_4_1 (by rw [List.drop_drop]; exact kd_4_2)
theorem kd_4_0 : (tb_law_4.drop 0).all ev_dq = true := ev_cut 50 kc_4_0 (by rw [List.drop_drop]; exact kd_4_1)
theorem k_tb_law_4 : ∀ q ∈ tb_law_4, decode code q.1 = .ok q.2 := ev_dec_law (l := tb_law_4) kd_4_0
set_option maxRecDepth 100000 in
theorem kc_5_0 : ((tb_law_5.drop 0).take 50).all ev_dq = true := by decide +kernel
set_option maxRecDepth 100000 in
theorem kc_5_1 : ((tb_law_5.drop 50).take 50).all ev_dq = true := by decide +kernel
theorem kd_5_2 : (tb_law_5.drop 100).all ev_dq = true := rfl
theorem kd_5_1 : (tb_law_5.drop 50).all ev_dq = true := ev_cut 50 kc_5_1 (by rw [List.drop_drop]; exact kd_5_2)
theorem kd_5_0 : (tb_law_5.drop 0).all ev_dq = true := ev_cut 50 kc_5_0 (by rw [List.drop_drop]; exact kd_5_1)
theorem k_tb_law_5 : ∀ q ∈ tb_law_5, decode code q.1 = .ok q.2 := ev_dec_law (l := tb_law_5) kd_5_0
set_option maxRecDepth 100000 in
theorem kc_6_0 : ((tb_law_6.drop 0).take 50).all ev_dq = true := by decide +kernel
set_option maxRecDepth 100000 in
theorem kc_6_1 : ((tb_law_6.drop 50).take 50).all ev_dq = true := by decide +kernel
theorem kd_6_2 : (tb_law_6.drop 100).all ev_dq = true := rfl
theorem kd_6_1 : (tb_law_6.drop 50).all ev_dq = true := ev_cut 50 kc_6_1 (by rw [List.drop_drop]; exact kd_6_2)
theorem kd_6_0 : (tb_law_6.drop 0).all ev_dq = true := ev_cut 50 kc_6_0 (by rw [List.drop_drop]; exact kd_6_1)
theorem k_tb_law_6 : ∀ q ∈ tb_law_6, decode code q.1 = .ok q.2 := ev_dec_law (l := tb_law_6) kd_6_0
