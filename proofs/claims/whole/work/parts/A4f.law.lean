/-! the law's own instructions; laid by a program -/
set_option maxRecDepth 100000 in
theorem kc_13_0 : ((tb_law_13.drop 0).take 25).all ev_dq = true := by decide +kernel
set_option maxRecDepth 100000 in
theorem kc_13_1 : ((tb_law_13.drop 25).take 25).all ev_dq = true := by decide +kernel
set_option maxRecDepth 100000 in
theorem kc_13_2 : ((tb_law_13.drop 50).take 25).all ev_dq = true := by decide +kernel
set_option maxRecDepth 100000 in
theorem kc_13_3 : ((tb_law_13.drop 75).take 25).all ev_dq = true := by decide +kernel
theorem kd_13_4 : (tb_law_13.drop 100).all ev_dq = true := rfl
theorem kd_13_3 : (tb_law_13.drop 75).all ev_dq = true := ev_cut 25 kc_13_3 (by rw [List.drop_drop]; exact kd_13_4)
theorem kd_13_2 : (tb_law_13.drop 50).all ev_dq = true := ev_cut 25 kc_13_2 (by rw [List.drop_drop]; exact kd_13_3)
theorem kd_13_1 : (tb_law_13.drop 25).all ev_dq = true := ev_cut 25 kc_13_1 (by rw [List.drop_drop]; exact kd_13_2)
theorem kd_13_0 : (tb_law_13.drop 0).all ev_dq = true := ev_cut 25 kc_13_0 (by rw [List.drop_drop]; exact kd_13_1)
theorem k_tb_law_13 : ∀ q ∈ tb_law_13, decode code q.1 = .ok q.2 := ev_dec_law (l := tb_law_13) kd_13_0
set_option maxRecDepth 100000 in
theorem kc_14_0 : ((tb_law_14.drop 0).take 25).all ev_dq = true := by decide +kernel
set_option maxRecDepth 100000 in
theorem kc_14_1 : ((tb_law_14.drop 25).take 25).all ev_dq = true := by decide +kernel
set_option maxRecDepth 100000 in
theorem kc_14_2 : ((tb_law_14.drop 50).take 25).all ev_dq = true := by decide +kernel
set_option maxRecDepth 100000 in
theorem kc_14_3 : ((tb_law_14.drop 75).take 25).all ev_dq = true := by decide +kernel
theorem kd_14_4 : (tb_law_14.drop 100).all ev_dq = true := rfl
theorem kd_14_3 : (tb_law_14.drop 75).all ev_dq = true := ev_cut 25 kc_14_3 (by rw [List.drop_drop]; exact kd_14_4)
theorem kd_14_2 : (tb_law_14.drop 50).all ev_dq = true := ev_cut 25 kc_14_2 (by rw [List.drop_drop]; exact kd_14_3)
theorem kd_14_1 : (tb_law_14.drop 25).all ev_dq = true := ev_cut 25 kc_14_1 (by rw [List.drop_drop]; exact kd_14_2)
theorem kd_14_0 : (tb_law_14.drop 0).all ev_dq = true := ev_cut 25 kc_14_0 (by rw [List.drop_drop]; exact kd_14_1)
theorem k_tb_law_14 : ∀ q ∈ tb_law_14, decode code q.1 = .ok q.2 := ev_dec_law (l := tb_law_14) kd_14_0
