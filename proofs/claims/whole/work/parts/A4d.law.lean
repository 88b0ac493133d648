/-! the law's own instructions; laid by a program -/
set_option maxRecDepth 100000 in
theorem kc_9_0 : ((tb_law_9.drop 0).take 25).all ev_dq = true := by decide +kernel
set_option maxRecDepth 100000 in
theorem kc_9_1 : ((tb_law_9.drop 25).take 25).all ev_dq = true := by decide +kernel
set_option maxRecDepth 100000 in
theorem kc_9_2 : ((tb_law_9.drop 50).take 25).all ev_dq = true := by decide +kernel
set_option maxRecDepth 100000 in
theorem kc_9_3 : ((tb_law_9.drop 75).take 25).all ev_dq = true := by decide +kernel
theorem kd_9_4 : (tb_law_9.drop 100).all ev_dq = true := rfl
theorem kd_9_3 : (tb_law_9.drop 75).all ev_dq = true := ev_cut 25 kc_9_3 (by rw [List.drop_drop]; exact kd_9_4)
theorem kd_9_2 : (tb_law_9.drop 50).all ev_dq = true := ev_cut 25 kc_9_2 (by rw [List.drop_drop]; exact kd_9_3)
theorem kd_9_1 : (tb_law_9.drop 25).all ev_dq = true := ev_cut 25 kc_9_1 (by rw [List.drop_drop]; exact kd_9_2)
theorem kd_9_0 : (tb_law_9.drop 0).all ev_dq = true := ev_cut 25 kc_9_0 (by rw [List.drop_drop]; exact kd_9_1)
theorem k_tb_law_9 : ∀ q ∈ tb_law_9, decode code q.1 = .ok q.2 := ev_dec_law (l := tb_law_9) kd_9_0
set_option maxRecDepth 100000 in
theorem kc_10_0 : ((tb_law_10.drop 0).take 25).all ev_dq = true := by decide +kernel
set_option maxRecDepth 100000 in
theorem kc_10_1 : ((tb_law_10.drop 25).take 25).all ev_dq = true := by decide +kernel
set_option maxRecDepth 100000 in
theorem kc_10_2 : ((tb_law_10.drop 50).take 25).all ev_dq = true := by decide +kernel
set_option maxRecDepth 100000 in
theorem kc_10_3 : ((tb_law_10.drop 75).take 25).all ev_dq = true := by decide +kernel
theorem kd_10_4 : (tb_law_10.drop 100).all ev_dq = true := rfl
theorem kd_10_3 : (tb_law_10.drop 75).all ev_dq = true := ev_cut 25 kc_10_3 (by rw [List.drop_drop]; exact kd_10_4)
theorem kd_10_2 : (tb_law_10.drop 50).all ev_dq = true := ev_cut 25 kc_10_2 (by rw [List.drop_drop]; exact kd_10_3)
theorem kd_10_1 : (tb_law_10.drop 25).all ev_dq = true := ev_cut 25 kc_10_1 (by rw [List.drop_drop]; exact kd_10_2)
theorem kd_10_0 : (tb_law_10.drop 0).all ev_dq = true := ev_cut 25 kc_10_0 (by rw [List.drop_drop]; exact kd_10_1)
theorem k_tb_law_10 : ∀ q ∈ tb_law_10, decode code q.1 = .ok q.2 := ev_dec_law (l := tb_law_10) kd_10_0
