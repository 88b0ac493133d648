/-! the law's own instructions; laid by a program -/
set_option maxRecDepth 100000 in
theorem kc_11_0 : ((tb_law_11.drop 0).take 25).all ev_dq = true := by decide +kernel
set_option maxRecDepth 100000 in
theorem kc_11_1 : ((tb_law_11.drop 25).take 25).all ev_dq = true := by decide +kernel
set_option maxRecDepth 100000 in
theorem kc_11_2 : ((tb_law_11.drop 50).take 25).all ev_dq = true := by decide +kernel
set_option maxRecDepth 100000 in
theorem kc_11_3 : ((tb_law_11.drop 75).take 25).all ev_dq = true := by decide +kernel
theorem kd_11_4 : (tb_law_11.drop 100).all ev_dq = true := rfl
theorem kd_11_3 : (tb_law_11.drop 75).all ev_dq = true := ev_cut 25 kc_11_3 (by rw [List.drop_drop]; exact kd_11_4)
theorem kd_11_2 : (tb_law_11.drop 50).all ev_dq = true := ev_cut 25 kc_11_2 (by rw [List.drop_drop]; exact kd_11_3)
theorem kd_11_1 : (tb_law_11.drop 25).all ev_dq = true := ev_cut 25 kc_11_1 (by rw [List.drop_drop]; exact kd_11_2)
theorem kd_11_0 : (tb_law_11.drop 0).all ev_dq = true := ev_cut 25 kc_11_0 (by rw [List.drop_drop]; exact kd_11_1)
theorem k_tb_law_11 : ∀ q ∈ tb_law_11, decode code q.1 = .ok q.2 := ev_dec_law (l := tb_law_11) kd_11_0
set_option maxRecDepth 100000 in
theorem kc_12_0 : ((tb_law_12.drop 0).take 25).all ev_dq = true := by decide +kernel
set_option maxRecDepth 100000 in
theorem kc_12_1 : ((tb_law_12.drop 25).take 25).all ev_dq = true := by decide +kernel
set_option maxRecDepth 100000 in
theorem kc_12_2 : ((tb_law_12.drop 50).take 25).all ev_dq = true := by decide +kernel
set_option maxRecDepth 100000 in
theorem kc_12_3 : ((tb_law_12.drop 75).take 25).all ev_dq = true := by decide +kernel
theorem kd_12_4 : (tb_law_12.drop 100).all ev_dq = true := rfl
theorem kd_12_3 : (tb_law_12.drop 75).all ev_dq = true := ev_cut 25 kc_12_3 (by rw [List.drop_drop]; exact kd_12_4)
theorem kd_12_2 : (tb_law_12.drop 50).all ev_dq = true := ev_cut 25 kc_12_2 (by rw [List.drop_drop]; exact kd_12_3)
theorem kd_12_1 : (tb_law_12.drop 25).all ev_dq = true := ev_cut 25 kc_12_1 (by rw [List.drop_drop]; exact kd_12_2)
theorem kd_12_0 : (tb_law_12.drop 0).all ev_dq = true := ev_cut 25 kc_12_0 (by rw [List.drop_drop]; exact kd_12_1)
theorem k_tb_law_12 : ∀ q ∈ tb_law_12, decode code q.1 = .ok q.2 := ev_dec_law (l := tb_law_12) kd_12_0
