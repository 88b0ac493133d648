/-! the law's own instructions; laid by a program -/
set_option maxRecDepth 100000 in
theorem k_tb_law_6 : ∀ q ∈ tb_law_6, decode code q.1 = .ok q.2 := ev_dec_all _ _ (by decide +kernel)
set_option maxRecDepth 100000 in
theorem k_tb_law_7 : ∀ q ∈ tb_law_7, decode code q.1 = .ok q.2 := ev_dec_all _ _ (by decide +kernel)
set_option maxRecDepth 100000 in
theorem k_tb_law_8 : ∀ q ∈ tb_law_8, decode code q.1 = .ok q.2 := ev_dec_all _ _ (by decide +kernel)
