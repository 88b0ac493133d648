/-! the law's own instructions; laid by a program -/
set_option maxRecDepth 100000 in
theorem k_tb_law_0 : ∀ q ∈ tb_law_0, decode code q.1 = .ok q.2 := ev_dec_all _ _ (by decide +kernel)
set_option maxRecDepth 100000 in
theorem k_tb_law_1 : ∀ q ∈ tb_law_1, decode code q.1 = .ok q.2 := ev_dec_all _ _ (by decide +kernel)
set_option maxRecDepth 100000 in
theorem k_tb_law_2 : ∀ q ∈ tb_law_2, decode code q.1 = .ok q.2 := ev_dec_all _ _ (by decide +kernel)
