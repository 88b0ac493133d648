/-! the law's own instructions; laid by a program -/
set_option maxRecDepth 100000 in
theorem k_tb_law_3 : ∀ q ∈ tb_law_3, decode code q.1 = .ok q.2 := ev_dec_all _ _ (by decide +kernel)
set_option maxRecDepth 100000 in
theorem k_tb_law_4 : ∀ q ∈ tb_law_4, decode code q.1 = .ok q.2 := ev_dec_all _ _ (by decide +kernel)
set_option maxRecDepth 100000 in
theorem k_tb_law_5 : ∀ q ∈ tb_law_5, decode code q.1 = .ok q.2 := ev_dec_all _ _ (by decide +kernel)
