/-! the law's own instructions; laid by a program -/
set_option maxRecDepth 100000 in
theorem k_tb_law_12 : ∀ q ∈ tb_law_12, decode code q.1 = .ok q.2 := ev_dec_all _ _ (by decide +kernel)
set_option maxRecDepth 100000 in
theorem k_tb_law_13 : ∀ q ∈ tb_law_13, decode code q.1 = .ok q.2 := ev_dec_all _ _ (by decide +kernel)
set_option maxRecDepth 100000 in
theorem k_tb_law_14 : ∀ q ∈ tb_law_14, decode code q.1 = .ok q.2 := ev_dec_all _ _ (by decide +kernel)
