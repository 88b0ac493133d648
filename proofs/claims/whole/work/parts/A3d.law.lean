/-! the law's own instructions; laid by a program -/
set_option maxRecDepth 100000 in
theorem k_tb_law_9 : ∀ q ∈ tb_law_9, decode code q.1 = .ok q.2 := ev_dec_all _ _ (by decide +kernel)
set_option maxRecDepth 100000 in
theorem k_tb_law_10 : ∀ q ∈ tb_law_10, decode code q.1 = .ok q.2 := ev_dec_all _ _ (by decide +kernel)
set_option maxRecDepth 100000 in
theorem k_tb_law_11 : ∀ q ∈ tb_law_11, decode code q.1 = .ok q.2 := ev_dec_all _ _ (by decide +kernel)
