/-! the law's own instructions; laid by a program -/
set_option maxRecDepth 100000 in
theorem k_tb_law_15 : ∀ q ∈ tb_law_15, decode code q.1 = .ok q.2 := ev_dec_all _ _ (by decide +kernel)
set_option maxRecDepth 100000 in
theorem k_tb_law_16 : ∀ q ∈ tb_law_16, decode code q.1 = .ok q.2 := ev_dec_all _ _ (by decide +kernel)
theorem k_law : ∀ q ∈ tb_law, decode code q.1 = .ok q.2 := fun q hq => by
  simp only [tb_law, List.mem_append] at hq
  rcases hq with h | h | h | h | h | h | h | h | h | h | h | h | h | h | h | h | h
  · exact k_tb_law_0 q h
  · exact k_tb_law_1 q h
  · exact k_tb_law_2 q h
  · exact k_tb_law_3 q h
  · exact k_tb_law_4 q h
  · exact k_tb_law_5 q h
  · exact k_tb_law_6 q h
  · exact k_tb_law_7 q h
  · exact k_tb_law_8 q h
  · exact k_tb_law_9 q h
  · exact k_tb_law_10 q h
  · exact k_tb_law_11 q h
  · exact k_tb_law_12 q h
  · exact k_tb_law_13 q h
  · exact k_tb_law_14 q h
  · exact k_tb_law_15 q h
  · exact k_tb_law_16 q h
