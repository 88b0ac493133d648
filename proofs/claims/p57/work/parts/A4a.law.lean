/-! the law's own instructions; laid by a program -/
theorem ev_cut {α : Type} {f : α → Bool} {l : List α} (n : Nat) (h1 : (l.take n).all f = true) (h2 : (l.drop n).all f = true) : l.all f = true := by
  rw [← List.take_append_drop n l, List.all_append, h1, h2]
  rfl
def ev_dq (q : Nat × Instr × Nat) : Bool := decide (decode code q.1 = .ok q.2)
theorem ev_dec_law {l : List (Nat × Instr × Nat)} (h : l.all ev_dq = true) : ∀ q ∈ l, decode code q.1 = .ok q.2 := fun q hq => of_decide_eq_true (List.all_eq_true.mp h q hq)
set_option maxRecDepth 100000 in
theorem k_tb_law_0 : ∀ q ∈ tb_law_0, decode code q.1 = .ok q.2 := ev_dec_law (by decide +kernel)
set_option maxRecDepth 100000 in
theorem k_tb_law_1 : ∀ q ∈ tb_law_1, decode code q.1 = .ok q.2 := ev_dec_law (by decide +kernel)
theorem k_law : ∀ q ∈ tb_law, decode code q.1 = .ok q.2 := fun q hq => by
  simp only [tb_law, List.mem_append] at hq
  rcases hq with h | h
  · exact k_tb_law_0 q h
  · exact k_tb_law_1 q h
