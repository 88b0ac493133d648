/-! runs of the law, from place to place; laid by a program (wip/p57/gen/gen40.py) -/
theorem sx_L_setMirror_0_3_0 {g : tr_g} {d : Nat} {h : ev_AH} {r : ev_O × ev_AH} {x1 x2 v0 : Int32} {h1 hx : ev_AH} (hL : hh_L h) (cx : tr_L g d m_X8_setMirror 0 [some (.ref 1000), some (.int x1), some (.int x2), none] [] h (.inr 0, hx)) (hr : r = (.inl (some (.int (-900001))), hx)) : tr_L g (d + 1) m_L_setMirror 0 [some (.ref 1000), some (.int x1), some (.int x2), none] [] h r := by
  refine tr_s (.aload_n 0) 1 1 [some (.ref 1000), some (.int x1), some (.int x2), none] [.ref 1000] h rfl rfl rfl ?_
  refine tr_s (.iload_n 1) 1 2 [some (.ref 1000), some (.int x1), some (.int x2), none] [.int x1, .ref 1000] h rfl rfl rfl ?_
  refine tr_s (.iload_n 2) 1 3 [some (.ref 1000), some (.int x1), some (.int x2), none] [.int x2, .int x1, .ref 1000] h rfl rfl rfl ?_
  refine tr_callh (.invokevirtual 24) 24 0 2 0 m_X8_setMirror [.ref 1000, .int x1, .int x2] [] 0 8 3 hx rfl rfl rfl rfl rfl rfl rfl rfl rfl (tr_cok rfl (Or.inr ⟨_, _, rfl, tr_rc (hh_rd (hh_obj hL (k := 0) rfl).1) (by decide)⟩)) rfl rfl cx ?_
  refine tr_s (.ldc 17) 2 10 _ [.int (-900001)] hx rfl rfl rfl ?_
  exact tl_ret cx.2 .ireturn 1 (some (.int (-900001))) rfl rfl rfl rfl hr
theorem sx_L_setMirror_0_3_1 {g : tr_g} {d : Nat} {h : ev_AH} {r : ev_O × ev_AH} {x1 x2 v0 : Int32} {h1 hx : ev_AH} (hL : hh_L h) (cx : tr_L g d m_X8_setMirror 0 [some (.ref 1000), some (.int x1), some (.int x2), none] [] h (.inr 1, hx)) (hr : r = (.inl (some (.int (-900002))), hx)) : tr_L g (d + 1) m_L_setMirror 0 [some (.ref 1000), some (.int x1), some (.int x2), none] [] h r := by
  refine tr_s (.aload_n 0) 1 1 [some (.ref 1000), some (.int x1), some (.int x2), none] [.ref 1000] h rfl rfl rfl ?_
  refine tr_s (.iload_n 1) 1 2 [some (.ref 1000), some (.int x1), some (.int x2), none] [.int x1, .ref 1000] h rfl rfl rfl ?_
  refine tr_s (.iload_n 2) 1 3 [some (.ref 1000), some (.int x1), some (.int x2), none] [.int x2, .int x1, .ref 1000] h rfl rfl rfl ?_
  refine tr_callh (.invokevirtual 24) 24 0 2 0 m_X8_setMirror [.ref 1000, .int x1, .int x2] [] 1 12 3 hx rfl rfl rfl rfl rfl rfl rfl rfl rfl (tr_cok rfl (Or.inr ⟨_, _, rfl, tr_rc (hh_rd (hh_obj hL (k := 0) rfl).1) (by decide)⟩)) rfl rfl cx ?_
  refine tr_s (.ldc 20) 2 14 _ [.int (-900002)] hx rfl rfl rfl ?_
  exact tl_ret cx.2 .ireturn 1 (some (.int (-900002))) rfl rfl rfl rfl hr
theorem sx_L_setMirror_0_3_2 {g : tr_g} {d : Nat} {h : ev_AH} {r : ev_O × ev_AH} {x1 x2 v0 : Int32} {h1 hx : ev_AH} (hL : hh_L h) (cx : tr_L g d m_X8_setMirror 0 [some (.ref 1000), some (.int x1), some (.int x2), none] [] h (.inr 2, hx)) (hr : r = (.inl (some (.int (-900003))), hx)) : tr_L g (d + 1) m_L_setMirror 0 [some (.ref 1000), some (.int x1), some (.int x2), none] [] h r := by
  refine tr_s (.aload_n 0) 1 1 [some (.ref 1000), some (.int x1), some (.int x2), none] [.ref 1000] h rfl rfl rfl ?_
  refine tr_s (.iload_n 1) 1 2 [some (.ref 1000), some (.int x1), some (.int x2), none] [.int x1, .ref 1000] h rfl rfl rfl ?_
  refine tr_s (.iload_n 2) 1 3 [some (.ref 1000), some (.int x1), some (.int x2), none] [.int x2, .int x1, .ref 1000] h rfl rfl rfl ?_
  refine tr_callh (.invokevirtual 24) 24 0 2 0 m_X8_setMirror [.ref 1000, .int x1, .int x2] [] 2 16 3 hx rfl rfl rfl rfl rfl rfl rfl rfl rfl (tr_cok rfl (Or.inr ⟨_, _, rfl, tr_rc (hh_rd (hh_obj hL (k := 0) rfl).1) (by decide)⟩)) rfl rfl cx ?_
  refine tr_s (.ldc 23) 2 18 _ [.int (-900003)] hx rfl rfl rfl ?_
  exact tl_ret cx.2 .ireturn 1 (some (.int (-900003))) rfl rfl rfl rfl hr
theorem sg_L_setMirror_0 {g : tr_g} {d : Nat} {h : ev_AH} {r : ev_O × ev_AH} {x1 x2 v0 : Int32} {h1 : ev_AH} (hL : hh_L h) (c_0 : tr_L g d m_X8_setMirror 0 [some (.ref 1000), some (.int x1), some (.int x2), none] [] h (.inl (some (.int v0)), h1)) (hr : r = (.inl (some (.int v0)), h1)) : tr_L g (d + 1) m_L_setMirror 0 [some (.ref 1000), some (.int x1), some (.int x2), none] [] h r := by
  refine tr_s (.aload_n 0) 1 1 [some (.ref 1000), some (.int x1), some (.int x2), none] [.ref 1000] h rfl rfl rfl ?_
  refine tr_s (.iload_n 1) 1 2 [some (.ref 1000), some (.int x1), some (.int x2), none] [.int x1, .ref 1000] h rfl rfl rfl ?_
  refine tr_s (.iload_n 2) 1 3 [some (.ref 1000), some (.int x1), some (.int x2), none] [.int x2, .int x1, .ref 1000] h rfl rfl rfl ?_
  refine tr_call (.invokevirtual 24) 24 0 2 0 m_X8_setMirror [.ref 1000, .int x1, .int x2] [] (some (.int v0)) h1 rfl rfl rfl rfl rfl rfl rfl rfl rfl (tr_cok rfl (Or.inr ⟨_, _, rfl, tr_rc (hh_rd (hh_obj hL (k := 0) rfl).1) (by decide)⟩)) c_0 ?_
  have hL0 := c_0.2
  exact tl_ret hL0 .ireturn 1 (some (.int v0)) rfl rfl rfl rfl hr
theorem sx_L_leastEffort_0_3_0 {g : tr_g} {d : Nat} {h : ev_AH} {r : ev_O × ev_AH} {x1 x2 v0 : Int32} {h1 hx : ev_AH} (hL : hh_L h) (cx : tr_L g d m_X8_leastEffort 0 [some (.ref 1000), some (.int x1), some (.int x2), none] [] h (.inr 0, hx)) (hr : r = (.inl (some (.int (-900002))), hx)) : tr_L g (d + 1) m_L_leastEffort 0 [some (.ref 1000), some (.int x1), some (.int x2), none] [] h r := by
  refine tr_s (.aload_n 0) 1 1 [some (.ref 1000), some (.int x1), some (.int x2), none] [.ref 1000] h rfl rfl rfl ?_
  refine tr_s (.iload_n 1) 1 2 [some (.ref 1000), some (.int x1), some (.int x2), none] [.int x1, .ref 1000] h rfl rfl rfl ?_
  refine tr_s (.iload_n 2) 1 3 [some (.ref 1000), some (.int x1), some (.int x2), none] [.int x2, .int x1, .ref 1000] h rfl rfl rfl ?_
  refine tr_callh (.invokevirtual 43) 43 0 2 0 m_X8_leastEffort [.ref 1000, .int x1, .int x2] [] 0 12 3 hx rfl rfl rfl rfl rfl rfl rfl rfl rfl (tr_cok rfl (Or.inr ⟨_, _, rfl, tr_rc (hh_rd (hh_obj hL (k := 0) rfl).1) (by decide)⟩)) rfl rfl cx ?_
  refine tr_s (.ldc 20) 2 14 _ [.int (-900002)] hx rfl rfl rfl ?_
  exact tl_ret cx.2 .ireturn 1 (some (.int (-900002))) rfl rfl rfl rfl hr
theorem sx_L_leastEffort_0_3_1 {g : tr_g} {d : Nat} {h : ev_AH} {r : ev_O × ev_AH} {x1 x2 v0 : Int32} {h1 hx : ev_AH} (hL : hh_L h) (cx : tr_L g d m_X8_leastEffort 0 [some (.ref 1000), some (.int x1), some (.int x2), none] [] h (.inr 1, hx)) (hr : r = (.inl (some (.int (-900001))), hx)) : tr_L g (d + 1) m_L_leastEffort 0 [some (.ref 1000), some (.int x1), some (.int x2), none] [] h r := by
  refine tr_s (.aload_n 0) 1 1 [some (.ref 1000), some (.int x1), some (.int x2), none] [.ref 1000] h rfl rfl rfl ?_
  refine tr_s (.iload_n 1) 1 2 [some (.ref 1000), some (.int x1), some (.int x2), none] [.int x1, .ref 1000] h rfl rfl rfl ?_
  refine tr_s (.iload_n 2) 1 3 [some (.ref 1000), some (.int x1), some (.int x2), none] [.int x2, .int x1, .ref 1000] h rfl rfl rfl ?_
  refine tr_callh (.invokevirtual 43) 43 0 2 0 m_X8_leastEffort [.ref 1000, .int x1, .int x2] [] 1 8 3 hx rfl rfl rfl rfl rfl rfl rfl rfl rfl (tr_cok rfl (Or.inr ⟨_, _, rfl, tr_rc (hh_rd (hh_obj hL (k := 0) rfl).1) (by decide)⟩)) rfl rfl cx ?_
  refine tr_s (.ldc 17) 2 10 _ [.int (-900001)] hx rfl rfl rfl ?_
  exact tl_ret cx.2 .ireturn 1 (some (.int (-900001))) rfl rfl rfl rfl hr
theorem sx_L_leastEffort_0_3_3 {g : tr_g} {d : Nat} {h : ev_AH} {r : ev_O × ev_AH} {x1 x2 v0 : Int32} {h1 hx : ev_AH} (hL : hh_L h) (cx : tr_L g d m_X8_leastEffort 0 [some (.ref 1000), some (.int x1), some (.int x2), none] [] h (.inr 3, hx)) (hr : r = (.inl (some (.int (-900003))), hx)) : tr_L g (d + 1) m_L_leastEffort 0 [some (.ref 1000), some (.int x1), some (.int x2), none] [] h r := by
  refine tr_s (.aload_n 0) 1 1 [some (.ref 1000), some (.int x1), some (.int x2), none] [.ref 1000] h rfl rfl rfl ?_
  refine tr_s (.iload_n 1) 1 2 [some (.ref 1000), some (.int x1), some (.int x2), none] [.int x1, .ref 1000] h rfl rfl rfl ?_
  refine tr_s (.iload_n 2) 1 3 [some (.ref 1000), some (.int x1), some (.int x2), none] [.int x2, .int x1, .ref 1000] h rfl rfl rfl ?_
  refine tr_callh (.invokevirtual 43) 43 0 2 0 m_X8_leastEffort [.ref 1000, .int x1, .int x2] [] 3 16 3 hx rfl rfl rfl rfl rfl rfl rfl rfl rfl (tr_cok rfl (Or.inr ⟨_, _, rfl, tr_rc (hh_rd (hh_obj hL (k := 0) rfl).1) (by decide)⟩)) rfl rfl cx ?_
  refine tr_s (.ldc 23) 2 18 _ [.int (-900003)] hx rfl rfl rfl ?_
  exact tl_ret cx.2 .ireturn 1 (some (.int (-900003))) rfl rfl rfl rfl hr
theorem sg_L_leastEffort_0 {g : tr_g} {d : Nat} {h : ev_AH} {r : ev_O × ev_AH} {x1 x2 v0 : Int32} {h1 : ev_AH} (hL : hh_L h) (c_0 : tr_L g d m_X8_leastEffort 0 [some (.ref 1000), some (.int x1), some (.int x2), none] [] h (.inl (some (.int v0)), h1)) (hr : r = (.inl (some (.int v0)), h1)) : tr_L g (d + 1) m_L_leastEffort 0 [some (.ref 1000), some (.int x1), some (.int x2), none] [] h r := by
  refine tr_s (.aload_n 0) 1 1 [some (.ref 1000), some (.int x1), some (.int x2), none] [.ref 1000] h rfl rfl rfl ?_
  refine tr_s (.iload_n 1) 1 2 [some (.ref 1000), some (.int x1), some (.int x2), none] [.int x1, .ref 1000] h rfl rfl rfl ?_
  refine tr_s (.iload_n 2) 1 3 [some (.ref 1000), some (.int x1), some (.int x2), none] [.int x2, .int x1, .ref 1000] h rfl rfl rfl ?_
  refine tr_call (.invokevirtual 43) 43 0 2 0 m_X8_leastEffort [.ref 1000, .int x1, .int x2] [] (some (.int v0)) h1 rfl rfl rfl rfl rfl rfl rfl rfl rfl (tr_cok rfl (Or.inr ⟨_, _, rfl, tr_rc (hh_rd (hh_obj hL (k := 0) rfl).1) (by decide)⟩)) c_0 ?_
  have hL0 := c_0.2
  exact tl_ret hL0 .ireturn 1 (some (.int v0)) rfl rfl rfl rfl hr
theorem sx_L_portByLength_0_2_3 {g : tr_g} {d : Nat} {h : ev_AH} {r : ev_O × ev_AH} {x1 v0 : Int32} {h1 hx : ev_AH} (hL : hh_L h) (cx : tr_L g d m_X8_portByLength 0 [some (.ref 1000), some (.int x1), none, none] [] h (.inr 3, hx)) (hr : r = (.inl (some (.int (-900001))), hx)) : tr_L g (d + 1) m_L_portByLength 0 [some (.ref 1000), some (.int x1), none] [] h r := by
  refine tr_s (.aload_n 0) 1 1 [some (.ref 1000), some (.int x1), none] [.ref 1000] h rfl rfl rfl ?_
  refine tr_s (.iload_n 1) 1 2 [some (.ref 1000), some (.int x1), none] [.int x1, .ref 1000] h rfl rfl rfl ?_
  refine tr_callh (.invokevirtual 50) 50 0 1 0 m_X8_portByLength [.ref 1000, .int x1] [] 3 7 2 hx rfl rfl rfl rfl rfl rfl rfl rfl rfl (tr_cok rfl (Or.inr ⟨_, _, rfl, tr_rc (hh_rd (hh_obj hL (k := 0) rfl).1) (by decide)⟩)) rfl rfl cx ?_
  refine tr_s (.ldc 17) 2 9 _ [.int (-900001)] hx rfl rfl rfl ?_
  exact tl_ret cx.2 .ireturn 1 (some (.int (-900001))) rfl rfl rfl rfl hr
theorem sg_L_portByLength_0 {g : tr_g} {d : Nat} {h : ev_AH} {r : ev_O × ev_AH} {x1 v0 : Int32} {h1 : ev_AH} (hL : hh_L h) (c_0 : tr_L g d m_X8_portByLength 0 [some (.ref 1000), some (.int x1), none, none] [] h (.inl (some (.int v0)), h1)) (hr : r = (.inl (some (.int v0)), h1)) : tr_L g (d + 1) m_L_portByLength 0 [some (.ref 1000), some (.int x1), none] [] h r := by
  refine tr_s (.aload_n 0) 1 1 [some (.ref 1000), some (.int x1), none] [.ref 1000] h rfl rfl rfl ?_
  refine tr_s (.iload_n 1) 1 2 [some (.ref 1000), some (.int x1), none] [.int x1, .ref 1000] h rfl rfl rfl ?_
  refine tr_call (.invokevirtual 50) 50 0 1 0 m_X8_portByLength [.ref 1000, .int x1] [] (some (.int v0)) h1 rfl rfl rfl rfl rfl rfl rfl rfl rfl (tr_cok rfl (Or.inr ⟨_, _, rfl, tr_rc (hh_rd (hh_obj hL (k := 0) rfl).1) (by decide)⟩)) c_0 ?_
  have hL0 := c_0.2
  exact tl_ret hL0 .ireturn 1 (some (.int v0)) rfl rfl rfl rfl hr
theorem sx_L_testify_0_3_1 {g : tr_g} {d : Nat} {h : ev_AH} {r : ev_O × ev_AH} {x1 x2 v0 : Int32} {h1 hx : ev_AH} (hL : hh_L h) (cx : tr_L g d m_X8_testify 0 [some (.ref 1000), some (.int x1), some (.int x2)] [] h (.inr 1, hx)) (hr : r = (.inl (some (.int (-900001))), hx)) : tr_L g (d + 1) m_L_testify 0 [some (.ref 1000), some (.int x1), some (.int x2), none] [] h r := by
  refine tr_s (.aload_n 0) 1 1 [some (.ref 1000), some (.int x1), some (.int x2), none] [.ref 1000] h rfl rfl rfl ?_
  refine tr_s (.iload_n 1) 1 2 [some (.ref 1000), some (.int x1), some (.int x2), none] [.int x1, .ref 1000] h rfl rfl rfl ?_
  refine tr_s (.iload_n 2) 1 3 [some (.ref 1000), some (.int x1), some (.int x2), none] [.int x2, .int x1, .ref 1000] h rfl rfl rfl ?_
  refine tr_callh (.invokevirtual 53) 53 0 2 0 m_X8_testify [.ref 1000, .int x1, .int x2] [] 1 8 3 hx rfl rfl rfl rfl rfl rfl rfl rfl rfl (tr_cok rfl (Or.inr ⟨_, _, rfl, tr_rc (hh_rd (hh_obj hL (k := 0) rfl).1) (by decide)⟩)) rfl rfl cx ?_
  refine tr_s (.ldc 17) 2 10 _ [.int (-900001)] hx rfl rfl rfl ?_
  exact tl_ret cx.2 .ireturn 1 (some (.int (-900001))) rfl rfl rfl rfl hr
theorem sx_L_testify_0_3_2 {g : tr_g} {d : Nat} {h : ev_AH} {r : ev_O × ev_AH} {x1 x2 v0 : Int32} {h1 hx : ev_AH} (hL : hh_L h) (cx : tr_L g d m_X8_testify 0 [some (.ref 1000), some (.int x1), some (.int x2)] [] h (.inr 2, hx)) (hr : r = (.inl (some (.int (-900002))), hx)) : tr_L g (d + 1) m_L_testify 0 [some (.ref 1000), some (.int x1), some (.int x2), none] [] h r := by
  refine tr_s (.aload_n 0) 1 1 [some (.ref 1000), some (.int x1), some (.int x2), none] [.ref 1000] h rfl rfl rfl ?_
  refine tr_s (.iload_n 1) 1 2 [some (.ref 1000), some (.int x1), some (.int x2), none] [.int x1, .ref 1000] h rfl rfl rfl ?_
  refine tr_s (.iload_n 2) 1 3 [some (.ref 1000), some (.int x1), some (.int x2), none] [.int x2, .int x1, .ref 1000] h rfl rfl rfl ?_
  refine tr_callh (.invokevirtual 53) 53 0 2 0 m_X8_testify [.ref 1000, .int x1, .int x2] [] 2 12 3 hx rfl rfl rfl rfl rfl rfl rfl rfl rfl (tr_cok rfl (Or.inr ⟨_, _, rfl, tr_rc (hh_rd (hh_obj hL (k := 0) rfl).1) (by decide)⟩)) rfl rfl cx ?_
  refine tr_s (.ldc 20) 2 14 _ [.int (-900002)] hx rfl rfl rfl ?_
  exact tl_ret cx.2 .ireturn 1 (some (.int (-900002))) rfl rfl rfl rfl hr
theorem sg_L_testify_0 {g : tr_g} {d : Nat} {h : ev_AH} {r : ev_O × ev_AH} {x1 x2 v0 : Int32} {h1 : ev_AH} (hL : hh_L h) (c_0 : tr_L g d m_X8_testify 0 [some (.ref 1000), some (.int x1), some (.int x2)] [] h (.inl (some (.int v0)), h1)) (hr : r = (.inl (some (.int v0)), h1)) : tr_L g (d + 1) m_L_testify 0 [some (.ref 1000), some (.int x1), some (.int x2), none] [] h r := by
  refine tr_s (.aload_n 0) 1 1 [some (.ref 1000), some (.int x1), some (.int x2), none] [.ref 1000] h rfl rfl rfl ?_
  refine tr_s (.iload_n 1) 1 2 [some (.ref 1000), some (.int x1), some (.int x2), none] [.int x1, .ref 1000] h rfl rfl rfl ?_
  refine tr_s (.iload_n 2) 1 3 [some (.ref 1000), some (.int x1), some (.int x2), none] [.int x2, .int x1, .ref 1000] h rfl rfl rfl ?_
  refine tr_call (.invokevirtual 53) 53 0 2 0 m_X8_testify [.ref 1000, .int x1, .int x2] [] (some (.int v0)) h1 rfl rfl rfl rfl rfl rfl rfl rfl rfl (tr_cok rfl (Or.inr ⟨_, _, rfl, tr_rc (hh_rd (hh_obj hL (k := 0) rfl).1) (by decide)⟩)) c_0 ?_
  have hL0 := c_0.2
  exact tl_ret hL0 .ireturn 1 (some (.int v0)) rfl rfl rfl rfl hr
theorem sx_L_retry_0_1_2 {g : tr_g} {d : Nat} {h : ev_AH} {r : ev_O × ev_AH} {h1 hx : ev_AH} {v0 : Int32} (hL : hh_L h) (cx : tr_L g d m_X8_retry 0 [some (.ref 1000)] [] h (.inr 2, hx)) (hr : r = (.inl (some (.int (-900001))), hx)) : tr_L g (d + 1) m_L_retry 0 [some (.ref 1000), none] [] h r := by
  refine tr_s (.aload_n 0) 1 1 [some (.ref 1000), none] [.ref 1000] h rfl rfl rfl ?_
  refine tr_callh (.invokevirtual 56) 56 0 0 0 m_X8_retry [.ref 1000] [] 2 6 1 hx rfl rfl rfl rfl rfl rfl rfl rfl rfl (tr_cok rfl (Or.inr ⟨_, _, rfl, tr_rc (hh_rd (hh_obj hL (k := 0) rfl).1) (by decide)⟩)) rfl rfl cx ?_
  refine tr_s (.ldc 17) 2 8 _ [.int (-900001)] hx rfl rfl rfl ?_
  exact tl_ret cx.2 .ireturn 1 (some (.int (-900001))) rfl rfl rfl rfl hr
theorem sg_L_retry_0 {g : tr_g} {d : Nat} {h : ev_AH} {r : ev_O × ev_AH} {h1 : ev_AH} {v0 : Int32} (hL : hh_L h) (c_0 : tr_L g d m_X8_retry 0 [some (.ref 1000)] [] h (.inl (some (.int v0)), h1)) (hr : r = (.inl (some (.int v0)), h1)) : tr_L g (d + 1) m_L_retry 0 [some (.ref 1000), none] [] h r := by
  refine tr_s (.aload_n 0) 1 1 [some (.ref 1000), none] [.ref 1000] h rfl rfl rfl ?_
  refine tr_call (.invokevirtual 56) 56 0 0 0 m_X8_retry [.ref 1000] [] (some (.int v0)) h1 rfl rfl rfl rfl rfl rfl rfl rfl rfl (tr_cok rfl (Or.inr ⟨_, _, rfl, tr_rc (hh_rd (hh_obj hL (k := 0) rfl).1) (by decide)⟩)) c_0 ?_
  have hL0 := c_0.2
  exact tl_ret hL0 .ireturn 1 (some (.int v0)) rfl rfl rfl rfl hr
theorem sx_L_catByHeard_0_2_3 {g : tr_g} {d : Nat} {h : ev_AH} {r : ev_O × ev_AH} {x1 v0 : Int32} {h1 hx : ev_AH} (hL : hh_L h) (cx : tr_L g d m_X8_catByHeard 0 [some (.ref 1000), some (.int x1), none, none] [] h (.inr 3, hx)) (hr : r = (.inl (some (.int (-900001))), hx)) : tr_L g (d + 1) m_L_catByHeard 0 [some (.ref 1000), some (.int x1), none] [] h r := by
  refine tr_s (.aload_n 0) 1 1 [some (.ref 1000), some (.int x1), none] [.ref 1000] h rfl rfl rfl ?_
  refine tr_s (.iload_n 1) 1 2 [some (.ref 1000), some (.int x1), none] [.int x1, .ref 1000] h rfl rfl rfl ?_
  refine tr_callh (.invokevirtual 60) 60 0 1 0 m_X8_catByHeard [.ref 1000, .int x1] [] 3 7 2 hx rfl rfl rfl rfl rfl rfl rfl rfl rfl (tr_cok rfl (Or.inr ⟨_, _, rfl, tr_rc (hh_rd (hh_obj hL (k := 0) rfl).1) (by decide)⟩)) rfl rfl cx ?_
  refine tr_s (.ldc 17) 2 9 _ [.int (-900001)] hx rfl rfl rfl ?_
  exact tl_ret cx.2 .ireturn 1 (some (.int (-900001))) rfl rfl rfl rfl hr
theorem sg_L_catByHeard_0 {g : tr_g} {d : Nat} {h : ev_AH} {r : ev_O × ev_AH} {x1 v0 : Int32} {h1 : ev_AH} (hL : hh_L h) (c_0 : tr_L g d m_X8_catByHeard 0 [some (.ref 1000), some (.int x1), none, none] [] h (.inl (some (.int v0)), h1)) (hr : r = (.inl (some (.int v0)), h1)) : tr_L g (d + 1) m_L_catByHeard 0 [some (.ref 1000), some (.int x1), none] [] h r := by
  refine tr_s (.aload_n 0) 1 1 [some (.ref 1000), some (.int x1), none] [.ref 1000] h rfl rfl rfl ?_
  refine tr_s (.iload_n 1) 1 2 [some (.ref 1000), some (.int x1), none] [.int x1, .ref 1000] h rfl rfl rfl ?_
  refine tr_call (.invokevirtual 60) 60 0 1 0 m_X8_catByHeard [.ref 1000, .int x1] [] (some (.int v0)) h1 rfl rfl rfl rfl rfl rfl rfl rfl rfl (tr_cok rfl (Or.inr ⟨_, _, rfl, tr_rc (hh_rd (hh_obj hL (k := 0) rfl).1) (by decide)⟩)) c_0 ?_
  have hL0 := c_0.2
  exact tl_ret hL0 .ireturn 1 (some (.int v0)) rfl rfl rfl rfl hr
theorem sx_L_undo_0_1_5 {g : tr_g} {d : Nat} {h : ev_AH} {r : ev_O × ev_AH} {h1 hx : ev_AH} {v0 : Int32} (hL : hh_L h) (cx : tr_L g d m_X8_undo 0 [some (.ref 1000)] [] h (.inr 5, hx)) (hr : r = (.inl (some (.int (-900001))), hx)) : tr_L g (d + 1) m_L_undo 0 [some (.ref 1000), none] [] h r := by
  refine tr_s (.aload_n 0) 1 1 [some (.ref 1000), none] [.ref 1000] h rfl rfl rfl ?_
  refine tr_callh (.invokevirtual 68) 68 0 0 0 m_X8_undo [.ref 1000] [] 5 6 1 hx rfl rfl rfl rfl rfl rfl rfl rfl rfl (tr_cok rfl (Or.inr ⟨_, _, rfl, tr_rc (hh_rd (hh_obj hL (k := 0) rfl).1) (by decide)⟩)) rfl rfl cx ?_
  refine tr_s (.ldc 17) 2 8 _ [.int (-900001)] hx rfl rfl rfl ?_
  exact tl_ret cx.2 .ireturn 1 (some (.int (-900001))) rfl rfl rfl rfl hr
theorem sg_L_undo_0 {g : tr_g} {d : Nat} {h : ev_AH} {r : ev_O × ev_AH} {h1 : ev_AH} {v0 : Int32} (hL : hh_L h) (c_0 : tr_L g d m_X8_undo 0 [some (.ref 1000)] [] h (.inl (some (.int v0)), h1)) (hr : r = (.inl (some (.int v0)), h1)) : tr_L g (d + 1) m_L_undo 0 [some (.ref 1000), none] [] h r := by
  refine tr_s (.aload_n 0) 1 1 [some (.ref 1000), none] [.ref 1000] h rfl rfl rfl ?_
  refine tr_call (.invokevirtual 68) 68 0 0 0 m_X8_undo [.ref 1000] [] (some (.int v0)) h1 rfl rfl rfl rfl rfl rfl rfl rfl rfl (tr_cok rfl (Or.inr ⟨_, _, rfl, tr_rc (hh_rd (hh_obj hL (k := 0) rfl).1) (by decide)⟩)) c_0 ?_
  have hL0 := c_0.2
  exact tl_ret hL0 .ireturn 1 (some (.int v0)) rfl rfl rfl rfl hr
theorem sx_L_restoreSnapshot_0_1_5 {g : tr_g} {d : Nat} {h : ev_AH} {r : ev_O × ev_AH} {h1 hx : ev_AH} {v0 : Int32} (hL : hh_L h) (cx : tr_L g d m_X8_restoreSnapshot 0 [some (.ref 1000)] [] h (.inr 5, hx)) (hr : r = (.inl (some (.int (-900001))), hx)) : tr_L g (d + 1) m_L_restoreSnapshot 0 [some (.ref 1000), none] [] h r := by
  refine tr_s (.aload_n 0) 1 1 [some (.ref 1000), none] [.ref 1000] h rfl rfl rfl ?_
  refine tr_callh (.invokevirtual 71) 71 0 0 0 m_X8_restoreSnapshot [.ref 1000] [] 5 6 1 hx rfl rfl rfl rfl rfl rfl rfl rfl rfl (tr_cok rfl (Or.inr ⟨_, _, rfl, tr_rc (hh_rd (hh_obj hL (k := 0) rfl).1) (by decide)⟩)) rfl rfl cx ?_
  refine tr_s (.ldc 17) 2 8 _ [.int (-900001)] hx rfl rfl rfl ?_
  exact tl_ret cx.2 .ireturn 1 (some (.int (-900001))) rfl rfl rfl rfl hr
theorem sg_L_restoreSnapshot_0 {g : tr_g} {d : Nat} {h : ev_AH} {r : ev_O × ev_AH} {h1 : ev_AH} {v0 : Int32} (hL : hh_L h) (c_0 : tr_L g d m_X8_restoreSnapshot 0 [some (.ref 1000)] [] h (.inl (some (.int v0)), h1)) (hr : r = (.inl (some (.int v0)), h1)) : tr_L g (d + 1) m_L_restoreSnapshot 0 [some (.ref 1000), none] [] h r := by
  refine tr_s (.aload_n 0) 1 1 [some (.ref 1000), none] [.ref 1000] h rfl rfl rfl ?_
  refine tr_call (.invokevirtual 71) 71 0 0 0 m_X8_restoreSnapshot [.ref 1000] [] (some (.int v0)) h1 rfl rfl rfl rfl rfl rfl rfl rfl rfl (tr_cok rfl (Or.inr ⟨_, _, rfl, tr_rc (hh_rd (hh_obj hL (k := 0) rfl).1) (by decide)⟩)) c_0 ?_
  have hL0 := c_0.2
  exact tl_ret hL0 .ireturn 1 (some (.int v0)) rfl rfl rfl rfl hr
theorem sx_L_deliberate_0_1_2 {g : tr_g} {d : Nat} {h : ev_AH} {r : ev_O × ev_AH} {h1 hx : ev_AH} {v0 : Int32} (hL : hh_L h) (cx : tr_L g d m_X8_deliberate 0 [some (.ref 1000)] [] h (.inr 2, hx)) (hr : r = (.inl (some (.int (-900001))), hx)) : tr_L g (d + 1) m_L_deliberate 0 [some (.ref 1000), none] [] h r := by
  refine tr_s (.aload_n 0) 1 1 [some (.ref 1000), none] [.ref 1000] h rfl rfl rfl ?_
  refine tr_callh (.invokevirtual 74) 74 0 0 0 m_X8_deliberate [.ref 1000] [] 2 6 1 hx rfl rfl rfl rfl rfl rfl rfl rfl rfl (tr_cok rfl (Or.inr ⟨_, _, rfl, tr_rc (hh_rd (hh_obj hL (k := 0) rfl).1) (by decide)⟩)) rfl rfl cx ?_
  refine tr_s (.ldc 17) 2 8 _ [.int (-900001)] hx rfl rfl rfl ?_
  exact tl_ret cx.2 .ireturn 1 (some (.int (-900001))) rfl rfl rfl rfl hr
theorem sg_L_deliberate_0 {g : tr_g} {d : Nat} {h : ev_AH} {r : ev_O × ev_AH} {h1 : ev_AH} {v0 : Int32} (hL : hh_L h) (c_0 : tr_L g d m_X8_deliberate 0 [some (.ref 1000)] [] h (.inl (some (.int v0)), h1)) (hr : r = (.inl (some (.int v0)), h1)) : tr_L g (d + 1) m_L_deliberate 0 [some (.ref 1000), none] [] h r := by
  refine tr_s (.aload_n 0) 1 1 [some (.ref 1000), none] [.ref 1000] h rfl rfl rfl ?_
  refine tr_call (.invokevirtual 74) 74 0 0 0 m_X8_deliberate [.ref 1000] [] (some (.int v0)) h1 rfl rfl rfl rfl rfl rfl rfl rfl rfl (tr_cok rfl (Or.inr ⟨_, _, rfl, tr_rc (hh_rd (hh_obj hL (k := 0) rfl).1) (by decide)⟩)) c_0 ?_
  have hL0 := c_0.2
  exact tl_ret hL0 .ireturn 1 (some (.int v0)) rfl rfl rfl rfl hr
theorem sg_L_winner_0 {g : tr_g} {d : Nat} {h : ev_AH} {r : ev_O × ev_AH} {x1 : Int32} (hL : hh_L h) (t : x1 ≠ 112 → tr_L g d m_L_winner 13 [some (.ref 1000), some (.int x1), none] [] h r) (f : x1 = 112 → tr_L g d m_L_winner 6 [some (.ref 1000), some (.int x1), none] [] h r) : tr_L g d m_L_winner 0 [some (.ref 1000), some (.int x1), none] [] h r := by
  refine tr_s (.iload_n 1) 1 1 [some (.ref 1000), some (.int x1), none] [.int x1] h rfl rfl rfl ?_
  refine tr_bi 112 112 (by decide) rfl ?_
  exact tr_if2 .ne 10 13 x1 112 rfl rfl rfl (fun hc => t ((tr_ne hc).1 rfl)) (fun hc => f ((tr_ne hc).2 rfl))
theorem sx_L_winner_6_7_3 {g : tr_g} {d : Nat} {h : ev_AH} {r : ev_O × ev_AH} {x1 : Int32} {w2 : Option Value} {h1 hx : ev_AH} {v0 : Int32} (hL : hh_L h) (cx : tr_L g d m_X8_pointsWinner 0 [some (.ref 1000)] [] h (.inr 3, hx)) (hr : r = (.inl (some (.int (-900001))), hx)) : tr_L g (d + 1) m_L_winner 6 [some (.ref 1000), some (.int x1), w2] [] h r := by
  refine tr_s (.aload_n 0) 1 7 [some (.ref 1000), some (.int x1), w2] [.ref 1000] h rfl rfl rfl ?_
  refine tr_callh (.invokevirtual 86) 86 0 0 0 m_X8_pointsWinner [.ref 1000] [] 3 32 2 hx rfl rfl rfl rfl rfl rfl rfl rfl rfl (tr_cok rfl (Or.inr ⟨_, _, rfl, tr_rc (hh_rd (hh_obj hL (k := 0) rfl).1) (by decide)⟩)) rfl rfl cx ?_
  refine tr_s (.ldc 17) 2 34 _ [.int (-900001)] hx rfl rfl rfl ?_
  exact tl_ret cx.2 .ireturn 1 (some (.int (-900001))) rfl rfl rfl rfl hr
theorem sg_L_winner_6 {g : tr_g} {d : Nat} {h : ev_AH} {r : ev_O × ev_AH} {w1 w2 : Option Value} {h1 : ev_AH} {v0 : Int32} (hL : hh_L h) (c_0 : tr_L g d m_X8_pointsWinner 0 [some (.ref 1000)] [] h (.inl (some (.int v0)), h1)) (hr : r = (.inl (some (.int v0)), h1)) : tr_L g (d + 1) m_L_winner 6 [some (.ref 1000), w1, w2] [] h r := by
  refine tr_s (.aload_n 0) 1 7 [some (.ref 1000), w1, w2] [.ref 1000] h rfl rfl rfl ?_
  refine tr_call (.invokevirtual 86) 86 0 0 0 m_X8_pointsWinner [.ref 1000] [] (some (.int v0)) h1 rfl rfl rfl rfl rfl rfl rfl rfl rfl (tr_cok rfl (Or.inr ⟨_, _, rfl, tr_rc (hh_rd (hh_obj hL (k := 0) rfl).1) (by decide)⟩)) c_0 ?_
  have hL0 := c_0.2
  refine tr_goto 20 30 rfl rfl rfl ?_
  exact tl_ret hL0 .ireturn 1 (some (.int v0)) rfl rfl rfl rfl hr
theorem sg_L_winner_13 {g : tr_g} {d : Nat} {h : ev_AH} {r : ev_O × ev_AH} {x1 : Int32} {w2 : Option Value} (hL : hh_L h) (t : x1 ≠ 114 → tr_L g d m_L_winner 26 [some (.ref 1000), some (.int x1), w2] [] h r) (f : x1 = 114 → tr_L g d m_L_winner 19 [some (.ref 1000), some (.int x1), w2] [] h r) : tr_L g d m_L_winner 13 [some (.ref 1000), some (.int x1), w2] [] h r := by
  refine tr_s (.iload_n 1) 1 14 [some (.ref 1000), some (.int x1), w2] [.int x1] h rfl rfl rfl ?_
  refine tr_bi 114 114 (by decide) rfl ?_
  exact tr_if2 .ne 10 26 x1 114 rfl rfl rfl (fun hc => t ((tr_ne hc).1 rfl)) (fun hc => f ((tr_ne hc).2 rfl))
theorem sx_L_winner_19_20_3 {g : tr_g} {d : Nat} {h : ev_AH} {r : ev_O × ev_AH} {x1 : Int32} {w2 : Option Value} {h1 hx : ev_AH} {v0 : Int32} (hL : hh_L h) (cx : tr_L g d m_X8_roundsWinner 0 [some (.ref 1000)] [] h (.inr 3, hx)) (hr : r = (.inl (some (.int (-900001))), hx)) : tr_L g (d + 1) m_L_winner 19 [some (.ref 1000), some (.int x1), w2] [] h r := by
  refine tr_s (.aload_n 0) 1 20 [some (.ref 1000), some (.int x1), w2] [.ref 1000] h rfl rfl rfl ?_
  refine tr_callh (.invokevirtual 89) 89 0 0 0 m_X8_roundsWinner [.ref 1000] [] 3 32 2 hx rfl rfl rfl rfl rfl rfl rfl rfl rfl (tr_cok rfl (Or.inr ⟨_, _, rfl, tr_rc (hh_rd (hh_obj hL (k := 0) rfl).1) (by decide)⟩)) rfl rfl cx ?_
  refine tr_s (.ldc 17) 2 34 _ [.int (-900001)] hx rfl rfl rfl ?_
  exact tl_ret cx.2 .ireturn 1 (some (.int (-900001))) rfl rfl rfl rfl hr
theorem sg_L_winner_19 {g : tr_g} {d : Nat} {h : ev_AH} {r : ev_O × ev_AH} {w1 w2 : Option Value} {h1 : ev_AH} {v0 : Int32} (hL : hh_L h) (c_0 : tr_L g d m_X8_roundsWinner 0 [some (.ref 1000)] [] h (.inl (some (.int v0)), h1)) (hr : r = (.inl (some (.int v0)), h1)) : tr_L g (d + 1) m_L_winner 19 [some (.ref 1000), w1, w2] [] h r := by
  refine tr_s (.aload_n 0) 1 20 [some (.ref 1000), w1, w2] [.ref 1000] h rfl rfl rfl ?_
  refine tr_call (.invokevirtual 89) 89 0 0 0 m_X8_roundsWinner [.ref 1000] [] (some (.int v0)) h1 rfl rfl rfl rfl rfl rfl rfl rfl rfl (tr_cok rfl (Or.inr ⟨_, _, rfl, tr_rc (hh_rd (hh_obj hL (k := 0) rfl).1) (by decide)⟩)) c_0 ?_
  have hL0 := c_0.2
  refine tr_goto 7 30 rfl rfl rfl ?_
  exact tl_ret hL0 .ireturn 1 (some (.int v0)) rfl rfl rfl rfl hr
theorem sx_L_winner_26_27_3 {g : tr_g} {d : Nat} {h : ev_AH} {r : ev_O × ev_AH} {x1 : Int32} {w2 : Option Value} {h1 hx : ev_AH} {v0 : Int32} (hL : hh_L h) (cx : tr_L g d m_X8_strengthWinner 0 [some (.ref 1000)] [] h (.inr 3, hx)) (hr : r = (.inl (some (.int (-900001))), hx)) : tr_L g (d + 1) m_L_winner 26 [some (.ref 1000), some (.int x1), w2] [] h r := by
  refine tr_s (.aload_n 0) 1 27 [some (.ref 1000), some (.int x1), w2] [.ref 1000] h rfl rfl rfl ?_
  refine tr_callh (.invokevirtual 92) 92 0 0 0 m_X8_strengthWinner [.ref 1000] [] 3 32 2 hx rfl rfl rfl rfl rfl rfl rfl rfl rfl (tr_cok rfl (Or.inr ⟨_, _, rfl, tr_rc (hh_rd (hh_obj hL (k := 0) rfl).1) (by decide)⟩)) rfl rfl cx ?_
  refine tr_s (.ldc 17) 2 34 _ [.int (-900001)] hx rfl rfl rfl ?_
  exact tl_ret cx.2 .ireturn 1 (some (.int (-900001))) rfl rfl rfl rfl hr
theorem sg_L_winner_26 {g : tr_g} {d : Nat} {h : ev_AH} {r : ev_O × ev_AH} {w1 w2 : Option Value} {h1 : ev_AH} {v0 : Int32} (hL : hh_L h) (c_0 : tr_L g d m_X8_strengthWinner 0 [some (.ref 1000)] [] h (.inl (some (.int v0)), h1)) (hr : r = (.inl (some (.int v0)), h1)) : tr_L g (d + 1) m_L_winner 26 [some (.ref 1000), w1, w2] [] h r := by
  refine tr_s (.aload_n 0) 1 27 [some (.ref 1000), w1, w2] [.ref 1000] h rfl rfl rfl ?_
  refine tr_call (.invokevirtual 92) 92 0 0 0 m_X8_strengthWinner [.ref 1000] [] (some (.int v0)) h1 rfl rfl rfl rfl rfl rfl rfl rfl rfl (tr_cok rfl (Or.inr ⟨_, _, rfl, tr_rc (hh_rd (hh_obj hL (k := 0) rfl).1) (by decide)⟩)) c_0 ?_
  have hL0 := c_0.2
  exact tl_ret hL0 .ireturn 1 (some (.int v0)) rfl rfl rfl rfl hr
theorem sg_L_in_0 {g : tr_g} {d : Nat} {h : ev_AH} {r : ev_O × ev_AH} {x1 x2 v0 : Int32} {h1 : ev_AH} (hL : hh_L h) (c_0 : tr_L g d m_L_cell 0 [some (.ref 0), some (.int x1), none] [] h (.inl (some (.int v0)), h1)) (nz0 : x2 ≠ 0) (hr : r = (.inl (some (.int ((v0 &&& 2147483647) - (v0 &&& 2147483647) / x2 * x2))), h1)) : tr_L g (d + 1) m_L_in 0 [some (.ref 0), some (.int x1), some (.int x2)] [] h r := by
  refine tr_s (.aload_n 0) 1 1 [some (.ref 0), some (.int x1), some (.int x2)] [.ref 0] h rfl rfl rfl ?_
  refine tr_s (.iload_n 1) 1 2 [some (.ref 0), some (.int x1), some (.int x2)] [.int x1, .ref 0] h rfl rfl rfl ?_
  refine tr_call (.invokestatic 95) 95 2 2 0 m_L_cell [.ref 0, .int x1] [] (some (.int v0)) h1 rfl rfl rfl rfl rfl rfl rfl rfl rfl (tr_cok rfl (Or.inl rfl)) c_0 ?_
  have hL0 := c_0.2
  refine tr_s (.ldc 101) 2 7 [some (.ref 0), some (.int x1), some (.int x2)] [.int 2147483647, .int v0] h1 rfl rfl rfl ?_
  refine tr_s .iand 1 8 [some (.ref 0), some (.int x1), some (.int x2)] [.int (v0 &&& 2147483647)] h1 rfl rfl rfl ?_
  refine tr_s (.iload_n 2) 1 9 [some (.ref 0), some (.int x1), some (.int x2)] [.int x2, .int (v0 &&& 2147483647)] h1 rfl rfl rfl ?_
  refine tr_s .irem 1 10 [some (.ref 0), some (.int x1), some (.int x2)] [.int ((v0 &&& 2147483647) - (v0 &&& 2147483647) / x2 * x2)] h1 rfl rfl (by simp only [ev_s, ev_ldi, ev_sti, ev_p, ev_i2n, decide_eq_false nz0, cond_false]) ?_
  exact tl_ret hL0 .ireturn 1 (some (.int ((v0 &&& 2147483647) - (v0 &&& 2147483647) / x2 * x2))) rfl rfl rfl rfl hr
theorem sg_L_cell_0 {g : tr_g} {d : Nat} {h : ev_AH} {r : ev_O × ev_AH} {x1 : Int32} (hL : hh_L h) (t : (Int32.ofNat g.1.length) ≤ x1 → tr_L g d m_L_cell 14 [some (.ref 0), some (.int x1), none] [.int 69069] h r) (f : x1 < (Int32.ofNat g.1.length) → tr_L g d m_L_cell 8 [some (.ref 0), some (.int x1), none] [.int 69069] h r) : tr_L g d m_L_cell 0 [some (.ref 0), some (.int x1), none] [] h r := by
  refine tr_s (.ldc 7) 2 2 [some (.ref 0), some (.int x1), none] [.int 69069] h rfl rfl rfl ?_
  refine tr_s (.iload_n 1) 1 3 [some (.ref 0), some (.int x1), none] [.int x1, .int 69069] h rfl rfl rfl ?_
  refine tr_s (.aload_n 0) 1 4 [some (.ref 0), some (.int x1), none] [.ref 0, .int x1, .int 69069] h rfl rfl rfl ?_
  refine tr_alen 0 0 g.1 rfl rfl (by decide) ?_
  exact tr_if2 .ge 9 14 x1 (Int32.ofNat g.1.length) rfl rfl rfl (fun hc => t ((tr_ge hc).1 rfl)) (fun hc => f ((tr_ge hc).2 rfl))
theorem sg_L_cell_8 {g : tr_g} {d : Nat} {h : ev_AH} {r : ev_O × ev_AH} {x1 s0 : Int32} {w2 : Option Value} {j0 : Nat} (hL : hh_L h) (e0 : x1 = Int32.ofNat j0) (b0 : j0 < g.1.length) (z0 : g.1.length < 2147483648) (hr : r = (.inl (some (.int (((((s0 * ((g.1.getD j0 0) + (1009 * x1))) + 12345) ^^^ ((Int32.toUInt32 ((s0 * ((g.1.getD j0 0) + (1009 * x1))) + 12345) >>> (Int32.toUInt32 13 &&& Int32.toUInt32 31)).toInt32)) * 1103515245) ^^^ ((Int32.toUInt32 ((((s0 * ((g.1.getD j0 0) + (1009 * x1))) + 12345) ^^^ ((Int32.toUInt32 ((s0 * ((g.1.getD j0 0) + (1009 * x1))) + 12345) >>> (Int32.toUInt32 13 &&& Int32.toUInt32 31)).toInt32)) * 1103515245) >>> (Int32.toUInt32 16 &&& Int32.toUInt32 31)).toInt32)))), h)) : tr_L g d m_L_cell 8 [some (.ref 0), some (.int x1), w2] [.int s0] h r := by
  refine tr_s (.aload_n 0) 1 9 [some (.ref 0), some (.int x1), w2] [.ref 0, .int s0] h rfl rfl rfl ?_
  refine tr_s (.iload_n 1) 1 10 [some (.ref 0), some (.int x1), w2] [.int x1, .ref 0, .int s0] h rfl rfl rfl ?_
  refine tr_ald .iaload 0 0 j0 x1 g.1 (Or.inl ⟨rfl, rfl⟩) rfl rfl e0 b0 z0 ?_
  refine tr_goto 4 15 rfl rfl rfl ?_
  refine tr_si 1009 1009 (by decide) rfl ?_
  refine tr_s (.iload_n 1) 1 19 [some (.ref 0), some (.int x1), w2] [.int x1, .int 1009, .int (g.1.getD j0 0), .int s0] h rfl rfl rfl ?_
  refine tr_s .imul 1 20 [some (.ref 0), some (.int x1), w2] [.int (1009 * x1), .int (g.1.getD j0 0), .int s0] h rfl rfl rfl ?_
  refine tr_s .iadd 1 21 [some (.ref 0), some (.int x1), w2] [.int ((g.1.getD j0 0) + (1009 * x1)), .int s0] h rfl rfl rfl ?_
  refine tr_s .imul 1 22 [some (.ref 0), some (.int x1), w2] [.int (s0 * ((g.1.getD j0 0) + (1009 * x1)))] h rfl rfl rfl ?_
  refine tr_si 12345 12345 (by decide) rfl ?_
  refine tr_s .iadd 1 26 [some (.ref 0), some (.int x1), w2] [.int ((s0 * ((g.1.getD j0 0) + (1009 * x1))) + 12345)] h rfl rfl rfl ?_
  refine tr_st (.istore_n 2) 1 2 0 (.int ((s0 * ((g.1.getD j0 0) + (1009 * x1))) + 12345)) rfl rfl rfl rfl rfl rfl rfl ?_
  refine tr_s (.iload_n 2) 1 28 [some (.ref 0), some (.int x1), some (.int ((s0 * ((g.1.getD j0 0) + (1009 * x1))) + 12345))] [.int ((s0 * ((g.1.getD j0 0) + (1009 * x1))) + 12345)] h rfl rfl rfl ?_
  refine tr_s (.iload_n 2) 1 29 [some (.ref 0), some (.int x1), some (.int ((s0 * ((g.1.getD j0 0) + (1009 * x1))) + 12345))] [.int ((s0 * ((g.1.getD j0 0) + (1009 * x1))) + 12345), .int ((s0 * ((g.1.getD j0 0) + (1009 * x1))) + 12345)] h rfl rfl rfl ?_
  refine tr_bi 13 13 (by decide) rfl ?_
  refine tr_s .iushr 1 32 [some (.ref 0), some (.int x1), some (.int ((s0 * ((g.1.getD j0 0) + (1009 * x1))) + 12345))] [.int ((Int32.toUInt32 ((s0 * ((g.1.getD j0 0) + (1009 * x1))) + 12345) >>> (Int32.toUInt32 13 &&& Int32.toUInt32 31)).toInt32), .int ((s0 * ((g.1.getD j0 0) + (1009 * x1))) + 12345)] h rfl rfl rfl ?_
  refine tr_s .ixor 1 33 [some (.ref 0), some (.int x1), some (.int ((s0 * ((g.1.getD j0 0) + (1009 * x1))) + 12345))] [.int (((s0 * ((g.1.getD j0 0) + (1009 * x1))) + 12345) ^^^ ((Int32.toUInt32 ((s0 * ((g.1.getD j0 0) + (1009 * x1))) + 12345) >>> (Int32.toUInt32 13 &&& Int32.toUInt32 31)).toInt32))] h rfl rfl rfl ?_
  refine tr_s (.ldc 8) 2 35 [some (.ref 0), some (.int x1), some (.int ((s0 * ((g.1.getD j0 0) + (1009 * x1))) + 12345))] [.int 1103515245, .int (((s0 * ((g.1.getD j0 0) + (1009 * x1))) + 12345) ^^^ ((Int32.toUInt32 ((s0 * ((g.1.getD j0 0) + (1009 * x1))) + 12345) >>> (Int32.toUInt32 13 &&& Int32.toUInt32 31)).toInt32))] h rfl rfl rfl ?_
  refine tr_s .imul 1 36 [some (.ref 0), some (.int x1), some (.int ((s0 * ((g.1.getD j0 0) + (1009 * x1))) + 12345))] [.int ((((s0 * ((g.1.getD j0 0) + (1009 * x1))) + 12345) ^^^ ((Int32.toUInt32 ((s0 * ((g.1.getD j0 0) + (1009 * x1))) + 12345) >>> (Int32.toUInt32 13 &&& Int32.toUInt32 31)).toInt32)) * 1103515245)] h rfl rfl rfl ?_
  refine tr_st (.istore_n 2) 1 2 0 (.int ((((s0 * ((g.1.getD j0 0) + (1009 * x1))) + 12345) ^^^ ((Int32.toUInt32 ((s0 * ((g.1.getD j0 0) + (1009 * x1))) + 12345) >>> (Int32.toUInt32 13 &&& Int32.toUInt32 31)).toInt32)) * 1103515245)) rfl rfl rfl rfl rfl rfl rfl ?_
  refine tr_s (.iload_n 2) 1 38 [some (.ref 0), some (.int x1), some (.int ((((s0 * ((g.1.getD j0 0) + (1009 * x1))) + 12345) ^^^ ((Int32.toUInt32 ((s0 * ((g.1.getD j0 0) + (1009 * x1))) + 12345) >>> (Int32.toUInt32 13 &&& Int32.toUInt32 31)).toInt32)) * 1103515245))] [.int ((((s0 * ((g.1.getD j0 0) + (1009 * x1))) + 12345) ^^^ ((Int32.toUInt32 ((s0 * ((g.1.getD j0 0) + (1009 * x1))) + 12345) >>> (Int32.toUInt32 13 &&& Int32.toUInt32 31)).toInt32)) * 1103515245)] h rfl rfl rfl ?_
  refine tr_s (.iload_n 2) 1 39 [some (.ref 0), some (.int x1), some (.int ((((s0 * ((g.1.getD j0 0) + (1009 * x1))) + 12345) ^^^ ((Int32.toUInt32 ((s0 * ((g.1.getD j0 0) + (1009 * x1))) + 12345) >>> (Int32.toUInt32 13 &&& Int32.toUInt32 31)).toInt32)) * 1103515245))] [.int ((((s0 * ((g.1.getD j0 0) + (1009 * x1))) + 12345) ^^^ ((Int32.toUInt32 ((s0 * ((g.1.getD j0 0) + (1009 * x1))) + 12345) >>> (Int32.toUInt32 13 &&& Int32.toUInt32 31)).toInt32)) * 1103515245), .int ((((s0 * ((g.1.getD j0 0) + (1009 * x1))) + 12345) ^^^ ((Int32.toUInt32 ((s0 * ((g.1.getD j0 0) + (1009 * x1))) + 12345) >>> (Int32.toUInt32 13 &&& Int32.toUInt32 31)).toInt32)) * 1103515245)] h rfl rfl rfl ?_
  refine tr_bi 16 16 (by decide) rfl ?_
  refine tr_s .iushr 1 42 [some (.ref 0), some (.int x1), some (.int ((((s0 * ((g.1.getD j0 0) + (1009 * x1))) + 12345) ^^^ ((Int32.toUInt32 ((s0 * ((g.1.getD j0 0) + (1009 * x1))) + 12345) >>> (Int32.toUInt32 13 &&& Int32.toUInt32 31)).toInt32)) * 1103515245))] [.int ((Int32.toUInt32 ((((s0 * ((g.1.getD j0 0) + (1009 * x1))) + 12345) ^^^ ((Int32.toUInt32 ((s0 * ((g.1.getD j0 0) + (1009 * x1))) + 12345) >>> (Int32.toUInt32 13 &&& Int32.toUInt32 31)).toInt32)) * 1103515245) >>> (Int32.toUInt32 16 &&& Int32.toUInt32 31)).toInt32), .int ((((s0 * ((g.1.getD j0 0) + (1009 * x1))) + 12345) ^^^ ((Int32.toUInt32 ((s0 * ((g.1.getD j0 0) + (1009 * x1))) + 12345) >>> (Int32.toUInt32 13 &&& Int32.toUInt32 31)).toInt32)) * 1103515245)] h rfl rfl rfl ?_
  refine tr_s .ixor 1 43 [some (.ref 0), some (.int x1), some (.int ((((s0 * ((g.1.getD j0 0) + (1009 * x1))) + 12345) ^^^ ((Int32.toUInt32 ((s0 * ((g.1.getD j0 0) + (1009 * x1))) + 12345) >>> (Int32.toUInt32 13 &&& Int32.toUInt32 31)).toInt32)) * 1103515245))] [.int (((((s0 * ((g.1.getD j0 0) + (1009 * x1))) + 12345) ^^^ ((Int32.toUInt32 ((s0 * ((g.1.getD j0 0) + (1009 * x1))) + 12345) >>> (Int32.toUInt32 13 &&& Int32.toUInt32 31)).toInt32)) * 1103515245) ^^^ ((Int32.toUInt32 ((((s0 * ((g.1.getD j0 0) + (1009 * x1))) + 12345) ^^^ ((Int32.toUInt32 ((s0 * ((g.1.getD j0 0) + (1009 * x1))) + 12345) >>> (Int32.toUInt32 13 &&& Int32.toUInt32 31)).toInt32)) * 1103515245) >>> (Int32.toUInt32 16 &&& Int32.toUInt32 31)).toInt32))] h rfl rfl rfl ?_
  exact tl_ret hL .ireturn 1 (some (.int (((((s0 * ((g.1.getD j0 0) + (1009 * x1))) + 12345) ^^^ ((Int32.toUInt32 ((s0 * ((g.1.getD j0 0) + (1009 * x1))) + 12345) >>> (Int32.toUInt32 13 &&& Int32.toUInt32 31)).toInt32)) * 1103515245) ^^^ ((Int32.toUInt32 ((((s0 * ((g.1.getD j0 0) + (1009 * x1))) + 12345) ^^^ ((Int32.toUInt32 ((s0 * ((g.1.getD j0 0) + (1009 * x1))) + 12345) >>> (Int32.toUInt32 13 &&& Int32.toUInt32 31)).toInt32)) * 1103515245) >>> (Int32.toUInt32 16 &&& Int32.toUInt32 31)).toInt32)))) rfl rfl rfl rfl hr
theorem sg_L_cell_14 {g : tr_g} {d : Nat} {h : ev_AH} {r : ev_O × ev_AH} {w0 w2 : Option Value} {x1 s0 : Int32} (hL : hh_L h) (hr : r = (.inl (some (.int (((((s0 * (0 + (1009 * x1))) + 12345) ^^^ ((Int32.toUInt32 ((s0 * (0 + (1009 * x1))) + 12345) >>> (Int32.toUInt32 13 &&& Int32.toUInt32 31)).toInt32)) * 1103515245) ^^^ ((Int32.toUInt32 ((((s0 * (0 + (1009 * x1))) + 12345) ^^^ ((Int32.toUInt32 ((s0 * (0 + (1009 * x1))) + 12345) >>> (Int32.toUInt32 13 &&& Int32.toUInt32 31)).toInt32)) * 1103515245) >>> (Int32.toUInt32 16 &&& Int32.toUInt32 31)).toInt32)))), h)) : tr_L g d m_L_cell 14 [w0, some (.int x1), w2] [.int s0] h r := by
  refine tr_ic 0 0 (by decide) rfl ?_
  refine tr_si 1009 1009 (by decide) rfl ?_
  refine tr_s (.iload_n 1) 1 19 [w0, some (.int x1), w2] [.int x1, .int 1009, .int 0, .int s0] h rfl rfl rfl ?_
  refine tr_s .imul 1 20 [w0, some (.int x1), w2] [.int (1009 * x1), .int 0, .int s0] h rfl rfl rfl ?_
  refine tr_s .iadd 1 21 [w0, some (.int x1), w2] [.int (0 + (1009 * x1)), .int s0] h rfl rfl rfl ?_
  refine tr_s .imul 1 22 [w0, some (.int x1), w2] [.int (s0 * (0 + (1009 * x1)))] h rfl rfl rfl ?_
  refine tr_si 12345 12345 (by decide) rfl ?_
  refine tr_s .iadd 1 26 [w0, some (.int x1), w2] [.int ((s0 * (0 + (1009 * x1))) + 12345)] h rfl rfl rfl ?_
  refine tr_st (.istore_n 2) 1 2 0 (.int ((s0 * (0 + (1009 * x1))) + 12345)) rfl rfl rfl rfl rfl rfl rfl ?_
  refine tr_s (.iload_n 2) 1 28 [w0, some (.int x1), some (.int ((s0 * (0 + (1009 * x1))) + 12345))] [.int ((s0 * (0 + (1009 * x1))) + 12345)] h rfl rfl rfl ?_
  refine tr_s (.iload_n 2) 1 29 [w0, some (.int x1), some (.int ((s0 * (0 + (1009 * x1))) + 12345))] [.int ((s0 * (0 + (1009 * x1))) + 12345), .int ((s0 * (0 + (1009 * x1))) + 12345)] h rfl rfl rfl ?_
  refine tr_bi 13 13 (by decide) rfl ?_
  refine tr_s .iushr 1 32 [w0, some (.int x1), some (.int ((s0 * (0 + (1009 * x1))) + 12345))] [.int ((Int32.toUInt32 ((s0 * (0 + (1009 * x1))) + 12345) >>> (Int32.toUInt32 13 &&& Int32.toUInt32 31)).toInt32), .int ((s0 * (0 + (1009 * x1))) + 12345)] h rfl rfl rfl ?_
  refine tr_s .ixor 1 33 [w0, some (.int x1), some (.int ((s0 * (0 + (1009 * x1))) + 12345))] [.int (((s0 * (0 + (1009 * x1))) + 12345) ^^^ ((Int32.toUInt32 ((s0 * (0 + (1009 * x1))) + 12345) >>> (Int32.toUInt32 13 &&& Int32.toUInt32 31)).toInt32))] h rfl rfl rfl ?_
  refine tr_s (.ldc 8) 2 35 [w0, some (.int x1), some (.int ((s0 * (0 + (1009 * x1))) + 12345))] [.int 1103515245, .int (((s0 * (0 + (1009 * x1))) + 12345) ^^^ ((Int32.toUInt32 ((s0 * (0 + (1009 * x1))) + 12345) >>> (Int32.toUInt32 13 &&& Int32.toUInt32 31)).toInt32))] h rfl rfl rfl ?_
  refine tr_s .imul 1 36 [w0, some (.int x1), some (.int ((s0 * (0 + (1009 * x1))) + 12345))] [.int ((((s0 * (0 + (1009 * x1))) + 12345) ^^^ ((Int32.toUInt32 ((s0 * (0 + (1009 * x1))) + 12345) >>> (Int32.toUInt32 13 &&& Int32.toUInt32 31)).toInt32)) * 1103515245)] h rfl rfl rfl ?_
  refine tr_st (.istore_n 2) 1 2 0 (.int ((((s0 * (0 + (1009 * x1))) + 12345) ^^^ ((Int32.toUInt32 ((s0 * (0 + (1009 * x1))) + 12345) >>> (Int32.toUInt32 13 &&& Int32.toUInt32 31)).toInt32)) * 1103515245)) rfl rfl rfl rfl rfl rfl rfl ?_
  refine tr_s (.iload_n 2) 1 38 [w0, some (.int x1), some (.int ((((s0 * (0 + (1009 * x1))) + 12345) ^^^ ((Int32.toUInt32 ((s0 * (0 + (1009 * x1))) + 12345) >>> (Int32.toUInt32 13 &&& Int32.toUInt32 31)).toInt32)) * 1103515245))] [.int ((((s0 * (0 + (1009 * x1))) + 12345) ^^^ ((Int32.toUInt32 ((s0 * (0 + (1009 * x1))) + 12345) >>> (Int32.toUInt32 13 &&& Int32.toUInt32 31)).toInt32)) * 1103515245)] h rfl rfl rfl ?_
  refine tr_s (.iload_n 2) 1 39 [w0, some (.int x1), some (.int ((((s0 * (0 + (1009 * x1))) + 12345) ^^^ ((Int32.toUInt32 ((s0 * (0 + (1009 * x1))) + 12345) >>> (Int32.toUInt32 13 &&& Int32.toUInt32 31)).toInt32)) * 1103515245))] [.int ((((s0 * (0 + (1009 * x1))) + 12345) ^^^ ((Int32.toUInt32 ((s0 * (0 + (1009 * x1))) + 12345) >>> (Int32.toUInt32 13 &&& Int32.toUInt32 31)).toInt32)) * 1103515245), .int ((((s0 * (0 + (1009 * x1))) + 12345) ^^^ ((Int32.toUInt32 ((s0 * (0 + (1009 * x1))) + 12345) >>> (Int32.toUInt32 13 &&& Int32.toUInt32 31)).toInt32)) * 1103515245)] h rfl rfl rfl ?_
  refine tr_bi 16 16 (by decide) rfl ?_
  refine tr_s .iushr 1 42 [w0, some (.int x1), some (.int ((((s0 * (0 + (1009 * x1))) + 12345) ^^^ ((Int32.toUInt32 ((s0 * (0 + (1009 * x1))) + 12345) >>> (Int32.toUInt32 13 &&& Int32.toUInt32 31)).toInt32)) * 1103515245))] [.int ((Int32.toUInt32 ((((s0 * (0 + (1009 * x1))) + 12345) ^^^ ((Int32.toUInt32 ((s0 * (0 + (1009 * x1))) + 12345) >>> (Int32.toUInt32 13 &&& Int32.toUInt32 31)).toInt32)) * 1103515245) >>> (Int32.toUInt32 16 &&& Int32.toUInt32 31)).toInt32), .int ((((s0 * (0 + (1009 * x1))) + 12345) ^^^ ((Int32.toUInt32 ((s0 * (0 + (1009 * x1))) + 12345) >>> (Int32.toUInt32 13 &&& Int32.toUInt32 31)).toInt32)) * 1103515245)] h rfl rfl rfl ?_
  refine tr_s .ixor 1 43 [w0, some (.int x1), some (.int ((((s0 * (0 + (1009 * x1))) + 12345) ^^^ ((Int32.toUInt32 ((s0 * (0 + (1009 * x1))) + 12345) >>> (Int32.toUInt32 13 &&& Int32.toUInt32 31)).toInt32)) * 1103515245))] [.int (((((s0 * (0 + (1009 * x1))) + 12345) ^^^ ((Int32.toUInt32 ((s0 * (0 + (1009 * x1))) + 12345) >>> (Int32.toUInt32 13 &&& Int32.toUInt32 31)).toInt32)) * 1103515245) ^^^ ((Int32.toUInt32 ((((s0 * (0 + (1009 * x1))) + 12345) ^^^ ((Int32.toUInt32 ((s0 * (0 + (1009 * x1))) + 12345) >>> (Int32.toUInt32 13 &&& Int32.toUInt32 31)).toInt32)) * 1103515245) >>> (Int32.toUInt32 16 &&& Int32.toUInt32 31)).toInt32))] h rfl rfl rfl ?_
  exact tl_ret hL .ireturn 1 (some (.int (((((s0 * (0 + (1009 * x1))) + 12345) ^^^ ((Int32.toUInt32 ((s0 * (0 + (1009 * x1))) + 12345) >>> (Int32.toUInt32 13 &&& Int32.toUInt32 31)).toInt32)) * 1103515245) ^^^ ((Int32.toUInt32 ((((s0 * (0 + (1009 * x1))) + 12345) ^^^ ((Int32.toUInt32 ((s0 * (0 + (1009 * x1))) + 12345) >>> (Int32.toUInt32 13 &&& Int32.toUInt32 31)).toInt32)) * 1103515245) >>> (Int32.toUInt32 16 &&& Int32.toUInt32 31)).toInt32)))) rfl rfl rfl rfl hr
theorem sg_L_adds_0 {g : tr_g} {d : Nat} {h : ev_AH} {r : ev_O × ev_AH} {x1 x2 : Int32} (hL : hh_L h) (k : tr_L g d m_L_adds 28 [some (.ref 1000), some (.int x1), some (.int x2), some (.int (x2 - x2 / 4 * 4)), some (.int ((((x2 - x2 / 4 * 4) + 1) + ((x2 / 4) - (x2 / 4) / 3 * 3)) - (((x2 - x2 / 4 * 4) + 1) + ((x2 / 4) - (x2 / 4) / 3 * 3)) / 4 * 4)), some (.int 0), some (.int ((x2 / 12) - (x2 / 12) / 2 * 2))] [] h r) : tr_L g d m_L_adds 0 [some (.ref 1000), some (.int x1), some (.int x2), none, none, none, none] [] h r := by
  refine tr_s (.iload_n 2) 1 1 [some (.ref 1000), some (.int x1), some (.int x2), none, none, none, none] [.int x2] h rfl rfl rfl ?_
  refine tr_ic 4 4 (by decide) rfl ?_
  refine tr_s .irem 1 3 [some (.ref 1000), some (.int x1), some (.int x2), none, none, none, none] [.int (x2 - x2 / 4 * 4)] h rfl rfl rfl ?_
  refine tr_st (.istore_n 3) 1 3 0 (.int (x2 - x2 / 4 * 4)) rfl rfl rfl rfl rfl rfl rfl ?_
  refine tr_s (.iload_n 3) 1 5 [some (.ref 1000), some (.int x1), some (.int x2), some (.int (x2 - x2 / 4 * 4)), none, none, none] [.int (x2 - x2 / 4 * 4)] h rfl rfl rfl ?_
  refine tr_ic 1 1 (by decide) rfl ?_
  refine tr_s .iadd 1 7 [some (.ref 1000), some (.int x1), some (.int x2), some (.int (x2 - x2 / 4 * 4)), none, none, none] [.int ((x2 - x2 / 4 * 4) + 1)] h rfl rfl rfl ?_
  refine tr_s (.iload_n 2) 1 8 [some (.ref 1000), some (.int x1), some (.int x2), some (.int (x2 - x2 / 4 * 4)), none, none, none] [.int x2, .int ((x2 - x2 / 4 * 4) + 1)] h rfl rfl rfl ?_
  refine tr_ic 4 4 (by decide) rfl ?_
  refine tr_s .idiv 1 10 [some (.ref 1000), some (.int x1), some (.int x2), some (.int (x2 - x2 / 4 * 4)), none, none, none] [.int (x2 / 4), .int ((x2 - x2 / 4 * 4) + 1)] h rfl rfl rfl ?_
  refine tr_ic 3 3 (by decide) rfl ?_
  refine tr_s .irem 1 12 [some (.ref 1000), some (.int x1), some (.int x2), some (.int (x2 - x2 / 4 * 4)), none, none, none] [.int ((x2 / 4) - (x2 / 4) / 3 * 3), .int ((x2 - x2 / 4 * 4) + 1)] h rfl rfl rfl ?_
  refine tr_s .iadd 1 13 [some (.ref 1000), some (.int x1), some (.int x2), some (.int (x2 - x2 / 4 * 4)), none, none, none] [.int (((x2 - x2 / 4 * 4) + 1) + ((x2 / 4) - (x2 / 4) / 3 * 3))] h rfl rfl rfl ?_
  refine tr_ic 4 4 (by decide) rfl ?_
  refine tr_s .irem 1 15 [some (.ref 1000), some (.int x1), some (.int x2), some (.int (x2 - x2 / 4 * 4)), none, none, none] [.int ((((x2 - x2 / 4 * 4) + 1) + ((x2 / 4) - (x2 / 4) / 3 * 3)) - (((x2 - x2 / 4 * 4) + 1) + ((x2 / 4) - (x2 / 4) / 3 * 3)) / 4 * 4)] h rfl rfl rfl ?_
  refine tr_st (.istore 4) 2 4 0 (.int ((((x2 - x2 / 4 * 4) + 1) + ((x2 / 4) - (x2 / 4) / 3 * 3)) - (((x2 - x2 / 4 * 4) + 1) + ((x2 / 4) - (x2 / 4) / 3 * 3)) / 4 * 4)) rfl rfl rfl rfl rfl rfl rfl ?_
  refine tr_ic 0 0 (by decide) rfl ?_
  refine tr_st (.istore 5) 2 5 0 (.int 0) rfl rfl rfl rfl rfl rfl rfl ?_
  refine tr_s (.iload_n 2) 1 21 [some (.ref 1000), some (.int x1), some (.int x2), some (.int (x2 - x2 / 4 * 4)), some (.int ((((x2 - x2 / 4 * 4) + 1) + ((x2 / 4) - (x2 / 4) / 3 * 3)) - (((x2 - x2 / 4 * 4) + 1) + ((x2 / 4) - (x2 / 4) / 3 * 3)) / 4 * 4)), some (.int 0), none] [.int x2] h rfl rfl rfl ?_
  refine tr_bi 12 12 (by decide) rfl ?_
  refine tr_s .idiv 1 24 [some (.ref 1000), some (.int x1), some (.int x2), some (.int (x2 - x2 / 4 * 4)), some (.int ((((x2 - x2 / 4 * 4) + 1) + ((x2 / 4) - (x2 / 4) / 3 * 3)) - (((x2 - x2 / 4 * 4) + 1) + ((x2 / 4) - (x2 / 4) / 3 * 3)) / 4 * 4)), some (.int 0), none] [.int (x2 / 12)] h rfl rfl rfl ?_
  refine tr_ic 2 2 (by decide) rfl ?_
  refine tr_s .irem 1 26 [some (.ref 1000), some (.int x1), some (.int x2), some (.int (x2 - x2 / 4 * 4)), some (.int ((((x2 - x2 / 4 * 4) + 1) + ((x2 / 4) - (x2 / 4) / 3 * 3)) - (((x2 - x2 / 4 * 4) + 1) + ((x2 / 4) - (x2 / 4) / 3 * 3)) / 4 * 4)), some (.int 0), none] [.int ((x2 / 12) - (x2 / 12) / 2 * 2)] h rfl rfl rfl ?_
  refine tr_st (.istore 6) 2 6 0 (.int ((x2 / 12) - (x2 / 12) / 2 * 2)) rfl rfl rfl rfl rfl rfl rfl ?_
  exact k
theorem sg_L_adds_28 {g : tr_g} {d : Nat} {h : ev_AH} {r : ev_O × ev_AH} {x1 x3 x4 x5 x6 : Int32} {w2 : Option Value} (hL : hh_L h) (t : x5 = x3 → tr_L g d m_L_adds 46 [some (.ref 1000), some (.int x1), w2, some (.int x3), some (.int x4), some (.int x5), some (.int x6)] [] h r) (f : x5 ≠ x3 → tr_L g d m_L_adds 34 [some (.ref 1000), some (.int x1), w2, some (.int x3), some (.int x4), some (.int x5), some (.int x6)] [] h r) : tr_L g d m_L_adds 28 [some (.ref 1000), some (.int x1), w2, some (.int x3), some (.int x4), some (.int x5), some (.int x6)] [] h r := by
  refine tr_s (.iload 5) 2 30 [some (.ref 1000), some (.int x1), w2, some (.int x3), some (.int x4), some (.int x5), some (.int x6)] [.int x5] h rfl rfl rfl ?_
  refine tr_s (.iload_n 3) 1 31 [some (.ref 1000), some (.int x1), w2, some (.int x3), some (.int x4), some (.int x5), some (.int x6)] [.int x3, .int x5] h rfl rfl rfl ?_
  exact tr_if2 .eq 15 46 x5 x3 rfl rfl rfl (fun hc => t ((tr_eq hc).1 rfl)) (fun hc => f ((tr_eq hc).2 rfl))
theorem sg_L_adds_34 {g : tr_g} {d : Nat} {h : ev_AH} {r : ev_O × ev_AH} {x1 x3 x4 x5 x6 : Int32} {w2 : Option Value} (hL : hh_L h) (t : x5 = x4 → tr_L g d m_L_adds 46 [some (.ref 1000), some (.int x1), w2, some (.int x3), some (.int x4), some (.int x5), some (.int x6)] [] h r) (f : x5 ≠ x4 → tr_L g d m_L_adds 41 [some (.ref 1000), some (.int x1), w2, some (.int x3), some (.int x4), some (.int x5), some (.int x6)] [] h r) : tr_L g d m_L_adds 34 [some (.ref 1000), some (.int x1), w2, some (.int x3), some (.int x4), some (.int x5), some (.int x6)] [] h r := by
  refine tr_s (.iload 5) 2 36 [some (.ref 1000), some (.int x1), w2, some (.int x3), some (.int x4), some (.int x5), some (.int x6)] [.int x5] h rfl rfl rfl ?_
  refine tr_s (.iload 4) 2 38 [some (.ref 1000), some (.int x1), w2, some (.int x3), some (.int x4), some (.int x5), some (.int x6)] [.int x4, .int x5] h rfl rfl rfl ?_
  exact tr_if2 .eq 8 46 x5 x4 rfl rfl rfl (fun hc => t ((tr_eq hc).1 rfl)) (fun hc => f ((tr_eq hc).2 rfl))
theorem sg_L_adds_41 {g : tr_g} {d : Nat} {h : ev_AH} {r : ev_O × ev_AH} {x1 x3 x4 x5 x6 : Int32} {w2 : Option Value} (hL : hh_L h) (t : x6 ≤ 0 → tr_L g d m_L_adds 75 [some (.ref 1000), some (.int x1), w2, some (.int x3), some (.int x4), some (.int x5), some (.int x6)] [] h r) (f : 0 < x6 → tr_L g d m_L_adds 46 [some (.ref 1000), some (.int x1), w2, some (.int x3), some (.int x4), some (.int x5), some (.int x6)] [] h r) : tr_L g d m_L_adds 41 [some (.ref 1000), some (.int x1), w2, some (.int x3), some (.int x4), some (.int x5), some (.int x6)] [] h r := by
  refine tr_s (.iload 6) 2 43 [some (.ref 1000), some (.int x1), w2, some (.int x3), some (.int x4), some (.int x5), some (.int x6)] [.int x6] h rfl rfl rfl ?_
  exact tr_if1 .le 32 75 x6 rfl rfl rfl (fun hc => t ((tr_le hc).1 rfl)) (fun hc => f ((tr_le hc).2 rfl))
theorem sg_L_adds_46 {g : tr_g} {d : Nat} {h : ev_AH} {r : ev_O × ev_AH} {x1 x3 x4 x5 x6 : Int32} {w2 : Option Value} (hL : hh_L h) (t : x5 = x3 → tr_L g d m_L_adds 61 [some (.ref 1000), some (.int x1), w2, some (.int x3), some (.int x4), some (.int x5), some (.int x6)] [.int x6] h r) (f : x5 ≠ x3 → tr_L g d m_L_adds 54 [some (.ref 1000), some (.int x1), w2, some (.int x3), some (.int x4), some (.int x5), some (.int x6)] [.int x6] h r) : tr_L g d m_L_adds 46 [some (.ref 1000), some (.int x1), w2, some (.int x3), some (.int x4), some (.int x5), some (.int x6)] [] h r := by
  refine tr_s (.iload 6) 2 48 [some (.ref 1000), some (.int x1), w2, some (.int x3), some (.int x4), some (.int x5), some (.int x6)] [.int x6] h rfl rfl rfl ?_
  refine tr_s (.iload 5) 2 50 [some (.ref 1000), some (.int x1), w2, some (.int x3), some (.int x4), some (.int x5), some (.int x6)] [.int x5, .int x6] h rfl rfl rfl ?_
  refine tr_s (.iload_n 3) 1 51 [some (.ref 1000), some (.int x1), w2, some (.int x3), some (.int x4), some (.int x5), some (.int x6)] [.int x3, .int x5, .int x6] h rfl rfl rfl ?_
  exact tr_if2 .eq 10 61 x5 x3 rfl rfl rfl (fun hc => t ((tr_eq hc).1 rfl)) (fun hc => f ((tr_eq hc).2 rfl))
theorem sg_L_adds_54 {g : tr_g} {d : Nat} {h : ev_AH} {r : ev_O × ev_AH} {x1 x3 x4 x5 s0 : Int32} {w2 w6 : Option Value} (hL : hh_L h) (t : x5 ≠ x4 → tr_L g d m_L_adds 65 [some (.ref 1000), some (.int x1), w2, some (.int x3), some (.int x4), some (.int x5), w6] [.int s0] h r) (f : x5 = x4 → tr_L g d m_L_adds 61 [some (.ref 1000), some (.int x1), w2, some (.int x3), some (.int x4), some (.int x5), w6] [.int s0] h r) : tr_L g d m_L_adds 54 [some (.ref 1000), some (.int x1), w2, some (.int x3), some (.int x4), some (.int x5), w6] [.int s0] h r := by
  refine tr_s (.iload 5) 2 56 [some (.ref 1000), some (.int x1), w2, some (.int x3), some (.int x4), some (.int x5), w6] [.int x5, .int s0] h rfl rfl rfl ?_
  refine tr_s (.iload 4) 2 58 [some (.ref 1000), some (.int x1), w2, some (.int x3), some (.int x4), some (.int x5), w6] [.int x4, .int x5, .int s0] h rfl rfl rfl ?_
  exact tr_if2 .ne 7 65 x5 x4 rfl rfl rfl (fun hc => t ((tr_ne hc).1 rfl)) (fun hc => f ((tr_ne hc).2 rfl))
theorem sg_L_adds_61 {g : tr_g} {d : Nat} {h : ev_AH} {r : ev_O × ev_AH} {x1 x3 x4 x5 s0 : Int32} {w2 w6 : Option Value} (hL : hh_L h) (k : tr_L g d m_L_adds 28 [some (.ref 1000), some (.int x1), w2, some (.int x3), some (.int x4), some (.int (x5 + 1)), some (.int (s0 - 0))] [] h r) : tr_L g d m_L_adds 61 [some (.ref 1000), some (.int x1), w2, some (.int x3), some (.int x4), some (.int x5), w6] [.int s0] h r := by
  refine tr_ic 0 0 (by decide) rfl ?_
  refine tr_goto 4 66 rfl rfl rfl ?_
  refine tr_s .isub 1 67 [some (.ref 1000), some (.int x1), w2, some (.int x3), some (.int x4), some (.int x5), w6] [.int (s0 - 0)] h rfl rfl rfl ?_
  refine tr_st (.istore 6) 2 6 0 (.int (s0 - 0)) rfl rfl rfl rfl rfl rfl rfl ?_
  refine tr_inc 5 1 x5 1 (by decide) rfl rfl rfl ?_
  refine tr_goto (-44) 28 rfl rfl rfl ?_
  exact k
theorem sg_L_adds_65 {g : tr_g} {d : Nat} {h : ev_AH} {r : ev_O × ev_AH} {x1 x3 x4 x5 s0 : Int32} {w2 w6 : Option Value} (hL : hh_L h) (k : tr_L g d m_L_adds 28 [some (.ref 1000), some (.int x1), w2, some (.int x3), some (.int x4), some (.int (x5 + 1)), some (.int (s0 - 1))] [] h r) : tr_L g d m_L_adds 65 [some (.ref 1000), some (.int x1), w2, some (.int x3), some (.int x4), some (.int x5), w6] [.int s0] h r := by
  refine tr_ic 1 1 (by decide) rfl ?_
  refine tr_s .isub 1 67 [some (.ref 1000), some (.int x1), w2, some (.int x3), some (.int x4), some (.int x5), w6] [.int (s0 - 1)] h rfl rfl rfl ?_
  refine tr_st (.istore 6) 2 6 0 (.int (s0 - 1)) rfl rfl rfl rfl rfl rfl rfl ?_
  refine tr_inc 5 1 x5 1 (by decide) rfl rfl rfl ?_
  refine tr_goto (-44) 28 rfl rfl rfl ?_
  exact k
theorem sg_L_adds_75 {g : tr_g} {d : Nat} {h : ev_AH} {r : ev_O × ev_AH} {x1 x3 x4 x5 v0 : Int32} {w2 w6 : Option Value} {h1 : ev_AH} (hL : hh_L h) (c_0 : tr_L g d m_L_addCat 0 [some (.ref 1000), some (.int x1), some (.int (((97 + x3).toUInt32 % 65536).toInt32)), some (.int (((97 + x4).toUInt32 % 65536).toInt32)), some (.int (((97 + x5).toUInt32 % 65536).toInt32)), none] [] h (.inl (some (.int v0)), h1)) (hr : r = (.inl (some (.int v0)), h1)) : tr_L g (d + 1) m_L_adds 75 [some (.ref 1000), some (.int x1), w2, some (.int x3), some (.int x4), some (.int x5), w6] [] h r := by
  refine tr_s (.aload_n 0) 1 76 [some (.ref 1000), some (.int x1), w2, some (.int x3), some (.int x4), some (.int x5), w6] [.ref 1000] h rfl rfl rfl ?_
  refine tr_s (.iload_n 1) 1 77 [some (.ref 1000), some (.int x1), w2, some (.int x3), some (.int x4), some (.int x5), w6] [.int x1, .ref 1000] h rfl rfl rfl ?_
  refine tr_bi 97 97 (by decide) rfl ?_
  refine tr_s (.iload_n 3) 1 80 [some (.ref 1000), some (.int x1), w2, some (.int x3), some (.int x4), some (.int x5), w6] [.int x3, .int 97, .int x1, .ref 1000] h rfl rfl rfl ?_
  refine tr_s .iadd 1 81 [some (.ref 1000), some (.int x1), w2, some (.int x3), some (.int x4), some (.int x5), w6] [.int (97 + x3), .int x1, .ref 1000] h rfl rfl rfl ?_
  refine tr_s .i2c 1 82 [some (.ref 1000), some (.int x1), w2, some (.int x3), some (.int x4), some (.int x5), w6] [.int (((97 + x3).toUInt32 % 65536).toInt32), .int x1, .ref 1000] h rfl rfl rfl ?_
  refine tr_bi 97 97 (by decide) rfl ?_
  refine tr_s (.iload 4) 2 86 [some (.ref 1000), some (.int x1), w2, some (.int x3), some (.int x4), some (.int x5), w6] [.int x4, .int 97, .int (((97 + x3).toUInt32 % 65536).toInt32), .int x1, .ref 1000] h rfl rfl rfl ?_
  refine tr_s .iadd 1 87 [some (.ref 1000), some (.int x1), w2, some (.int x3), some (.int x4), some (.int x5), w6] [.int (97 + x4), .int (((97 + x3).toUInt32 % 65536).toInt32), .int x1, .ref 1000] h rfl rfl rfl ?_
  refine tr_s .i2c 1 88 [some (.ref 1000), some (.int x1), w2, some (.int x3), some (.int x4), some (.int x5), w6] [.int (((97 + x4).toUInt32 % 65536).toInt32), .int (((97 + x3).toUInt32 % 65536).toInt32), .int x1, .ref 1000] h rfl rfl rfl ?_
  refine tr_bi 97 97 (by decide) rfl ?_
  refine tr_s (.iload 5) 2 92 [some (.ref 1000), some (.int x1), w2, some (.int x3), some (.int x4), some (.int x5), w6] [.int x5, .int 97, .int (((97 + x4).toUInt32 % 65536).toInt32), .int (((97 + x3).toUInt32 % 65536).toInt32), .int x1, .ref 1000] h rfl rfl rfl ?_
  refine tr_s .iadd 1 93 [some (.ref 1000), some (.int x1), w2, some (.int x3), some (.int x4), some (.int x5), w6] [.int (97 + x5), .int (((97 + x4).toUInt32 % 65536).toInt32), .int (((97 + x3).toUInt32 % 65536).toInt32), .int x1, .ref 1000] h rfl rfl rfl ?_
  refine tr_s .i2c 1 94 [some (.ref 1000), some (.int x1), w2, some (.int x3), some (.int x4), some (.int x5), w6] [.int (((97 + x5).toUInt32 % 65536).toInt32), .int (((97 + x4).toUInt32 % 65536).toInt32), .int (((97 + x3).toUInt32 % 65536).toInt32), .int x1, .ref 1000] h rfl rfl rfl ?_
  refine tr_call (.invokestatic 118) 118 8 5 0 m_L_addCat [.ref 1000, .int x1, .int (((97 + x3).toUInt32 % 65536).toInt32), .int (((97 + x4).toUInt32 % 65536).toInt32), .int (((97 + x5).toUInt32 % 65536).toInt32)] [] (some (.int v0)) h1 rfl rfl rfl rfl rfl rfl rfl rfl rfl (tr_cok rfl (Or.inl rfl)) c_0 ?_
  have hL0 := c_0.2
  exact tl_ret hL0 .ireturn 1 (some (.int v0)) rfl rfl rfl rfl hr
theorem sx_L_addCat_0_6_0 {g : tr_g} {d : Nat} {h : ev_AH} {r : ev_O × ev_AH} {x1 x2 x3 x4 v0 : Int32} {h1 hx : ev_AH} (hL : hh_L h) (cx : tr_L g d m_X8_addCat 0 [some (.ref 1000), some (.int x1), some (.int x2), some (.int x3), some (.int x4), none] [] h (.inr 0, hx)) (hr : r = (.inl (some (.int (-900001))), hx)) : tr_L g (d + 1) m_L_addCat 0 [some (.ref 1000), some (.int x1), some (.int x2), some (.int x3), some (.int x4), none] [] h r := by
  refine tr_s (.aload_n 0) 1 1 [some (.ref 1000), some (.int x1), some (.int x2), some (.int x3), some (.int x4), none] [.ref 1000] h rfl rfl rfl ?_
  refine tr_s (.iload_n 1) 1 2 [some (.ref 1000), some (.int x1), some (.int x2), some (.int x3), some (.int x4), none] [.int x1, .ref 1000] h rfl rfl rfl ?_
  refine tr_s (.iload_n 2) 1 3 [some (.ref 1000), some (.int x1), some (.int x2), some (.int x3), some (.int x4), none] [.int x2, .int x1, .ref 1000] h rfl rfl rfl ?_
  refine tr_s (.iload_n 3) 1 4 [some (.ref 1000), some (.int x1), some (.int x2), some (.int x3), some (.int x4), none] [.int x3, .int x2, .int x1, .ref 1000] h rfl rfl rfl ?_
  refine tr_s (.iload 4) 2 6 [some (.ref 1000), some (.int x1), some (.int x2), some (.int x3), some (.int x4), none] [.int x4, .int x3, .int x2, .int x1, .ref 1000] h rfl rfl rfl ?_
  refine tr_callh (.invokevirtual 9) 9 0 4 0 m_X8_addCat [.ref 1000, .int x1, .int x2, .int x3, .int x4] [] 0 12 5 hx rfl rfl rfl rfl rfl rfl rfl rfl rfl (tr_cok rfl (Or.inr ⟨_, _, rfl, tr_rc (hh_rd (hh_obj hL (k := 0) rfl).1) (by decide)⟩)) rfl rfl cx ?_
  refine tr_s (.ldc 17) 2 14 _ [.int (-900001)] hx rfl rfl rfl ?_
  exact tl_ret cx.2 .ireturn 1 (some (.int (-900001))) rfl rfl rfl rfl hr
theorem sx_L_addCat_0_6_1 {g : tr_g} {d : Nat} {h : ev_AH} {r : ev_O × ev_AH} {x1 x2 x3 x4 v0 : Int32} {h1 hx : ev_AH} (hL : hh_L h) (cx : tr_L g d m_X8_addCat 0 [some (.ref 1000), some (.int x1), some (.int x2), some (.int x3), some (.int x4), none] [] h (.inr 1, hx)) (hr : r = (.inl (some (.int (-900002))), hx)) : tr_L g (d + 1) m_L_addCat 0 [some (.ref 1000), some (.int x1), some (.int x2), some (.int x3), some (.int x4), none] [] h r := by
  refine tr_s (.aload_n 0) 1 1 [some (.ref 1000), some (.int x1), some (.int x2), some (.int x3), some (.int x4), none] [.ref 1000] h rfl rfl rfl ?_
  refine tr_s (.iload_n 1) 1 2 [some (.ref 1000), some (.int x1), some (.int x2), some (.int x3), some (.int x4), none] [.int x1, .ref 1000] h rfl rfl rfl ?_
  refine tr_s (.iload_n 2) 1 3 [some (.ref 1000), some (.int x1), some (.int x2), some (.int x3), some (.int x4), none] [.int x2, .int x1, .ref 1000] h rfl rfl rfl ?_
  refine tr_s (.iload_n 3) 1 4 [some (.ref 1000), some (.int x1), some (.int x2), some (.int x3), some (.int x4), none] [.int x3, .int x2, .int x1, .ref 1000] h rfl rfl rfl ?_
  refine tr_s (.iload 4) 2 6 [some (.ref 1000), some (.int x1), some (.int x2), some (.int x3), some (.int x4), none] [.int x4, .int x3, .int x2, .int x1, .ref 1000] h rfl rfl rfl ?_
  refine tr_callh (.invokevirtual 9) 9 0 4 0 m_X8_addCat [.ref 1000, .int x1, .int x2, .int x3, .int x4] [] 1 17 5 hx rfl rfl rfl rfl rfl rfl rfl rfl rfl (tr_cok rfl (Or.inr ⟨_, _, rfl, tr_rc (hh_rd (hh_obj hL (k := 0) rfl).1) (by decide)⟩)) rfl rfl cx ?_
  refine tr_s (.ldc 20) 2 19 _ [.int (-900002)] hx rfl rfl rfl ?_
  exact tl_ret cx.2 .ireturn 1 (some (.int (-900002))) rfl rfl rfl rfl hr
theorem sx_L_addCat_0_6_2 {g : tr_g} {d : Nat} {h : ev_AH} {r : ev_O × ev_AH} {x1 x2 x3 x4 v0 : Int32} {h1 hx : ev_AH} (hL : hh_L h) (cx : tr_L g d m_X8_addCat 0 [some (.ref 1000), some (.int x1), some (.int x2), some (.int x3), some (.int x4), none] [] h (.inr 2, hx)) (hr : r = (.inl (some (.int (-900003))), hx)) : tr_L g (d + 1) m_L_addCat 0 [some (.ref 1000), some (.int x1), some (.int x2), some (.int x3), some (.int x4), none] [] h r := by
  refine tr_s (.aload_n 0) 1 1 [some (.ref 1000), some (.int x1), some (.int x2), some (.int x3), some (.int x4), none] [.ref 1000] h rfl rfl rfl ?_
  refine tr_s (.iload_n 1) 1 2 [some (.ref 1000), some (.int x1), some (.int x2), some (.int x3), some (.int x4), none] [.int x1, .ref 1000] h rfl rfl rfl ?_
  refine tr_s (.iload_n 2) 1 3 [some (.ref 1000), some (.int x1), some (.int x2), some (.int x3), some (.int x4), none] [.int x2, .int x1, .ref 1000] h rfl rfl rfl ?_
  refine tr_s (.iload_n 3) 1 4 [some (.ref 1000), some (.int x1), some (.int x2), some (.int x3), some (.int x4), none] [.int x3, .int x2, .int x1, .ref 1000] h rfl rfl rfl ?_
  refine tr_s (.iload 4) 2 6 [some (.ref 1000), some (.int x1), some (.int x2), some (.int x3), some (.int x4), none] [.int x4, .int x3, .int x2, .int x1, .ref 1000] h rfl rfl rfl ?_
  refine tr_callh (.invokevirtual 9) 9 0 4 0 m_X8_addCat [.ref 1000, .int x1, .int x2, .int x3, .int x4] [] 2 22 5 hx rfl rfl rfl rfl rfl rfl rfl rfl rfl (tr_cok rfl (Or.inr ⟨_, _, rfl, tr_rc (hh_rd (hh_obj hL (k := 0) rfl).1) (by decide)⟩)) rfl rfl cx ?_
  refine tr_s (.ldc 23) 2 24 _ [.int (-900003)] hx rfl rfl rfl ?_
  exact tl_ret cx.2 .ireturn 1 (some (.int (-900003))) rfl rfl rfl rfl hr
theorem sg_L_addCat_0 {g : tr_g} {d : Nat} {h : ev_AH} {r : ev_O × ev_AH} {x1 x2 x3 x4 v0 : Int32} {h1 : ev_AH} (hL : hh_L h) (c_0 : tr_L g d m_X8_addCat 0 [some (.ref 1000), some (.int x1), some (.int x2), some (.int x3), some (.int x4), none] [] h (.inl (some (.int v0)), h1)) (hr : r = (.inl (some (.int v0)), h1)) : tr_L g (d + 1) m_L_addCat 0 [some (.ref 1000), some (.int x1), some (.int x2), some (.int x3), some (.int x4), none] [] h r := by
  refine tr_s (.aload_n 0) 1 1 [some (.ref 1000), some (.int x1), some (.int x2), some (.int x3), some (.int x4), none] [.ref 1000] h rfl rfl rfl ?_
  refine tr_s (.iload_n 1) 1 2 [some (.ref 1000), some (.int x1), some (.int x2), some (.int x3), some (.int x4), none] [.int x1, .ref 1000] h rfl rfl rfl ?_
  refine tr_s (.iload_n 2) 1 3 [some (.ref 1000), some (.int x1), some (.int x2), some (.int x3), some (.int x4), none] [.int x2, .int x1, .ref 1000] h rfl rfl rfl ?_
  refine tr_s (.iload_n 3) 1 4 [some (.ref 1000), some (.int x1), some (.int x2), some (.int x3), some (.int x4), none] [.int x3, .int x2, .int x1, .ref 1000] h rfl rfl rfl ?_
  refine tr_s (.iload 4) 2 6 [some (.ref 1000), some (.int x1), some (.int x2), some (.int x3), some (.int x4), none] [.int x4, .int x3, .int x2, .int x1, .ref 1000] h rfl rfl rfl ?_
  refine tr_call (.invokevirtual 9) 9 0 4 0 m_X8_addCat [.ref 1000, .int x1, .int x2, .int x3, .int x4] [] (some (.int v0)) h1 rfl rfl rfl rfl rfl rfl rfl rfl rfl (tr_cok rfl (Or.inr ⟨_, _, rfl, tr_rc (hh_rd (hh_obj hL (k := 0) rfl).1) (by decide)⟩)) c_0 ?_
  have hL0 := c_0.2
  exact tl_ret hL0 .ireturn 1 (some (.int v0)) rfl rfl rfl rfl hr
set_option maxRecDepth 20000 in
theorem sg_L_begun_8 {g : tr_g} {d : Nat} {h : ev_AH} {r : ev_O × ev_AH} {w2 w3 : Option Value} (hL : hh_L h) (k : tr_L g d m_L_begun 12 [some (.ref 0), some (.ref 1000), some (.int 0), some (.int 0)] [] h r) : tr_L g d m_L_begun 8 [some (.ref 0), some (.ref 1000), w2, w3] [] h r := by
  refine tr_ic 0 0 (by decide) rfl ?_
  refine tr_st (.istore_n 2) 1 2 0 (.int 0) rfl rfl rfl rfl rfl rfl rfl ?_
  refine tr_ic 0 0 (by decide) rfl ?_
  refine tr_st (.istore_n 3) 1 3 0 (.int 0) rfl rfl rfl rfl rfl rfl rfl ?_
  exact k
set_option maxRecDepth 20000 in
theorem sg_L_begun_12 {g : tr_g} {d : Nat} {h : ev_AH} {r : ev_O × ev_AH} {x2 x3 v0 : Int32} {h1 : ev_AH} (hL : hh_L h) (c_0 : tr_L g d m_L_in 0 [some (.ref 0), some (.int 0), some (.int 12)] [] h (.inl (some (.int v0)), h1)) (t : (3 + v0) ≤ x3 → tr_L g (d + 1) m_L_begun 66 [some (.ref 0), some (.ref 1000), some (.int x2), some (.int x3)] [] h1 r) (f : x3 < (3 + v0) → tr_L g (d + 1) m_L_begun 25 [some (.ref 0), some (.ref 1000), some (.int x2), some (.int x3)] [] h1 r) : tr_L g (d + 1) m_L_begun 12 [some (.ref 0), some (.ref 1000), some (.int x2), some (.int x3)] [] h r := by
  refine tr_s (.iload_n 3) 1 13 [some (.ref 0), some (.ref 1000), some (.int x2), some (.int x3)] [.int x3] h rfl rfl rfl ?_
  refine tr_ic 3 3 (by decide) rfl ?_
  refine tr_s (.aload_n 0) 1 15 [some (.ref 0), some (.ref 1000), some (.int x2), some (.int x3)] [.ref 0, .int 3, .int x3] h rfl rfl rfl ?_
  refine tr_ic 0 0 (by decide) rfl ?_
  refine tr_bi 12 12 (by decide) rfl ?_
  refine tr_call (.invokestatic 122) 122 2 3 0 m_L_in [.ref 0, .int 0, .int 12] [.int 3, .int x3] (some (.int v0)) h1 rfl rfl rfl rfl rfl rfl rfl rfl rfl (tr_cok rfl (Or.inl rfl)) c_0 ?_
  have hL0 := c_0.2
  refine tr_s .iadd 1 22 [some (.ref 0), some (.ref 1000), some (.int x2), some (.int x3)] [.int (3 + v0), .int x3] h1 rfl rfl rfl ?_
  exact tr_if2 .ge 44 66 x3 (3 + v0) rfl rfl rfl (fun hc => t ((tr_ge hc).1 rfl)) (fun hc => f ((tr_ge hc).2 rfl))
set_option maxRecDepth 20000 in
theorem sg_L_begun_25 {g : tr_g} {d : Nat} {h : ev_AH} {r : ev_O × ev_AH} {x2 x3 v0 v1 : Int32} {h1 h2 : ev_AH} (hL : hh_L h) (c_0 : tr_L g d m_L_in 0 [some (.ref 0), some (.int (1 + x3)), some (.int 35)] [] h (.inl (some (.int v0)), h1)) (c_1 : tr_L g d m_L_in 0 [some (.ref 0), some (.int (16 + x3)), some (.int 2)] [] h1 (.inl (some (.int v1)), h2)) (t : v1 ≠ 0 → tr_L g (d + 1) m_L_begun 53 [some (.ref 0), some (.ref 1000), some (.int x2), some (.int x3)] [.int v0, .ref 1000, .int x2] h2 r) (f : v1 = 0 → tr_L g (d + 1) m_L_begun 48 [some (.ref 0), some (.ref 1000), some (.int x2), some (.int x3)] [.int v0, .ref 1000, .int x2] h2 r) : tr_L g (d + 1) m_L_begun 25 [some (.ref 0), some (.ref 1000), some (.int x2), some (.int x3)] [] h r := by
  refine tr_s (.iload_n 2) 1 26 [some (.ref 0), some (.ref 1000), some (.int x2), some (.int x3)] [.int x2] h rfl rfl rfl ?_
  refine tr_s (.aload_n 1) 1 27 [some (.ref 0), some (.ref 1000), some (.int x2), some (.int x3)] [.ref 1000, .int x2] h rfl rfl rfl ?_
  refine tr_s (.aload_n 0) 1 28 [some (.ref 0), some (.ref 1000), some (.int x2), some (.int x3)] [.ref 0, .ref 1000, .int x2] h rfl rfl rfl ?_
  refine tr_ic 1 1 (by decide) rfl ?_
  refine tr_s (.iload_n 3) 1 30 [some (.ref 0), some (.ref 1000), some (.int x2), some (.int x3)] [.int x3, .int 1, .ref 0, .ref 1000, .int x2] h rfl rfl rfl ?_
  refine tr_s .iadd 1 31 [some (.ref 0), some (.ref 1000), some (.int x2), some (.int x3)] [.int (1 + x3), .ref 0, .ref 1000, .int x2] h rfl rfl rfl ?_
  refine tr_bi 35 35 (by decide) rfl ?_
  refine tr_call (.invokestatic 122) 122 2 3 0 m_L_in [.ref 0, .int (1 + x3), .int 35] [.ref 1000, .int x2] (some (.int v0)) h1 rfl rfl rfl rfl rfl rfl rfl rfl rfl (tr_cok rfl (Or.inl rfl)) c_0 ?_
  have hL0 := c_0.2
  refine tr_s (.aload_n 0) 1 37 [some (.ref 0), some (.ref 1000), some (.int x2), some (.int x3)] [.ref 0, .int v0, .ref 1000, .int x2] h1 rfl rfl rfl ?_
  refine tr_bi 16 16 (by decide) rfl ?_
  refine tr_s (.iload_n 3) 1 40 [some (.ref 0), some (.ref 1000), some (.int x2), some (.int x3)] [.int x3, .int 16, .ref 0, .int v0, .ref 1000, .int x2] h1 rfl rfl rfl ?_
  refine tr_s .iadd 1 41 [some (.ref 0), some (.ref 1000), some (.int x2), some (.int x3)] [.int (16 + x3), .ref 0, .int v0, .ref 1000, .int x2] h1 rfl rfl rfl ?_
  refine tr_ic 2 2 (by decide) rfl ?_
  refine tr_call (.invokestatic 122) 122 2 3 0 m_L_in [.ref 0, .int (16 + x3), .int 2] [.int v0, .ref 1000, .int x2] (some (.int v1)) h2 rfl rfl rfl rfl rfl rfl rfl rfl rfl (tr_cok rfl (Or.inl rfl)) c_1 ?_
  have hL1 := c_1.2
  exact tr_if1 .ne 8 53 v1 rfl rfl rfl (fun hc => t ((tr_ne hc).1 rfl)) (fun hc => f ((tr_ne hc).2 rfl))
set_option maxRecDepth 20000 in
theorem sg_L_begun_48 {g : tr_g} {d : Nat} {h : ev_AH} {r : ev_O × ev_AH} {w2 : Option Value} {x3 s0 s2 v0 : Int32} {h1 : ev_AH} (hL : hh_L h) (c_0 : tr_L g d m_L_setMirror 0 [some (.ref 1000), some (.int s2), some (.int 47), none] [] h (.inl (some (.int v0)), h1)) (k : tr_L g (d + 1) m_L_begun 12 [some (.ref 0), some (.ref 1000), some (.int (s0 + v0)), some (.int (x3 + 1))] [] h1 r) : tr_L g (d + 1) m_L_begun 48 [some (.ref 0), some (.ref 1000), w2, some (.int x3)] [.int s2, .ref 1000, .int s0] h r := by
  refine tr_bi 47 47 (by decide) rfl ?_
  refine tr_goto 5 55 rfl rfl rfl ?_
  refine tr_call (.invokestatic 126) 126 8 3 0 m_L_setMirror [.ref 1000, .int s2, .int 47] [.int s0] (some (.int v0)) h1 rfl rfl rfl rfl rfl rfl rfl rfl rfl (tr_cok rfl (Or.inl rfl)) c_0 ?_
  have hL0 := c_0.2
  refine tr_s .iadd 1 59 [some (.ref 0), some (.ref 1000), w2, some (.int x3)] [.int (s0 + v0)] h1 rfl rfl rfl ?_
  refine tr_st (.istore_n 2) 1 2 0 (.int (s0 + v0)) rfl rfl rfl rfl rfl rfl rfl ?_
  refine tr_inc 3 1 x3 1 (by decide) rfl rfl rfl ?_
  refine tr_goto (-51) 12 rfl rfl rfl ?_
  exact k
set_option maxRecDepth 20000 in
theorem sg_L_begun_53 {g : tr_g} {d : Nat} {h : ev_AH} {r : ev_O × ev_AH} {w2 : Option Value} {x3 s0 s2 v0 : Int32} {h1 : ev_AH} (hL : hh_L h) (c_0 : tr_L g d m_L_setMirror 0 [some (.ref 1000), some (.int s2), some (.int 92), none] [] h (.inl (some (.int v0)), h1)) (k : tr_L g (d + 1) m_L_begun 12 [some (.ref 0), some (.ref 1000), some (.int (s0 + v0)), some (.int (x3 + 1))] [] h1 r) : tr_L g (d + 1) m_L_begun 53 [some (.ref 0), some (.ref 1000), w2, some (.int x3)] [.int s2, .ref 1000, .int s0] h r := by
  refine tr_bi 92 92 (by decide) rfl ?_
  refine tr_call (.invokestatic 126) 126 8 3 0 m_L_setMirror [.ref 1000, .int s2, .int 92] [.int s0] (some (.int v0)) h1 rfl rfl rfl rfl rfl rfl rfl rfl rfl (tr_cok rfl (Or.inl rfl)) c_0 ?_
  have hL0 := c_0.2
  refine tr_s .iadd 1 59 [some (.ref 0), some (.ref 1000), w2, some (.int x3)] [.int (s0 + v0)] h1 rfl rfl rfl ?_
  refine tr_st (.istore_n 2) 1 2 0 (.int (s0 + v0)) rfl rfl rfl rfl rfl rfl rfl ?_
  refine tr_inc 3 1 x3 1 (by decide) rfl rfl rfl ?_
  refine tr_goto (-51) 12 rfl rfl rfl ?_
  exact k
set_option maxRecDepth 20000 in
theorem sg_L_begun_66 {g : tr_g} {d : Nat} {h : ev_AH} {r : ev_O × ev_AH} {x2 : Int32} {w3 : Option Value} (hL : hh_L h) (k : tr_L g d m_L_begun 68 [some (.ref 0), some (.ref 1000), some (.int x2), some (.int 0)] [] h r) : tr_L g d m_L_begun 66 [some (.ref 0), some (.ref 1000), some (.int x2), w3] [] h r := by
  refine tr_ic 0 0 (by decide) rfl ?_
  refine tr_st (.istore_n 3) 1 3 0 (.int 0) rfl rfl rfl rfl rfl rfl rfl ?_
  exact k
set_option maxRecDepth 20000 in
theorem sg_L_begun_68 {g : tr_g} {d : Nat} {h : ev_AH} {r : ev_O × ev_AH} {x2 x3 v0 : Int32} {h1 : ev_AH} (hL : hh_L h) (c_0 : tr_L g d m_L_in 0 [some (.ref 0), some (.int 31), some (.int 6)] [] h (.inl (some (.int v0)), h1)) (t : (1 + v0) ≤ x3 → tr_L g (d + 1) m_L_begun 115 [some (.ref 0), some (.ref 1000), some (.int x2), some (.int x3)] [] h1 r) (f : x3 < (1 + v0) → tr_L g (d + 1) m_L_begun 82 [some (.ref 0), some (.ref 1000), some (.int x2), some (.int x3)] [] h1 r) : tr_L g (d + 1) m_L_begun 68 [some (.ref 0), some (.ref 1000), some (.int x2), some (.int x3)] [] h r := by
  refine tr_s (.iload_n 3) 1 69 [some (.ref 0), some (.ref 1000), some (.int x2), some (.int x3)] [.int x3] h rfl rfl rfl ?_
  refine tr_ic 1 1 (by decide) rfl ?_
  refine tr_s (.aload_n 0) 1 71 [some (.ref 0), some (.ref 1000), some (.int x2), some (.int x3)] [.ref 0, .int 1, .int x3] h rfl rfl rfl ?_
  refine tr_bi 31 31 (by decide) rfl ?_
  refine tr_bi 6 6 (by decide) rfl ?_
  refine tr_call (.invokestatic 122) 122 2 3 0 m_L_in [.ref 0, .int 31, .int 6] [.int 1, .int x3] (some (.int v0)) h1 rfl rfl rfl rfl rfl rfl rfl rfl rfl (tr_cok rfl (Or.inl rfl)) c_0 ?_
  have hL0 := c_0.2
  refine tr_s .iadd 1 79 [some (.ref 0), some (.ref 1000), some (.int x2), some (.int x3)] [.int (1 + v0), .int x3] h1 rfl rfl rfl ?_
  exact tr_if2 .ge 36 115 x3 (1 + v0) rfl rfl rfl (fun hc => t ((tr_ge hc).1 rfl)) (fun hc => f ((tr_ge hc).2 rfl))
set_option maxRecDepth 20000 in
theorem sg_L_begun_82 {g : tr_g} {d : Nat} {h : ev_AH} {r : ev_O × ev_AH} {x2 x3 v0 v1 v2 : Int32} {h1 h2 h3 : ev_AH} (hL : hh_L h) (c_0 : tr_L g d m_L_in 0 [some (.ref 0), some (.int (32 + x3)), some (.int 35)] [] h (.inl (some (.int v0)), h1)) (c_1 : tr_L g d m_L_in 0 [some (.ref 0), some (.int (39 + x3)), some (.int 24)] [] h1 (.inl (some (.int v1)), h2)) (c_2 : tr_L g d m_L_adds 0 [some (.ref 1000), some (.int v0), some (.int v1), none, none, none, none] [] h2 (.inl (some (.int v2)), h3)) (k : tr_L g (d + 1) m_L_begun 68 [some (.ref 0), some (.ref 1000), some (.int (x2 + v2)), some (.int (x3 + 1))] [] h3 r) : tr_L g (d + 1) m_L_begun 82 [some (.ref 0), some (.ref 1000), some (.int x2), some (.int x3)] [] h r := by
  refine tr_s (.iload_n 2) 1 83 [some (.ref 0), some (.ref 1000), some (.int x2), some (.int x3)] [.int x2] h rfl rfl rfl ?_
  refine tr_s (.aload_n 1) 1 84 [some (.ref 0), some (.ref 1000), some (.int x2), some (.int x3)] [.ref 1000, .int x2] h rfl rfl rfl ?_
  refine tr_s (.aload_n 0) 1 85 [some (.ref 0), some (.ref 1000), some (.int x2), some (.int x3)] [.ref 0, .ref 1000, .int x2] h rfl rfl rfl ?_
  refine tr_bi 32 32 (by decide) rfl ?_
  refine tr_s (.iload_n 3) 1 88 [some (.ref 0), some (.ref 1000), some (.int x2), some (.int x3)] [.int x3, .int 32, .ref 0, .ref 1000, .int x2] h rfl rfl rfl ?_
  refine tr_s .iadd 1 89 [some (.ref 0), some (.ref 1000), some (.int x2), some (.int x3)] [.int (32 + x3), .ref 0, .ref 1000, .int x2] h rfl rfl rfl ?_
  refine tr_bi 35 35 (by decide) rfl ?_
  refine tr_call (.invokestatic 122) 122 2 3 0 m_L_in [.ref 0, .int (32 + x3), .int 35] [.ref 1000, .int x2] (some (.int v0)) h1 rfl rfl rfl rfl rfl rfl rfl rfl rfl (tr_cok rfl (Or.inl rfl)) c_0 ?_
  have hL0 := c_0.2
  refine tr_s (.aload_n 0) 1 95 [some (.ref 0), some (.ref 1000), some (.int x2), some (.int x3)] [.ref 0, .int v0, .ref 1000, .int x2] h1 rfl rfl rfl ?_
  refine tr_bi 39 39 (by decide) rfl ?_
  refine tr_s (.iload_n 3) 1 98 [some (.ref 0), some (.ref 1000), some (.int x2), some (.int x3)] [.int x3, .int 39, .ref 0, .int v0, .ref 1000, .int x2] h1 rfl rfl rfl ?_
  refine tr_s .iadd 1 99 [some (.ref 0), some (.ref 1000), some (.int x2), some (.int x3)] [.int (39 + x3), .ref 0, .int v0, .ref 1000, .int x2] h1 rfl rfl rfl ?_
  refine tr_bi 24 24 (by decide) rfl ?_
  refine tr_call (.invokestatic 122) 122 2 3 0 m_L_in [.ref 0, .int (39 + x3), .int 24] [.int v0, .ref 1000, .int x2] (some (.int v1)) h2 rfl rfl rfl rfl rfl rfl rfl rfl rfl (tr_cok rfl (Or.inl rfl)) c_1 ?_
  have hL1 := c_1.2
  refine tr_call (.invokestatic 129) 129 2 3 0 m_L_adds [.ref 1000, .int v0, .int v1] [.int x2] (some (.int v2)) h3 rfl rfl rfl rfl rfl rfl rfl rfl rfl (tr_cok rfl (Or.inl rfl)) c_2 ?_
  have hL2 := c_2.2
  refine tr_s .iadd 1 108 [some (.ref 0), some (.ref 1000), some (.int x2), some (.int x3)] [.int (x2 + v2)] h3 rfl rfl rfl ?_
  refine tr_st (.istore_n 2) 1 2 0 (.int (x2 + v2)) rfl rfl rfl rfl rfl rfl rfl ?_
  refine tr_inc 3 1 x3 1 (by decide) rfl rfl rfl ?_
  refine tr_goto (-44) 68 rfl rfl rfl ?_
  exact k
set_option maxRecDepth 20000 in
theorem sg_L_begun_115 {g : tr_g} {d : Nat} {h : ev_AH} {r : ev_O × ev_AH} {x2 : Int32} {w3 : Option Value} (hL : hh_L h) (k : tr_L g d m_L_begun 117 [some (.ref 0), some (.ref 1000), some (.int x2), some (.int 0)] [] h r) : tr_L g d m_L_begun 115 [some (.ref 0), some (.ref 1000), some (.int x2), w3] [] h r := by
  refine tr_ic 0 0 (by decide) rfl ?_
  refine tr_st (.istore_n 3) 1 3 0 (.int 0) rfl rfl rfl rfl rfl rfl rfl ?_
  exact k
set_option maxRecDepth 20000 in
theorem sg_L_begun_117 {g : tr_g} {d : Nat} {h : ev_AH} {r : ev_O × ev_AH} {x2 x3 : Int32} (hL : hh_L h) (t : 4 ≤ x3 → tr_L g d m_L_begun 158 [some (.ref 0), some (.ref 1000), some (.int x2), some (.int x3)] [] h r) (f : x3 < 4 → tr_L g d m_L_begun 122 [some (.ref 0), some (.ref 1000), some (.int x2), some (.int x3)] [] h r) : tr_L g d m_L_begun 117 [some (.ref 0), some (.ref 1000), some (.int x2), some (.int x3)] [] h r := by
  refine tr_s (.iload_n 3) 1 118 [some (.ref 0), some (.ref 1000), some (.int x2), some (.int x3)] [.int x3] h rfl rfl rfl ?_
  refine tr_ic 4 4 (by decide) rfl ?_
  exact tr_if2 .ge 39 158 x3 4 rfl rfl rfl (fun hc => t ((tr_ge hc).1 rfl)) (fun hc => f ((tr_ge hc).2 rfl))
set_option maxRecDepth 20000 in
theorem sg_L_begun_122 {g : tr_g} {d : Nat} {h : ev_AH} {r : ev_O × ev_AH} {x2 x3 v0 v1 v2 : Int32} {h1 h2 h3 : ev_AH} (hL : hh_L h) (c_0 : tr_L g d m_L_in 0 [some (.ref 0), some (.int (46 + x3)), some (.int 24)] [] h (.inl (some (.int v0)), h1)) (c_1 : tr_L g d m_L_in 0 [some (.ref 0), some (.int (50 + x3)), some (.int 4)] [] h1 (.inl (some (.int v1)), h2)) (c_2 : tr_L g d m_L_testify 0 [some (.ref 1000), some (.int v0), some (.int (((97 + v1).toUInt32 % 65536).toInt32)), none] [] h2 (.inl (some (.int v2)), h3)) (k : tr_L g (d + 1) m_L_begun 117 [some (.ref 0), some (.ref 1000), some (.int (x2 + v2)), some (.int (x3 + 1))] [] h3 r) : tr_L g (d + 1) m_L_begun 122 [some (.ref 0), some (.ref 1000), some (.int x2), some (.int x3)] [] h r := by
  refine tr_s (.iload_n 2) 1 123 [some (.ref 0), some (.ref 1000), some (.int x2), some (.int x3)] [.int x2] h rfl rfl rfl ?_
  refine tr_s (.aload_n 1) 1 124 [some (.ref 0), some (.ref 1000), some (.int x2), some (.int x3)] [.ref 1000, .int x2] h rfl rfl rfl ?_
  refine tr_s (.aload_n 0) 1 125 [some (.ref 0), some (.ref 1000), some (.int x2), some (.int x3)] [.ref 0, .ref 1000, .int x2] h rfl rfl rfl ?_
  refine tr_bi 46 46 (by decide) rfl ?_
  refine tr_s (.iload_n 3) 1 128 [some (.ref 0), some (.ref 1000), some (.int x2), some (.int x3)] [.int x3, .int 46, .ref 0, .ref 1000, .int x2] h rfl rfl rfl ?_
  refine tr_s .iadd 1 129 [some (.ref 0), some (.ref 1000), some (.int x2), some (.int x3)] [.int (46 + x3), .ref 0, .ref 1000, .int x2] h rfl rfl rfl ?_
  refine tr_bi 24 24 (by decide) rfl ?_
  refine tr_call (.invokestatic 122) 122 2 3 0 m_L_in [.ref 0, .int (46 + x3), .int 24] [.ref 1000, .int x2] (some (.int v0)) h1 rfl rfl rfl rfl rfl rfl rfl rfl rfl (tr_cok rfl (Or.inl rfl)) c_0 ?_
  have hL0 := c_0.2
  refine tr_bi 97 97 (by decide) rfl ?_
  refine tr_s (.aload_n 0) 1 137 [some (.ref 0), some (.ref 1000), some (.int x2), some (.int x3)] [.ref 0, .int 97, .int v0, .ref 1000, .int x2] h1 rfl rfl rfl ?_
  refine tr_bi 50 50 (by decide) rfl ?_
  refine tr_s (.iload_n 3) 1 140 [some (.ref 0), some (.ref 1000), some (.int x2), some (.int x3)] [.int x3, .int 50, .ref 0, .int 97, .int v0, .ref 1000, .int x2] h1 rfl rfl rfl ?_
  refine tr_s .iadd 1 141 [some (.ref 0), some (.ref 1000), some (.int x2), some (.int x3)] [.int (50 + x3), .ref 0, .int 97, .int v0, .ref 1000, .int x2] h1 rfl rfl rfl ?_
  refine tr_ic 4 4 (by decide) rfl ?_
  refine tr_call (.invokestatic 122) 122 2 3 0 m_L_in [.ref 0, .int (50 + x3), .int 4] [.int 97, .int v0, .ref 1000, .int x2] (some (.int v1)) h2 rfl rfl rfl rfl rfl rfl rfl rfl rfl (tr_cok rfl (Or.inl rfl)) c_1 ?_
  have hL1 := c_1.2
  refine tr_s .iadd 1 146 [some (.ref 0), some (.ref 1000), some (.int x2), some (.int x3)] [.int (97 + v1), .int v0, .ref 1000, .int x2] h2 rfl rfl rfl ?_
  refine tr_s .i2c 1 147 [some (.ref 0), some (.ref 1000), some (.int x2), some (.int x3)] [.int (((97 + v1).toUInt32 % 65536).toInt32), .int v0, .ref 1000, .int x2] h2 rfl rfl rfl ?_
  refine tr_call (.invokestatic 133) 133 8 3 0 m_L_testify [.ref 1000, .int v0, .int (((97 + v1).toUInt32 % 65536).toInt32)] [.int x2] (some (.int v2)) h3 rfl rfl rfl rfl rfl rfl rfl rfl rfl (tr_cok rfl (Or.inl rfl)) c_2 ?_
  have hL2 := c_2.2
  refine tr_s .iadd 1 151 [some (.ref 0), some (.ref 1000), some (.int x2), some (.int x3)] [.int (x2 + v2)] h3 rfl rfl rfl ?_
  refine tr_st (.istore_n 2) 1 2 0 (.int (x2 + v2)) rfl rfl rfl rfl rfl rfl rfl ?_
  refine tr_inc 3 1 x3 1 (by decide) rfl rfl rfl ?_
  refine tr_goto (-38) 117 rfl rfl rfl ?_
  exact k
set_option maxRecDepth 20000 in
theorem sg_L_begun_158 {g : tr_g} {d : Nat} {h : ev_AH} {r : ev_O × ev_AH} {x2 v0 v1 v2 v3 : Int32} {w3 : Option Value} {h1 h2 h3 h4 : ev_AH} (hL : hh_L h) (c_0 : tr_L g d m_L_in 0 [some (.ref 0), some (.int 54), some (.int 3)] [] h (.inl (some (.int v0)), h1)) (c_1 : tr_L g d m_J0_charAt_5068e 0 [some (.ref 25), some (.int v0)] [] h1 (.inl (some (.int v1)), h2)) (c_2 : tr_L g d m_L_setMethod 0 [some (.ref 1000), some (.int v1), none] [] h2 (.inl (some (.int v2)), h3)) (c_3 : tr_L g d m_L_deliberate 0 [some (.ref 1000), none] [] h3 (.inl (some (.int v3)), h4)) (t : (-90000000) ≤ (x2 + (v2 + v3)) → tr_L g (d + 1) m_L_begun 192 [some (.ref 0), some (.ref 1000), some (.int (x2 + (v2 + v3))), w3] [] h4 r) (f : (x2 + (v2 + v3)) < (-90000000) → tr_L g (d + 1) m_L_begun 188 [some (.ref 0), some (.ref 1000), some (.int (x2 + (v2 + v3))), w3] [] h4 r) : tr_L g (d + 1) m_L_begun 158 [some (.ref 0), some (.ref 1000), some (.int x2), w3] [] h r := by
  refine tr_s (.iload_n 2) 1 159 [some (.ref 0), some (.ref 1000), some (.int x2), w3] [.int x2] h rfl rfl rfl ?_
  refine tr_s (.aload_n 1) 1 160 [some (.ref 0), some (.ref 1000), some (.int x2), w3] [.ref 1000, .int x2] h rfl rfl rfl ?_
  refine tr_s (.ldc 135) 2 162 [some (.ref 0), some (.ref 1000), some (.int x2), w3] [.ref 25, .ref 1000, .int x2] h rfl rfl rfl ?_
  refine tr_s (.aload_n 0) 1 163 [some (.ref 0), some (.ref 1000), some (.int x2), w3] [.ref 0, .ref 25, .ref 1000, .int x2] h rfl rfl rfl ?_
  refine tr_bi 54 54 (by decide) rfl ?_
  refine tr_ic 3 3 (by decide) rfl ?_
  refine tr_call (.invokestatic 122) 122 2 3 0 m_L_in [.ref 0, .int 54, .int 3] [.ref 25, .ref 1000, .int x2] (some (.int v0)) h1 rfl rfl rfl rfl rfl rfl rfl rfl rfl (tr_cok rfl (Or.inl rfl)) c_0 ?_
  have hL0 := c_0.2
  refine tr_call (.invokevirtual 107) 107 0 1 8 m_J0_charAt_5068e [.ref 25, .int v0] [.ref 1000, .int x2] (some (.int v1)) h2 rfl rfl rfl rfl rfl rfl rfl rfl rfl (tr_cok rfl (Or.inr ⟨_, _, rfl, rfl⟩)) c_1 ?_
  have hL1 := c_1.2
  refine tr_call (.invokestatic 137) 137 8 2 0 m_L_setMethod [.ref 1000, .int v1] [.int x2] (some (.int v2)) h3 rfl rfl rfl rfl rfl rfl rfl rfl rfl (tr_cok rfl (Or.inl rfl)) c_2 ?_
  have hL2 := c_2.2
  refine tr_s (.aload_n 1) 1 176 [some (.ref 0), some (.ref 1000), some (.int x2), w3] [.ref 1000, .int v2, .int x2] h3 rfl rfl rfl ?_
  refine tr_call (.invokestatic 140) 140 8 1 0 m_L_deliberate [.ref 1000] [.int v2, .int x2] (some (.int v3)) h4 rfl rfl rfl rfl rfl rfl rfl rfl rfl (tr_cok rfl (Or.inl rfl)) c_3 ?_
  have hL3 := c_3.2
  refine tr_s .iadd 1 180 [some (.ref 0), some (.ref 1000), some (.int x2), w3] [.int (v2 + v3), .int x2] h4 rfl rfl rfl ?_
  refine tr_s .iadd 1 181 [some (.ref 0), some (.ref 1000), some (.int x2), w3] [.int (x2 + (v2 + v3))] h4 rfl rfl rfl ?_
  refine tr_st (.istore_n 2) 1 2 0 (.int (x2 + (v2 + v3))) rfl rfl rfl rfl rfl rfl rfl ?_
  refine tr_s (.iload_n 2) 1 183 [some (.ref 0), some (.ref 1000), some (.int (x2 + (v2 + v3))), w3] [.int (x2 + (v2 + v3))] h4 rfl rfl rfl ?_
  refine tr_s (.ldc 142) 2 185 [some (.ref 0), some (.ref 1000), some (.int (x2 + (v2 + v3))), w3] [.int (-90000000), .int (x2 + (v2 + v3))] h4 rfl rfl rfl ?_
  exact tr_if2 .ge 7 192 (x2 + (v2 + v3)) (-90000000) rfl rfl rfl (fun hc => t ((tr_ge hc).1 rfl)) (fun hc => f ((tr_ge hc).2 rfl))
set_option maxRecDepth 20000 in
theorem sg_L_begun_188 {g : tr_g} {d : Nat} {h : ev_AH} {r : ev_O × ev_AH} {w0 w1 w2 w3 : Option Value} (hL : hh_L h) (hr : r = (.inl (some (.null)), h)) : tr_L g d m_L_begun 188 [w0, w1, w2, w3] [] h r := by
  refine tr_s .aconst_null 1 189 [w0, w1, w2, w3] [.null] h rfl rfl rfl ?_
  refine tr_goto 4 193 rfl rfl rfl ?_
  exact tl_ret hL .areturn 1 (some (.null)) rfl rfl rfl rfl hr
set_option maxRecDepth 20000 in
theorem sg_L_begun_192 {g : tr_g} {d : Nat} {h : ev_AH} {r : ev_O × ev_AH} {w0 w2 w3 : Option Value} (hL : hh_L h) (hr : r = (.inl (some (.ref 1000)), h)) : tr_L g d m_L_begun 192 [w0, some (.ref 1000), w2, w3] [] h r := by
  refine tr_s (.aload_n 1) 1 193 [w0, some (.ref 1000), w2, w3] [.ref 1000] h rfl rfl rfl ?_
  exact tl_ret hL .areturn 1 (some (.ref 1000)) rfl rfl rfl rfl hr
theorem sx_L_setMethod_0_2_1 {g : tr_g} {d : Nat} {h : ev_AH} {r : ev_O × ev_AH} {x1 v0 : Int32} {h1 hx : ev_AH} (hL : hh_L h) (cx : tr_L g d m_X8_setMethod 0 [some (.ref 1000), some (.int x1), none] [] h (.inr 1, hx)) (hr : r = (.inl (some (.int (-900001))), hx)) : tr_L g (d + 1) m_L_setMethod 0 [some (.ref 1000), some (.int x1), none] [] h r := by
  refine tr_s (.aload_n 0) 1 1 [some (.ref 1000), some (.int x1), none] [.ref 1000] h rfl rfl rfl ?_
  refine tr_s (.iload_n 1) 1 2 [some (.ref 1000), some (.int x1), none] [.int x1, .ref 1000] h rfl rfl rfl ?_
  refine tr_callh (.invokevirtual 78) 78 0 1 0 m_X8_setMethod [.ref 1000, .int x1] [] 1 7 2 hx rfl rfl rfl rfl rfl rfl rfl rfl rfl (tr_cok rfl (Or.inr ⟨_, _, rfl, tr_rc (hh_rd (hh_obj hL (k := 0) rfl).1) (by decide)⟩)) rfl rfl cx ?_
  refine tr_s (.ldc 17) 2 9 _ [.int (-900001)] hx rfl rfl rfl ?_
  exact tl_ret cx.2 .ireturn 1 (some (.int (-900001))) rfl rfl rfl rfl hr
theorem sg_L_setMethod_0 {g : tr_g} {d : Nat} {h : ev_AH} {r : ev_O × ev_AH} {x1 v0 : Int32} {h1 : ev_AH} (hL : hh_L h) (c_0 : tr_L g d m_X8_setMethod 0 [some (.ref 1000), some (.int x1), none] [] h (.inl (some (.int v0)), h1)) (hr : r = (.inl (some (.int v0)), h1)) : tr_L g (d + 1) m_L_setMethod 0 [some (.ref 1000), some (.int x1), none] [] h r := by
  refine tr_s (.aload_n 0) 1 1 [some (.ref 1000), some (.int x1), none] [.ref 1000] h rfl rfl rfl ?_
  refine tr_s (.iload_n 1) 1 2 [some (.ref 1000), some (.int x1), none] [.int x1, .ref 1000] h rfl rfl rfl ?_
  refine tr_call (.invokevirtual 78) 78 0 1 0 m_X8_setMethod [.ref 1000, .int x1] [] (some (.int v0)) h1 rfl rfl rfl rfl rfl rfl rfl rfl rfl (tr_cok rfl (Or.inr ⟨_, _, rfl, tr_rc (hh_rd (hh_obj hL (k := 0) rfl).1) (by decide)⟩)) c_0 ?_
  have hL0 := c_0.2
  exact tl_ret hL0 .ireturn 1 (some (.int v0)) rfl rfl rfl rfl hr
set_option maxRecDepth 20000 in
theorem sg_L_acts_0_t0 {g : tr_g} {d : Nat} {h : ev_AH} {r : ev_O × ev_AH} {x2 v0 v1 v2 v3 : Int32} {h1 h2 h3 h4 : ev_AH} (hL : hh_L h) (c_0 : tr_L g d m_L_in 0 [some (.ref 0), some (.int (x2 + 1)), some (.int 36)] [] h (.inl (some (.int v0)), h1)) (c_1 : tr_L g d m_L_in 0 [some (.ref 0), some (.int (x2 + 2)), some (.int 25)] [] h1 (.inl (some (.int v1)), h2)) (c_2 : tr_L g d m_L_in 0 [some (.ref 0), some (.int (x2 + 3)), some (.int 60)] [] h2 (.inl (some (.int v2)), h3)) (c_3 : tr_L g d m_L_in 0 [some (.ref 0), some (.int x2), some (.int 26)] [] h3 (.inl (some (.int v3)), h4)) (e : v3 = 0) (k : tr_L g (d + 1) m_L_acts 136 [some (.ref 1000), some (.ref 0), some (.int x2), some (.int v0), some (.int v1), some (.int v2)] [] h4 r) : tr_L g (d + 1) m_L_acts 0 [some (.ref 1000), some (.ref 0), some (.int x2), none, none, none] [] h r := by
  refine tr_s (.aload_n 1) 1 1 [some (.ref 1000), some (.ref 0), some (.int x2), none, none, none] [.ref 0] h rfl rfl rfl ?_
  refine tr_s (.iload_n 2) 1 2 [some (.ref 1000), some (.ref 0), some (.int x2), none, none, none] [.int x2, .ref 0] h rfl rfl rfl ?_
  refine tr_ic 1 1 (by decide) rfl ?_
  refine tr_s .iadd 1 4 [some (.ref 1000), some (.ref 0), some (.int x2), none, none, none] [.int (x2 + 1), .ref 0] h rfl rfl rfl ?_
  refine tr_bi 36 36 (by decide) rfl ?_
  refine tr_call (.invokestatic 122) 122 2 3 0 m_L_in [.ref 0, .int (x2 + 1), .int 36] [] (some (.int v0)) h1 rfl rfl rfl rfl rfl rfl rfl rfl rfl (tr_cok rfl (Or.inl rfl)) c_0 ?_
  have hL0 := c_0.2
  refine tr_st (.istore_n 3) 1 3 0 (.int v0) rfl rfl rfl rfl rfl rfl rfl ?_
  refine tr_s (.aload_n 1) 1 11 [some (.ref 1000), some (.ref 0), some (.int x2), some (.int v0), none, none] [.ref 0] h1 rfl rfl rfl ?_
  refine tr_s (.iload_n 2) 1 12 [some (.ref 1000), some (.ref 0), some (.int x2), some (.int v0), none, none] [.int x2, .ref 0] h1 rfl rfl rfl ?_
  refine tr_ic 2 2 (by decide) rfl ?_
  refine tr_s .iadd 1 14 [some (.ref 1000), some (.ref 0), some (.int x2), some (.int v0), none, none] [.int (x2 + 2), .ref 0] h1 rfl rfl rfl ?_
  refine tr_bi 25 25 (by decide) rfl ?_
  refine tr_call (.invokestatic 122) 122 2 3 0 m_L_in [.ref 0, .int (x2 + 2), .int 25] [] (some (.int v1)) h2 rfl rfl rfl rfl rfl rfl rfl rfl rfl (tr_cok rfl (Or.inl rfl)) c_1 ?_
  have hL1 := c_1.2
  refine tr_st (.istore 4) 2 4 0 (.int v1) rfl rfl rfl rfl rfl rfl rfl ?_
  refine tr_s (.aload_n 1) 1 22 [some (.ref 1000), some (.ref 0), some (.int x2), some (.int v0), some (.int v1), none] [.ref 0] h2 rfl rfl rfl ?_
  refine tr_s (.iload_n 2) 1 23 [some (.ref 1000), some (.ref 0), some (.int x2), some (.int v0), some (.int v1), none] [.int x2, .ref 0] h2 rfl rfl rfl ?_
  refine tr_ic 3 3 (by decide) rfl ?_
  refine tr_s .iadd 1 25 [some (.ref 1000), some (.ref 0), some (.int x2), some (.int v0), some (.int v1), none] [.int (x2 + 3), .ref 0] h2 rfl rfl rfl ?_
  refine tr_bi 60 60 (by decide) rfl ?_
  refine tr_call (.invokestatic 122) 122 2 3 0 m_L_in [.ref 0, .int (x2 + 3), .int 60] [] (some (.int v2)) h3 rfl rfl rfl rfl rfl rfl rfl rfl rfl (tr_cok rfl (Or.inl rfl)) c_2 ?_
  have hL2 := c_2.2
  refine tr_st (.istore 5) 2 5 0 (.int v2) rfl rfl rfl rfl rfl rfl rfl ?_
  refine tr_s (.aload_n 1) 1 33 [some (.ref 1000), some (.ref 0), some (.int x2), some (.int v0), some (.int v1), some (.int v2)] [.ref 0] h3 rfl rfl rfl ?_
  refine tr_s (.iload_n 2) 1 34 [some (.ref 1000), some (.ref 0), some (.int x2), some (.int v0), some (.int v1), some (.int v2)] [.int x2, .ref 0] h3 rfl rfl rfl ?_
  refine tr_bi 26 26 (by decide) rfl ?_
  refine tr_call (.invokestatic 122) 122 2 3 0 m_L_in [.ref 0, .int x2, .int 26] [] (some (.int v3)) h4 rfl rfl rfl rfl rfl rfl rfl rfl rfl (tr_cok rfl (Or.inl rfl)) c_3 ?_
  have hL3 := c_3.2
  exact tr_s (.tableswitch 210 0 20 #[97, 97, 97, 105, 131, 131, 131, 131, 131, 158, 158, 158, 158, 158, 186, 186, 200, 200, 200, 205, 205]) 97 136 [some (.ref 1000), some (.ref 0), some (.int x2), some (.int v0), some (.int v1), some (.int v2)] [] h4 rfl rfl (by rw [e]; rfl) k
set_option maxRecDepth 20000 in
theorem sg_L_acts_0_t1 {g : tr_g} {d : Nat} {h : ev_AH} {r : ev_O × ev_AH} {x2 v0 v1 v2 v3 : Int32} {h1 h2 h3 h4 : ev_AH} (hL : hh_L h) (c_0 : tr_L g d m_L_in 0 [some (.ref 0), some (.int (x2 + 1)), some (.int 36)] [] h (.inl (some (.int v0)), h1)) (c_1 : tr_L g d m_L_in 0 [some (.ref 0), some (.int (x2 + 2)), some (.int 25)] [] h1 (.inl (some (.int v1)), h2)) (c_2 : tr_L g d m_L_in 0 [some (.ref 0), some (.int (x2 + 3)), some (.int 60)] [] h2 (.inl (some (.int v2)), h3)) (c_3 : tr_L g d m_L_in 0 [some (.ref 0), some (.int x2), some (.int 26)] [] h3 (.inl (some (.int v3)), h4)) (e : v3 = 1) (k : tr_L g (d + 1) m_L_acts 136 [some (.ref 1000), some (.ref 0), some (.int x2), some (.int v0), some (.int v1), some (.int v2)] [] h4 r) : tr_L g (d + 1) m_L_acts 0 [some (.ref 1000), some (.ref 0), some (.int x2), none, none, none] [] h r := by
  refine tr_s (.aload_n 1) 1 1 [some (.ref 1000), some (.ref 0), some (.int x2), none, none, none] [.ref 0] h rfl rfl rfl ?_
  refine tr_s (.iload_n 2) 1 2 [some (.ref 1000), some (.ref 0), some (.int x2), none, none, none] [.int x2, .ref 0] h rfl rfl rfl ?_
  refine tr_ic 1 1 (by decide) rfl ?_
  refine tr_s .iadd 1 4 [some (.ref 1000), some (.ref 0), some (.int x2), none, none, none] [.int (x2 + 1), .ref 0] h rfl rfl rfl ?_
  refine tr_bi 36 36 (by decide) rfl ?_
  refine tr_call (.invokestatic 122) 122 2 3 0 m_L_in [.ref 0, .int (x2 + 1), .int 36] [] (some (.int v0)) h1 rfl rfl rfl rfl rfl rfl rfl rfl rfl (tr_cok rfl (Or.inl rfl)) c_0 ?_
  have hL0 := c_0.2
  refine tr_st (.istore_n 3) 1 3 0 (.int v0) rfl rfl rfl rfl rfl rfl rfl ?_
  refine tr_s (.aload_n 1) 1 11 [some (.ref 1000), some (.ref 0), some (.int x2), some (.int v0), none, none] [.ref 0] h1 rfl rfl rfl ?_
  refine tr_s (.iload_n 2) 1 12 [some (.ref 1000), some (.ref 0), some (.int x2), some (.int v0), none, none] [.int x2, .ref 0] h1 rfl rfl rfl ?_
  refine tr_ic 2 2 (by decide) rfl ?_
  refine tr_s .iadd 1 14 [some (.ref 1000), some (.ref 0), some (.int x2), some (.int v0), none, none] [.int (x2 + 2), .ref 0] h1 rfl rfl rfl ?_
  refine tr_bi 25 25 (by decide) rfl ?_
  refine tr_call (.invokestatic 122) 122 2 3 0 m_L_in [.ref 0, .int (x2 + 2), .int 25] [] (some (.int v1)) h2 rfl rfl rfl rfl rfl rfl rfl rfl rfl (tr_cok rfl (Or.inl rfl)) c_1 ?_
  have hL1 := c_1.2
  refine tr_st (.istore 4) 2 4 0 (.int v1) rfl rfl rfl rfl rfl rfl rfl ?_
  refine tr_s (.aload_n 1) 1 22 [some (.ref 1000), some (.ref 0), some (.int x2), some (.int v0), some (.int v1), none] [.ref 0] h2 rfl rfl rfl ?_
  refine tr_s (.iload_n 2) 1 23 [some (.ref 1000), some (.ref 0), some (.int x2), some (.int v0), some (.int v1), none] [.int x2, .ref 0] h2 rfl rfl rfl ?_
  refine tr_ic 3 3 (by decide) rfl ?_
  refine tr_s .iadd 1 25 [some (.ref 1000), some (.ref 0), some (.int x2), some (.int v0), some (.int v1), none] [.int (x2 + 3), .ref 0] h2 rfl rfl rfl ?_
  refine tr_bi 60 60 (by decide) rfl ?_
  refine tr_call (.invokestatic 122) 122 2 3 0 m_L_in [.ref 0, .int (x2 + 3), .int 60] [] (some (.int v2)) h3 rfl rfl rfl rfl rfl rfl rfl rfl rfl (tr_cok rfl (Or.inl rfl)) c_2 ?_
  have hL2 := c_2.2
  refine tr_st (.istore 5) 2 5 0 (.int v2) rfl rfl rfl rfl rfl rfl rfl ?_
  refine tr_s (.aload_n 1) 1 33 [some (.ref 1000), some (.ref 0), some (.int x2), some (.int v0), some (.int v1), some (.int v2)] [.ref 0] h3 rfl rfl rfl ?_
  refine tr_s (.iload_n 2) 1 34 [some (.ref 1000), some (.ref 0), some (.int x2), some (.int v0), some (.int v1), some (.int v2)] [.int x2, .ref 0] h3 rfl rfl rfl ?_
  refine tr_bi 26 26 (by decide) rfl ?_
  refine tr_call (.invokestatic 122) 122 2 3 0 m_L_in [.ref 0, .int x2, .int 26] [] (some (.int v3)) h4 rfl rfl rfl rfl rfl rfl rfl rfl rfl (tr_cok rfl (Or.inl rfl)) c_3 ?_
  have hL3 := c_3.2
  exact tr_s (.tableswitch 210 0 20 #[97, 97, 97, 105, 131, 131, 131, 131, 131, 158, 158, 158, 158, 158, 186, 186, 200, 200, 200, 205, 205]) 97 136 [some (.ref 1000), some (.ref 0), some (.int x2), some (.int v0), some (.int v1), some (.int v2)] [] h4 rfl rfl (by rw [e]; rfl) k
set_option maxRecDepth 20000 in
theorem sg_L_acts_0_t2 {g : tr_g} {d : Nat} {h : ev_AH} {r : ev_O × ev_AH} {x2 v0 v1 v2 v3 : Int32} {h1 h2 h3 h4 : ev_AH} (hL : hh_L h) (c_0 : tr_L g d m_L_in 0 [some (.ref 0), some (.int (x2 + 1)), some (.int 36)] [] h (.inl (some (.int v0)), h1)) (c_1 : tr_L g d m_L_in 0 [some (.ref 0), some (.int (x2 + 2)), some (.int 25)] [] h1 (.inl (some (.int v1)), h2)) (c_2 : tr_L g d m_L_in 0 [some (.ref 0), some (.int (x2 + 3)), some (.int 60)] [] h2 (.inl (some (.int v2)), h3)) (c_3 : tr_L g d m_L_in 0 [some (.ref 0), some (.int x2), some (.int 26)] [] h3 (.inl (some (.int v3)), h4)) (e : v3 = 2) (k : tr_L g (d + 1) m_L_acts 136 [some (.ref 1000), some (.ref 0), some (.int x2), some (.int v0), some (.int v1), some (.int v2)] [] h4 r) : tr_L g (d + 1) m_L_acts 0 [some (.ref 1000), some (.ref 0), some (.int x2), none, none, none] [] h r := by
  refine tr_s (.aload_n 1) 1 1 [some (.ref 1000), some (.ref 0), some (.int x2), none, none, none] [.ref 0] h rfl rfl rfl ?_
  refine tr_s (.iload_n 2) 1 2 [some (.ref 1000), some (.ref 0), some (.int x2), none, none, none] [.int x2, .ref 0] h rfl rfl rfl ?_
  refine tr_ic 1 1 (by decide) rfl ?_
  refine tr_s .iadd 1 4 [some (.ref 1000), some (.ref 0), some (.int x2), none, none, none] [.int (x2 + 1), .ref 0] h rfl rfl rfl ?_
  refine tr_bi 36 36 (by decide) rfl ?_
  refine tr_call (.invokestatic 122) 122 2 3 0 m_L_in [.ref 0, .int (x2 + 1), .int 36] [] (some (.int v0)) h1 rfl rfl rfl rfl rfl rfl rfl rfl rfl (tr_cok rfl (Or.inl rfl)) c_0 ?_
  have hL0 := c_0.2
  refine tr_st (.istore_n 3) 1 3 0 (.int v0) rfl rfl rfl rfl rfl rfl rfl ?_
  refine tr_s (.aload_n 1) 1 11 [some (.ref 1000), some (.ref 0), some (.int x2), some (.int v0), none, none] [.ref 0] h1 rfl rfl rfl ?_
  refine tr_s (.iload_n 2) 1 12 [some (.ref 1000), some (.ref 0), some (.int x2), some (.int v0), none, none] [.int x2, .ref 0] h1 rfl rfl rfl ?_
  refine tr_ic 2 2 (by decide) rfl ?_
  refine tr_s .iadd 1 14 [some (.ref 1000), some (.ref 0), some (.int x2), some (.int v0), none, none] [.int (x2 + 2), .ref 0] h1 rfl rfl rfl ?_
  refine tr_bi 25 25 (by decide) rfl ?_
  refine tr_call (.invokestatic 122) 122 2 3 0 m_L_in [.ref 0, .int (x2 + 2), .int 25] [] (some (.int v1)) h2 rfl rfl rfl rfl rfl rfl rfl rfl rfl (tr_cok rfl (Or.inl rfl)) c_1 ?_
  have hL1 := c_1.2
  refine tr_st (.istore 4) 2 4 0 (.int v1) rfl rfl rfl rfl rfl rfl rfl ?_
  refine tr_s (.aload_n 1) 1 22 [some (.ref 1000), some (.ref 0), some (.int x2), some (.int v0), some (.int v1), none] [.ref 0] h2 rfl rfl rfl ?_
  refine tr_s (.iload_n 2) 1 23 [some (.ref 1000), some (.ref 0), some (.int x2), some (.int v0), some (.int v1), none] [.int x2, .ref 0] h2 rfl rfl rfl ?_
  refine tr_ic 3 3 (by decide) rfl ?_
  refine tr_s .iadd 1 25 [some (.ref 1000), some (.ref 0), some (.int x2), some (.int v0), some (.int v1), none] [.int (x2 + 3), .ref 0] h2 rfl rfl rfl ?_
  refine tr_bi 60 60 (by decide) rfl ?_
  refine tr_call (.invokestatic 122) 122 2 3 0 m_L_in [.ref 0, .int (x2 + 3), .int 60] [] (some (.int v2)) h3 rfl rfl rfl rfl rfl rfl rfl rfl rfl (tr_cok rfl (Or.inl rfl)) c_2 ?_
  have hL2 := c_2.2
  refine tr_st (.istore 5) 2 5 0 (.int v2) rfl rfl rfl rfl rfl rfl rfl ?_
  refine tr_s (.aload_n 1) 1 33 [some (.ref 1000), some (.ref 0), some (.int x2), some (.int v0), some (.int v1), some (.int v2)] [.ref 0] h3 rfl rfl rfl ?_
  refine tr_s (.iload_n 2) 1 34 [some (.ref 1000), some (.ref 0), some (.int x2), some (.int v0), some (.int v1), some (.int v2)] [.int x2, .ref 0] h3 rfl rfl rfl ?_
  refine tr_bi 26 26 (by decide) rfl ?_
  refine tr_call (.invokestatic 122) 122 2 3 0 m_L_in [.ref 0, .int x2, .int 26] [] (some (.int v3)) h4 rfl rfl rfl rfl rfl rfl rfl rfl rfl (tr_cok rfl (Or.inl rfl)) c_3 ?_
  have hL3 := c_3.2
  exact tr_s (.tableswitch 210 0 20 #[97, 97, 97, 105, 131, 131, 131, 131, 131, 158, 158, 158, 158, 158, 186, 186, 200, 200, 200, 205, 205]) 97 136 [some (.ref 1000), some (.ref 0), some (.int x2), some (.int v0), some (.int v1), some (.int v2)] [] h4 rfl rfl (by rw [e]; rfl) k
set_option maxRecDepth 20000 in
theorem sg_L_acts_0_t3 {g : tr_g} {d : Nat} {h : ev_AH} {r : ev_O × ev_AH} {x2 v0 v1 v2 v3 : Int32} {h1 h2 h3 h4 : ev_AH} (hL : hh_L h) (c_0 : tr_L g d m_L_in 0 [some (.ref 0), some (.int (x2 + 1)), some (.int 36)] [] h (.inl (some (.int v0)), h1)) (c_1 : tr_L g d m_L_in 0 [some (.ref 0), some (.int (x2 + 2)), some (.int 25)] [] h1 (.inl (some (.int v1)), h2)) (c_2 : tr_L g d m_L_in 0 [some (.ref 0), some (.int (x2 + 3)), some (.int 60)] [] h2 (.inl (some (.int v2)), h3)) (c_3 : tr_L g d m_L_in 0 [some (.ref 0), some (.int x2), some (.int 26)] [] h3 (.inl (some (.int v3)), h4)) (e : v3 = 3) (k : tr_L g (d + 1) m_L_acts 144 [some (.ref 1000), some (.ref 0), some (.int x2), some (.int v0), some (.int v1), some (.int v2)] [] h4 r) : tr_L g (d + 1) m_L_acts 0 [some (.ref 1000), some (.ref 0), some (.int x2), none, none, none] [] h r := by
  refine tr_s (.aload_n 1) 1 1 [some (.ref 1000), some (.ref 0), some (.int x2), none, none, none] [.ref 0] h rfl rfl rfl ?_
  refine tr_s (.iload_n 2) 1 2 [some (.ref 1000), some (.ref 0), some (.int x2), none, none, none] [.int x2, .ref 0] h rfl rfl rfl ?_
  refine tr_ic 1 1 (by decide) rfl ?_
  refine tr_s .iadd 1 4 [some (.ref 1000), some (.ref 0), some (.int x2), none, none, none] [.int (x2 + 1), .ref 0] h rfl rfl rfl ?_
  refine tr_bi 36 36 (by decide) rfl ?_
  refine tr_call (.invokestatic 122) 122 2 3 0 m_L_in [.ref 0, .int (x2 + 1), .int 36] [] (some (.int v0)) h1 rfl rfl rfl rfl rfl rfl rfl rfl rfl (tr_cok rfl (Or.inl rfl)) c_0 ?_
  have hL0 := c_0.2
  refine tr_st (.istore_n 3) 1 3 0 (.int v0) rfl rfl rfl rfl rfl rfl rfl ?_
  refine tr_s (.aload_n 1) 1 11 [some (.ref 1000), some (.ref 0), some (.int x2), some (.int v0), none, none] [.ref 0] h1 rfl rfl rfl ?_
  refine tr_s (.iload_n 2) 1 12 [some (.ref 1000), some (.ref 0), some (.int x2), some (.int v0), none, none] [.int x2, .ref 0] h1 rfl rfl rfl ?_
  refine tr_ic 2 2 (by decide) rfl ?_
  refine tr_s .iadd 1 14 [some (.ref 1000), some (.ref 0), some (.int x2), some (.int v0), none, none] [.int (x2 + 2), .ref 0] h1 rfl rfl rfl ?_
  refine tr_bi 25 25 (by decide) rfl ?_
  refine tr_call (.invokestatic 122) 122 2 3 0 m_L_in [.ref 0, .int (x2 + 2), .int 25] [] (some (.int v1)) h2 rfl rfl rfl rfl rfl rfl rfl rfl rfl (tr_cok rfl (Or.inl rfl)) c_1 ?_
  have hL1 := c_1.2
  refine tr_st (.istore 4) 2 4 0 (.int v1) rfl rfl rfl rfl rfl rfl rfl ?_
  refine tr_s (.aload_n 1) 1 22 [some (.ref 1000), some (.ref 0), some (.int x2), some (.int v0), some (.int v1), none] [.ref 0] h2 rfl rfl rfl ?_
  refine tr_s (.iload_n 2) 1 23 [some (.ref 1000), some (.ref 0), some (.int x2), some (.int v0), some (.int v1), none] [.int x2, .ref 0] h2 rfl rfl rfl ?_
  refine tr_ic 3 3 (by decide) rfl ?_
  refine tr_s .iadd 1 25 [some (.ref 1000), some (.ref 0), some (.int x2), some (.int v0), some (.int v1), none] [.int (x2 + 3), .ref 0] h2 rfl rfl rfl ?_
  refine tr_bi 60 60 (by decide) rfl ?_
  refine tr_call (.invokestatic 122) 122 2 3 0 m_L_in [.ref 0, .int (x2 + 3), .int 60] [] (some (.int v2)) h3 rfl rfl rfl rfl rfl rfl rfl rfl rfl (tr_cok rfl (Or.inl rfl)) c_2 ?_
  have hL2 := c_2.2
  refine tr_st (.istore 5) 2 5 0 (.int v2) rfl rfl rfl rfl rfl rfl rfl ?_
  refine tr_s (.aload_n 1) 1 33 [some (.ref 1000), some (.ref 0), some (.int x2), some (.int v0), some (.int v1), some (.int v2)] [.ref 0] h3 rfl rfl rfl ?_
  refine tr_s (.iload_n 2) 1 34 [some (.ref 1000), some (.ref 0), some (.int x2), some (.int v0), some (.int v1), some (.int v2)] [.int x2, .ref 0] h3 rfl rfl rfl ?_
  refine tr_bi 26 26 (by decide) rfl ?_
  refine tr_call (.invokestatic 122) 122 2 3 0 m_L_in [.ref 0, .int x2, .int 26] [] (some (.int v3)) h4 rfl rfl rfl rfl rfl rfl rfl rfl rfl (tr_cok rfl (Or.inl rfl)) c_3 ?_
  have hL3 := c_3.2
  exact tr_s (.tableswitch 210 0 20 #[97, 97, 97, 105, 131, 131, 131, 131, 131, 158, 158, 158, 158, 158, 186, 186, 200, 200, 200, 205, 205]) 97 144 [some (.ref 1000), some (.ref 0), some (.int x2), some (.int v0), some (.int v1), some (.int v2)] [] h4 rfl rfl (by rw [e]; rfl) k
set_option maxRecDepth 20000 in
theorem sg_L_acts_0_t4 {g : tr_g} {d : Nat} {h : ev_AH} {r : ev_O × ev_AH} {x2 v0 v1 v2 v3 : Int32} {h1 h2 h3 h4 : ev_AH} (hL : hh_L h) (c_0 : tr_L g d m_L_in 0 [some (.ref 0), some (.int (x2 + 1)), some (.int 36)] [] h (.inl (some (.int v0)), h1)) (c_1 : tr_L g d m_L_in 0 [some (.ref 0), some (.int (x2 + 2)), some (.int 25)] [] h1 (.inl (some (.int v1)), h2)) (c_2 : tr_L g d m_L_in 0 [some (.ref 0), some (.int (x2 + 3)), some (.int 60)] [] h2 (.inl (some (.int v2)), h3)) (c_3 : tr_L g d m_L_in 0 [some (.ref 0), some (.int x2), some (.int 26)] [] h3 (.inl (some (.int v3)), h4)) (e : v3 = 4) (k : tr_L g (d + 1) m_L_acts 170 [some (.ref 1000), some (.ref 0), some (.int x2), some (.int v0), some (.int v1), some (.int v2)] [] h4 r) : tr_L g (d + 1) m_L_acts 0 [some (.ref 1000), some (.ref 0), some (.int x2), none, none, none] [] h r := by
  refine tr_s (.aload_n 1) 1 1 [some (.ref 1000), some (.ref 0), some (.int x2), none, none, none] [.ref 0] h rfl rfl rfl ?_
  refine tr_s (.iload_n 2) 1 2 [some (.ref 1000), some (.ref 0), some (.int x2), none, none, none] [.int x2, .ref 0] h rfl rfl rfl ?_
  refine tr_ic 1 1 (by decide) rfl ?_
  refine tr_s .iadd 1 4 [some (.ref 1000), some (.ref 0), some (.int x2), none, none, none] [.int (x2 + 1), .ref 0] h rfl rfl rfl ?_
  refine tr_bi 36 36 (by decide) rfl ?_
  refine tr_call (.invokestatic 122) 122 2 3 0 m_L_in [.ref 0, .int (x2 + 1), .int 36] [] (some (.int v0)) h1 rfl rfl rfl rfl rfl rfl rfl rfl rfl (tr_cok rfl (Or.inl rfl)) c_0 ?_
  have hL0 := c_0.2
  refine tr_st (.istore_n 3) 1 3 0 (.int v0) rfl rfl rfl rfl rfl rfl rfl ?_
  refine tr_s (.aload_n 1) 1 11 [some (.ref 1000), some (.ref 0), some (.int x2), some (.int v0), none, none] [.ref 0] h1 rfl rfl rfl ?_
  refine tr_s (.iload_n 2) 1 12 [some (.ref 1000), some (.ref 0), some (.int x2), some (.int v0), none, none] [.int x2, .ref 0] h1 rfl rfl rfl ?_
  refine tr_ic 2 2 (by decide) rfl ?_
  refine tr_s .iadd 1 14 [some (.ref 1000), some (.ref 0), some (.int x2), some (.int v0), none, none] [.int (x2 + 2), .ref 0] h1 rfl rfl rfl ?_
  refine tr_bi 25 25 (by decide) rfl ?_
  refine tr_call (.invokestatic 122) 122 2 3 0 m_L_in [.ref 0, .int (x2 + 2), .int 25] [] (some (.int v1)) h2 rfl rfl rfl rfl rfl rfl rfl rfl rfl (tr_cok rfl (Or.inl rfl)) c_1 ?_
  have hL1 := c_1.2
  refine tr_st (.istore 4) 2 4 0 (.int v1) rfl rfl rfl rfl rfl rfl rfl ?_
  refine tr_s (.aload_n 1) 1 22 [some (.ref 1000), some (.ref 0), some (.int x2), some (.int v0), some (.int v1), none] [.ref 0] h2 rfl rfl rfl ?_
  refine tr_s (.iload_n 2) 1 23 [some (.ref 1000), some (.ref 0), some (.int x2), some (.int v0), some (.int v1), none] [.int x2, .ref 0] h2 rfl rfl rfl ?_
  refine tr_ic 3 3 (by decide) rfl ?_
  refine tr_s .iadd 1 25 [some (.ref 1000), some (.ref 0), some (.int x2), some (.int v0), some (.int v1), none] [.int (x2 + 3), .ref 0] h2 rfl rfl rfl ?_
  refine tr_bi 60 60 (by decide) rfl ?_
  refine tr_call (.invokestatic 122) 122 2 3 0 m_L_in [.ref 0, .int (x2 + 3), .int 60] [] (some (.int v2)) h3 rfl rfl rfl rfl rfl rfl rfl rfl rfl (tr_cok rfl (Or.inl rfl)) c_2 ?_
  have hL2 := c_2.2
  refine tr_st (.istore 5) 2 5 0 (.int v2) rfl rfl rfl rfl rfl rfl rfl ?_
  refine tr_s (.aload_n 1) 1 33 [some (.ref 1000), some (.ref 0), some (.int x2), some (.int v0), some (.int v1), some (.int v2)] [.ref 0] h3 rfl rfl rfl ?_
  refine tr_s (.iload_n 2) 1 34 [some (.ref 1000), some (.ref 0), some (.int x2), some (.int v0), some (.int v1), some (.int v2)] [.int x2, .ref 0] h3 rfl rfl rfl ?_
  refine tr_bi 26 26 (by decide) rfl ?_
  refine tr_call (.invokestatic 122) 122 2 3 0 m_L_in [.ref 0, .int x2, .int 26] [] (some (.int v3)) h4 rfl rfl rfl rfl rfl rfl rfl rfl rfl (tr_cok rfl (Or.inl rfl)) c_3 ?_
  have hL3 := c_3.2
  exact tr_s (.tableswitch 210 0 20 #[97, 97, 97, 105, 131, 131, 131, 131, 131, 158, 158, 158, 158, 158, 186, 186, 200, 200, 200, 205, 205]) 97 170 [some (.ref 1000), some (.ref 0), some (.int x2), some (.int v0), some (.int v1), some (.int v2)] [] h4 rfl rfl (by rw [e]; rfl) k
set_option maxRecDepth 20000 in
theorem sg_L_acts_0_t5 {g : tr_g} {d : Nat} {h : ev_AH} {r : ev_O × ev_AH} {x2 v0 v1 v2 v3 : Int32} {h1 h2 h3 h4 : ev_AH} (hL : hh_L h) (c_0 : tr_L g d m_L_in 0 [some (.ref 0), some (.int (x2 + 1)), some (.int 36)] [] h (.inl (some (.int v0)), h1)) (c_1 : tr_L g d m_L_in 0 [some (.ref 0), some (.int (x2 + 2)), some (.int 25)] [] h1 (.inl (some (.int v1)), h2)) (c_2 : tr_L g d m_L_in 0 [some (.ref 0), some (.int (x2 + 3)), some (.int 60)] [] h2 (.inl (some (.int v2)), h3)) (c_3 : tr_L g d m_L_in 0 [some (.ref 0), some (.int x2), some (.int 26)] [] h3 (.inl (some (.int v3)), h4)) (e : v3 = 5) (k : tr_L g (d + 1) m_L_acts 170 [some (.ref 1000), some (.ref 0), some (.int x2), some (.int v0), some (.int v1), some (.int v2)] [] h4 r) : tr_L g (d + 1) m_L_acts 0 [some (.ref 1000), some (.ref 0), some (.int x2), none, none, none] [] h r := by
  refine tr_s (.aload_n 1) 1 1 [some (.ref 1000), some (.ref 0), some (.int x2), none, none, none] [.ref 0] h rfl rfl rfl ?_
  refine tr_s (.iload_n 2) 1 2 [some (.ref 1000), some (.ref 0), some (.int x2), none, none, none] [.int x2, .ref 0] h rfl rfl rfl ?_
  refine tr_ic 1 1 (by decide) rfl ?_
  refine tr_s .iadd 1 4 [some (.ref 1000), some (.ref 0), some (.int x2), none, none, none] [.int (x2 + 1), .ref 0] h rfl rfl rfl ?_
  refine tr_bi 36 36 (by decide) rfl ?_
  refine tr_call (.invokestatic 122) 122 2 3 0 m_L_in [.ref 0, .int (x2 + 1), .int 36] [] (some (.int v0)) h1 rfl rfl rfl rfl rfl rfl rfl rfl rfl (tr_cok rfl (Or.inl rfl)) c_0 ?_
  have hL0 := c_0.2
  refine tr_st (.istore_n 3) 1 3 0 (.int v0) rfl rfl rfl rfl rfl rfl rfl ?_
  refine tr_s (.aload_n 1) 1 11 [some (.ref 1000), some (.ref 0), some (.int x2), some (.int v0), none, none] [.ref 0] h1 rfl rfl rfl ?_
  refine tr_s (.iload_n 2) 1 12 [some (.ref 1000), some (.ref 0), some (.int x2), some (.int v0), none, none] [.int x2, .ref 0] h1 rfl rfl rfl ?_
  refine tr_ic 2 2 (by decide) rfl ?_
  refine tr_s .iadd 1 14 [some (.ref 1000), some (.ref 0), some (.int x2), some (.int v0), none, none] [.int (x2 + 2), .ref 0] h1 rfl rfl rfl ?_
  refine tr_bi 25 25 (by decide) rfl ?_
  refine tr_call (.invokestatic 122) 122 2 3 0 m_L_in [.ref 0, .int (x2 + 2), .int 25] [] (some (.int v1)) h2 rfl rfl rfl rfl rfl rfl rfl rfl rfl (tr_cok rfl (Or.inl rfl)) c_1 ?_
  have hL1 := c_1.2
  refine tr_st (.istore 4) 2 4 0 (.int v1) rfl rfl rfl rfl rfl rfl rfl ?_
  refine tr_s (.aload_n 1) 1 22 [some (.ref 1000), some (.ref 0), some (.int x2), some (.int v0), some (.int v1), none] [.ref 0] h2 rfl rfl rfl ?_
  refine tr_s (.iload_n 2) 1 23 [some (.ref 1000), some (.ref 0), some (.int x2), some (.int v0), some (.int v1), none] [.int x2, .ref 0] h2 rfl rfl rfl ?_
  refine tr_ic 3 3 (by decide) rfl ?_
  refine tr_s .iadd 1 25 [some (.ref 1000), some (.ref 0), some (.int x2), some (.int v0), some (.int v1), none] [.int (x2 + 3), .ref 0] h2 rfl rfl rfl ?_
  refine tr_bi 60 60 (by decide) rfl ?_
  refine tr_call (.invokestatic 122) 122 2 3 0 m_L_in [.ref 0, .int (x2 + 3), .int 60] [] (some (.int v2)) h3 rfl rfl rfl rfl rfl rfl rfl rfl rfl (tr_cok rfl (Or.inl rfl)) c_2 ?_
  have hL2 := c_2.2
  refine tr_st (.istore 5) 2 5 0 (.int v2) rfl rfl rfl rfl rfl rfl rfl ?_
  refine tr_s (.aload_n 1) 1 33 [some (.ref 1000), some (.ref 0), some (.int x2), some (.int v0), some (.int v1), some (.int v2)] [.ref 0] h3 rfl rfl rfl ?_
  refine tr_s (.iload_n 2) 1 34 [some (.ref 1000), some (.ref 0), some (.int x2), some (.int v0), some (.int v1), some (.int v2)] [.int x2, .ref 0] h3 rfl rfl rfl ?_
  refine tr_bi 26 26 (by decide) rfl ?_
  refine tr_call (.invokestatic 122) 122 2 3 0 m_L_in [.ref 0, .int x2, .int 26] [] (some (.int v3)) h4 rfl rfl rfl rfl rfl rfl rfl rfl rfl (tr_cok rfl (Or.inl rfl)) c_3 ?_
  have hL3 := c_3.2
  exact tr_s (.tableswitch 210 0 20 #[97, 97, 97, 105, 131, 131, 131, 131, 131, 158, 158, 158, 158, 158, 186, 186, 200, 200, 200, 205, 205]) 97 170 [some (.ref 1000), some (.ref 0), some (.int x2), some (.int v0), some (.int v1), some (.int v2)] [] h4 rfl rfl (by rw [e]; rfl) k
set_option maxRecDepth 20000 in
theorem sg_L_acts_0_t6 {g : tr_g} {d : Nat} {h : ev_AH} {r : ev_O × ev_AH} {x2 v0 v1 v2 v3 : Int32} {h1 h2 h3 h4 : ev_AH} (hL : hh_L h) (c_0 : tr_L g d m_L_in 0 [some (.ref 0), some (.int (x2 + 1)), some (.int 36)] [] h (.inl (some (.int v0)), h1)) (c_1 : tr_L g d m_L_in 0 [some (.ref 0), some (.int (x2 + 2)), some (.int 25)] [] h1 (.inl (some (.int v1)), h2)) (c_2 : tr_L g d m_L_in 0 [some (.ref 0), some (.int (x2 + 3)), some (.int 60)] [] h2 (.inl (some (.int v2)), h3)) (c_3 : tr_L g d m_L_in 0 [some (.ref 0), some (.int x2), some (.int 26)] [] h3 (.inl (some (.int v3)), h4)) (e : v3 = 6) (k : tr_L g (d + 1) m_L_acts 170 [some (.ref 1000), some (.ref 0), some (.int x2), some (.int v0), some (.int v1), some (.int v2)] [] h4 r) : tr_L g (d + 1) m_L_acts 0 [some (.ref 1000), some (.ref 0), some (.int x2), none, none, none] [] h r := by
  refine tr_s (.aload_n 1) 1 1 [some (.ref 1000), some (.ref 0), some (.int x2), none, none, none] [.ref 0] h rfl rfl rfl ?_
  refine tr_s (.iload_n 2) 1 2 [some (.ref 1000), some (.ref 0), some (.int x2), none, none, none] [.int x2, .ref 0] h rfl rfl rfl ?_
  refine tr_ic 1 1 (by decide) rfl ?_
  refine tr_s .iadd 1 4 [some (.ref 1000), some (.ref 0), some (.int x2), none, none, none] [.int (x2 + 1), .ref 0] h rfl rfl rfl ?_
  refine tr_bi 36 36 (by decide) rfl ?_
  refine tr_call (.invokestatic 122) 122 2 3 0 m_L_in [.ref 0, .int (x2 + 1), .int 36] [] (some (.int v0)) h1 rfl rfl rfl rfl rfl rfl rfl rfl rfl (tr_cok rfl (Or.inl rfl)) c_0 ?_
  have hL0 := c_0.2
  refine tr_st (.istore_n 3) 1 3 0 (.int v0) rfl rfl rfl rfl rfl rfl rfl ?_
  refine tr_s (.aload_n 1) 1 11 [some (.ref 1000), some (.ref 0), some (.int x2), some (.int v0), none, none] [.ref 0] h1 rfl rfl rfl ?_
  refine tr_s (.iload_n 2) 1 12 [some (.ref 1000), some (.ref 0), some (.int x2), some (.int v0), none, none] [.int x2, .ref 0] h1 rfl rfl rfl ?_
  refine tr_ic 2 2 (by decide) rfl ?_
  refine tr_s .iadd 1 14 [some (.ref 1000), some (.ref 0), some (.int x2), some (.int v0), none, none] [.int (x2 + 2), .ref 0] h1 rfl rfl rfl ?_
  refine tr_bi 25 25 (by decide) rfl ?_
  refine tr_call (.invokestatic 122) 122 2 3 0 m_L_in [.ref 0, .int (x2 + 2), .int 25] [] (some (.int v1)) h2 rfl rfl rfl rfl rfl rfl rfl rfl rfl (tr_cok rfl (Or.inl rfl)) c_1 ?_
  have hL1 := c_1.2
  refine tr_st (.istore 4) 2 4 0 (.int v1) rfl rfl rfl rfl rfl rfl rfl ?_
  refine tr_s (.aload_n 1) 1 22 [some (.ref 1000), some (.ref 0), some (.int x2), some (.int v0), some (.int v1), none] [.ref 0] h2 rfl rfl rfl ?_
  refine tr_s (.iload_n 2) 1 23 [some (.ref 1000), some (.ref 0), some (.int x2), some (.int v0), some (.int v1), none] [.int x2, .ref 0] h2 rfl rfl rfl ?_
  refine tr_ic 3 3 (by decide) rfl ?_
  refine tr_s .iadd 1 25 [some (.ref 1000), some (.ref 0), some (.int x2), some (.int v0), some (.int v1), none] [.int (x2 + 3), .ref 0] h2 rfl rfl rfl ?_
  refine tr_bi 60 60 (by decide) rfl ?_
  refine tr_call (.invokestatic 122) 122 2 3 0 m_L_in [.ref 0, .int (x2 + 3), .int 60] [] (some (.int v2)) h3 rfl rfl rfl rfl rfl rfl rfl rfl rfl (tr_cok rfl (Or.inl rfl)) c_2 ?_
  have hL2 := c_2.2
  refine tr_st (.istore 5) 2 5 0 (.int v2) rfl rfl rfl rfl rfl rfl rfl ?_
  refine tr_s (.aload_n 1) 1 33 [some (.ref 1000), some (.ref 0), some (.int x2), some (.int v0), some (.int v1), some (.int v2)] [.ref 0] h3 rfl rfl rfl ?_
  refine tr_s (.iload_n 2) 1 34 [some (.ref 1000), some (.ref 0), some (.int x2), some (.int v0), some (.int v1), some (.int v2)] [.int x2, .ref 0] h3 rfl rfl rfl ?_
  refine tr_bi 26 26 (by decide) rfl ?_
  refine tr_call (.invokestatic 122) 122 2 3 0 m_L_in [.ref 0, .int x2, .int 26] [] (some (.int v3)) h4 rfl rfl rfl rfl rfl rfl rfl rfl rfl (tr_cok rfl (Or.inl rfl)) c_3 ?_
  have hL3 := c_3.2
  exact tr_s (.tableswitch 210 0 20 #[97, 97, 97, 105, 131, 131, 131, 131, 131, 158, 158, 158, 158, 158, 186, 186, 200, 200, 200, 205, 205]) 97 170 [some (.ref 1000), some (.ref 0), some (.int x2), some (.int v0), some (.int v1), some (.int v2)] [] h4 rfl rfl (by rw [e]; rfl) k
set_option maxRecDepth 20000 in
theorem sg_L_acts_0_t7 {g : tr_g} {d : Nat} {h : ev_AH} {r : ev_O × ev_AH} {x2 v0 v1 v2 v3 : Int32} {h1 h2 h3 h4 : ev_AH} (hL : hh_L h) (c_0 : tr_L g d m_L_in 0 [some (.ref 0), some (.int (x2 + 1)), some (.int 36)] [] h (.inl (some (.int v0)), h1)) (c_1 : tr_L g d m_L_in 0 [some (.ref 0), some (.int (x2 + 2)), some (.int 25)] [] h1 (.inl (some (.int v1)), h2)) (c_2 : tr_L g d m_L_in 0 [some (.ref 0), some (.int (x2 + 3)), some (.int 60)] [] h2 (.inl (some (.int v2)), h3)) (c_3 : tr_L g d m_L_in 0 [some (.ref 0), some (.int x2), some (.int 26)] [] h3 (.inl (some (.int v3)), h4)) (e : v3 = 7) (k : tr_L g (d + 1) m_L_acts 170 [some (.ref 1000), some (.ref 0), some (.int x2), some (.int v0), some (.int v1), some (.int v2)] [] h4 r) : tr_L g (d + 1) m_L_acts 0 [some (.ref 1000), some (.ref 0), some (.int x2), none, none, none] [] h r := by
  refine tr_s (.aload_n 1) 1 1 [some (.ref 1000), some (.ref 0), some (.int x2), none, none, none] [.ref 0] h rfl rfl rfl ?_
  refine tr_s (.iload_n 2) 1 2 [some (.ref 1000), some (.ref 0), some (.int x2), none, none, none] [.int x2, .ref 0] h rfl rfl rfl ?_
  refine tr_ic 1 1 (by decide) rfl ?_
  refine tr_s .iadd 1 4 [some (.ref 1000), some (.ref 0), some (.int x2), none, none, none] [.int (x2 + 1), .ref 0] h rfl rfl rfl ?_
  refine tr_bi 36 36 (by decide) rfl ?_
  refine tr_call (.invokestatic 122) 122 2 3 0 m_L_in [.ref 0, .int (x2 + 1), .int 36] [] (some (.int v0)) h1 rfl rfl rfl rfl rfl rfl rfl rfl rfl (tr_cok rfl (Or.inl rfl)) c_0 ?_
  have hL0 := c_0.2
  refine tr_st (.istore_n 3) 1 3 0 (.int v0) rfl rfl rfl rfl rfl rfl rfl ?_
  refine tr_s (.aload_n 1) 1 11 [some (.ref 1000), some (.ref 0), some (.int x2), some (.int v0), none, none] [.ref 0] h1 rfl rfl rfl ?_
  refine tr_s (.iload_n 2) 1 12 [some (.ref 1000), some (.ref 0), some (.int x2), some (.int v0), none, none] [.int x2, .ref 0] h1 rfl rfl rfl ?_
  refine tr_ic 2 2 (by decide) rfl ?_
  refine tr_s .iadd 1 14 [some (.ref 1000), some (.ref 0), some (.int x2), some (.int v0), none, none] [.int (x2 + 2), .ref 0] h1 rfl rfl rfl ?_
  refine tr_bi 25 25 (by decide) rfl ?_
  refine tr_call (.invokestatic 122) 122 2 3 0 m_L_in [.ref 0, .int (x2 + 2), .int 25] [] (some (.int v1)) h2 rfl rfl rfl rfl rfl rfl rfl rfl rfl (tr_cok rfl (Or.inl rfl)) c_1 ?_
  have hL1 := c_1.2
  refine tr_st (.istore 4) 2 4 0 (.int v1) rfl rfl rfl rfl rfl rfl rfl ?_
  refine tr_s (.aload_n 1) 1 22 [some (.ref 1000), some (.ref 0), some (.int x2), some (.int v0), some (.int v1), none] [.ref 0] h2 rfl rfl rfl ?_
  refine tr_s (.iload_n 2) 1 23 [some (.ref 1000), some (.ref 0), some (.int x2), some (.int v0), some (.int v1), none] [.int x2, .ref 0] h2 rfl rfl rfl ?_
  refine tr_ic 3 3 (by decide) rfl ?_
  refine tr_s .iadd 1 25 [some (.ref 1000), some (.ref 0), some (.int x2), some (.int v0), some (.int v1), none] [.int (x2 + 3), .ref 0] h2 rfl rfl rfl ?_
  refine tr_bi 60 60 (by decide) rfl ?_
  refine tr_call (.invokestatic 122) 122 2 3 0 m_L_in [.ref 0, .int (x2 + 3), .int 60] [] (some (.int v2)) h3 rfl rfl rfl rfl rfl rfl rfl rfl rfl (tr_cok rfl (Or.inl rfl)) c_2 ?_
  have hL2 := c_2.2
  refine tr_st (.istore 5) 2 5 0 (.int v2) rfl rfl rfl rfl rfl rfl rfl ?_
  refine tr_s (.aload_n 1) 1 33 [some (.ref 1000), some (.ref 0), some (.int x2), some (.int v0), some (.int v1), some (.int v2)] [.ref 0] h3 rfl rfl rfl ?_
  refine tr_s (.iload_n 2) 1 34 [some (.ref 1000), some (.ref 0), some (.int x2), some (.int v0), some (.int v1), some (.int v2)] [.int x2, .ref 0] h3 rfl rfl rfl ?_
  refine tr_bi 26 26 (by decide) rfl ?_
  refine tr_call (.invokestatic 122) 122 2 3 0 m_L_in [.ref 0, .int x2, .int 26] [] (some (.int v3)) h4 rfl rfl rfl rfl rfl rfl rfl rfl rfl (tr_cok rfl (Or.inl rfl)) c_3 ?_
  have hL3 := c_3.2
  exact tr_s (.tableswitch 210 0 20 #[97, 97, 97, 105, 131, 131, 131, 131, 131, 158, 158, 158, 158, 158, 186, 186, 200, 200, 200, 205, 205]) 97 170 [some (.ref 1000), some (.ref 0), some (.int x2), some (.int v0), some (.int v1), some (.int v2)] [] h4 rfl rfl (by rw [e]; rfl) k
set_option maxRecDepth 20000 in
theorem sg_L_acts_0_t8 {g : tr_g} {d : Nat} {h : ev_AH} {r : ev_O × ev_AH} {x2 v0 v1 v2 v3 : Int32} {h1 h2 h3 h4 : ev_AH} (hL : hh_L h) (c_0 : tr_L g d m_L_in 0 [some (.ref 0), some (.int (x2 + 1)), some (.int 36)] [] h (.inl (some (.int v0)), h1)) (c_1 : tr_L g d m_L_in 0 [some (.ref 0), some (.int (x2 + 2)), some (.int 25)] [] h1 (.inl (some (.int v1)), h2)) (c_2 : tr_L g d m_L_in 0 [some (.ref 0), some (.int (x2 + 3)), some (.int 60)] [] h2 (.inl (some (.int v2)), h3)) (c_3 : tr_L g d m_L_in 0 [some (.ref 0), some (.int x2), some (.int 26)] [] h3 (.inl (some (.int v3)), h4)) (e : v3 = 8) (k : tr_L g (d + 1) m_L_acts 170 [some (.ref 1000), some (.ref 0), some (.int x2), some (.int v0), some (.int v1), some (.int v2)] [] h4 r) : tr_L g (d + 1) m_L_acts 0 [some (.ref 1000), some (.ref 0), some (.int x2), none, none, none] [] h r := by
  refine tr_s (.aload_n 1) 1 1 [some (.ref 1000), some (.ref 0), some (.int x2), none, none, none] [.ref 0] h rfl rfl rfl ?_
  refine tr_s (.iload_n 2) 1 2 [some (.ref 1000), some (.ref 0), some (.int x2), none, none, none] [.int x2, .ref 0] h rfl rfl rfl ?_
  refine tr_ic 1 1 (by decide) rfl ?_
  refine tr_s .iadd 1 4 [some (.ref 1000), some (.ref 0), some (.int x2), none, none, none] [.int (x2 + 1), .ref 0] h rfl rfl rfl ?_
  refine tr_bi 36 36 (by decide) rfl ?_
  refine tr_call (.invokestatic 122) 122 2 3 0 m_L_in [.ref 0, .int (x2 + 1), .int 36] [] (some (.int v0)) h1 rfl rfl rfl rfl rfl rfl rfl rfl rfl (tr_cok rfl (Or.inl rfl)) c_0 ?_
  have hL0 := c_0.2
  refine tr_st (.istore_n 3) 1 3 0 (.int v0) rfl rfl rfl rfl rfl rfl rfl ?_
  refine tr_s (.aload_n 1) 1 11 [some (.ref 1000), some (.ref 0), some (.int x2), some (.int v0), none, none] [.ref 0] h1 rfl rfl rfl ?_
  refine tr_s (.iload_n 2) 1 12 [some (.ref 1000), some (.ref 0), some (.int x2), some (.int v0), none, none] [.int x2, .ref 0] h1 rfl rfl rfl ?_
  refine tr_ic 2 2 (by decide) rfl ?_
  refine tr_s .iadd 1 14 [some (.ref 1000), some (.ref 0), some (.int x2), some (.int v0), none, none] [.int (x2 + 2), .ref 0] h1 rfl rfl rfl ?_
  refine tr_bi 25 25 (by decide) rfl ?_
  refine tr_call (.invokestatic 122) 122 2 3 0 m_L_in [.ref 0, .int (x2 + 2), .int 25] [] (some (.int v1)) h2 rfl rfl rfl rfl rfl rfl rfl rfl rfl (tr_cok rfl (Or.inl rfl)) c_1 ?_
  have hL1 := c_1.2
  refine tr_st (.istore 4) 2 4 0 (.int v1) rfl rfl rfl rfl rfl rfl rfl ?_
  refine tr_s (.aload_n 1) 1 22 [some (.ref 1000), some (.ref 0), some (.int x2), some (.int v0), some (.int v1), none] [.ref 0] h2 rfl rfl rfl ?_
  refine tr_s (.iload_n 2) 1 23 [some (.ref 1000), some (.ref 0), some (.int x2), some (.int v0), some (.int v1), none] [.int x2, .ref 0] h2 rfl rfl rfl ?_
  refine tr_ic 3 3 (by decide) rfl ?_
  refine tr_s .iadd 1 25 [some (.ref 1000), some (.ref 0), some (.int x2), some (.int v0), some (.int v1), none] [.int (x2 + 3), .ref 0] h2 rfl rfl rfl ?_
  refine tr_bi 60 60 (by decide) rfl ?_
  refine tr_call (.invokestatic 122) 122 2 3 0 m_L_in [.ref 0, .int (x2 + 3), .int 60] [] (some (.int v2)) h3 rfl rfl rfl rfl rfl rfl rfl rfl rfl (tr_cok rfl (Or.inl rfl)) c_2 ?_
  have hL2 := c_2.2
  refine tr_st (.istore 5) 2 5 0 (.int v2) rfl rfl rfl rfl rfl rfl rfl ?_
  refine tr_s (.aload_n 1) 1 33 [some (.ref 1000), some (.ref 0), some (.int x2), some (.int v0), some (.int v1), some (.int v2)] [.ref 0] h3 rfl rfl rfl ?_
  refine tr_s (.iload_n 2) 1 34 [some (.ref 1000), some (.ref 0), some (.int x2), some (.int v0), some (.int v1), some (.int v2)] [.int x2, .ref 0] h3 rfl rfl rfl ?_
  refine tr_bi 26 26 (by decide) rfl ?_
  refine tr_call (.invokestatic 122) 122 2 3 0 m_L_in [.ref 0, .int x2, .int 26] [] (some (.int v3)) h4 rfl rfl rfl rfl rfl rfl rfl rfl rfl (tr_cok rfl (Or.inl rfl)) c_3 ?_
  have hL3 := c_3.2
  exact tr_s (.tableswitch 210 0 20 #[97, 97, 97, 105, 131, 131, 131, 131, 131, 158, 158, 158, 158, 158, 186, 186, 200, 200, 200, 205, 205]) 97 170 [some (.ref 1000), some (.ref 0), some (.int x2), some (.int v0), some (.int v1), some (.int v2)] [] h4 rfl rfl (by rw [e]; rfl) k
set_option maxRecDepth 20000 in
theorem sg_L_acts_0_t9 {g : tr_g} {d : Nat} {h : ev_AH} {r : ev_O × ev_AH} {x2 v0 v1 v2 v3 : Int32} {h1 h2 h3 h4 : ev_AH} (hL : hh_L h) (c_0 : tr_L g d m_L_in 0 [some (.ref 0), some (.int (x2 + 1)), some (.int 36)] [] h (.inl (some (.int v0)), h1)) (c_1 : tr_L g d m_L_in 0 [some (.ref 0), some (.int (x2 + 2)), some (.int 25)] [] h1 (.inl (some (.int v1)), h2)) (c_2 : tr_L g d m_L_in 0 [some (.ref 0), some (.int (x2 + 3)), some (.int 60)] [] h2 (.inl (some (.int v2)), h3)) (c_3 : tr_L g d m_L_in 0 [some (.ref 0), some (.int x2), some (.int 26)] [] h3 (.inl (some (.int v3)), h4)) (e : v3 = 9) (k : tr_L g (d + 1) m_L_acts 197 [some (.ref 1000), some (.ref 0), some (.int x2), some (.int v0), some (.int v1), some (.int v2)] [] h4 r) : tr_L g (d + 1) m_L_acts 0 [some (.ref 1000), some (.ref 0), some (.int x2), none, none, none] [] h r := by
  refine tr_s (.aload_n 1) 1 1 [some (.ref 1000), some (.ref 0), some (.int x2), none, none, none] [.ref 0] h rfl rfl rfl ?_
  refine tr_s (.iload_n 2) 1 2 [some (.ref 1000), some (.ref 0), some (.int x2), none, none, none] [.int x2, .ref 0] h rfl rfl rfl ?_
  refine tr_ic 1 1 (by decide) rfl ?_
  refine tr_s .iadd 1 4 [some (.ref 1000), some (.ref 0), some (.int x2), none, none, none] [.int (x2 + 1), .ref 0] h rfl rfl rfl ?_
  refine tr_bi 36 36 (by decide) rfl ?_
  refine tr_call (.invokestatic 122) 122 2 3 0 m_L_in [.ref 0, .int (x2 + 1), .int 36] [] (some (.int v0)) h1 rfl rfl rfl rfl rfl rfl rfl rfl rfl (tr_cok rfl (Or.inl rfl)) c_0 ?_
  have hL0 := c_0.2
  refine tr_st (.istore_n 3) 1 3 0 (.int v0) rfl rfl rfl rfl rfl rfl rfl ?_
  refine tr_s (.aload_n 1) 1 11 [some (.ref 1000), some (.ref 0), some (.int x2), some (.int v0), none, none] [.ref 0] h1 rfl rfl rfl ?_
  refine tr_s (.iload_n 2) 1 12 [some (.ref 1000), some (.ref 0), some (.int x2), some (.int v0), none, none] [.int x2, .ref 0] h1 rfl rfl rfl ?_
  refine tr_ic 2 2 (by decide) rfl ?_
  refine tr_s .iadd 1 14 [some (.ref 1000), some (.ref 0), some (.int x2), some (.int v0), none, none] [.int (x2 + 2), .ref 0] h1 rfl rfl rfl ?_
  refine tr_bi 25 25 (by decide) rfl ?_
  refine tr_call (.invokestatic 122) 122 2 3 0 m_L_in [.ref 0, .int (x2 + 2), .int 25] [] (some (.int v1)) h2 rfl rfl rfl rfl rfl rfl rfl rfl rfl (tr_cok rfl (Or.inl rfl)) c_1 ?_
  have hL1 := c_1.2
  refine tr_st (.istore 4) 2 4 0 (.int v1) rfl rfl rfl rfl rfl rfl rfl ?_
  refine tr_s (.aload_n 1) 1 22 [some (.ref 1000), some (.ref 0), some (.int x2), some (.int v0), some (.int v1), none] [.ref 0] h2 rfl rfl rfl ?_
  refine tr_s (.iload_n 2) 1 23 [some (.ref 1000), some (.ref 0), some (.int x2), some (.int v0), some (.int v1), none] [.int x2, .ref 0] h2 rfl rfl rfl ?_
  refine tr_ic 3 3 (by decide) rfl ?_
  refine tr_s .iadd 1 25 [some (.ref 1000), some (.ref 0), some (.int x2), some (.int v0), some (.int v1), none] [.int (x2 + 3), .ref 0] h2 rfl rfl rfl ?_
  refine tr_bi 60 60 (by decide) rfl ?_
  refine tr_call (.invokestatic 122) 122 2 3 0 m_L_in [.ref 0, .int (x2 + 3), .int 60] [] (some (.int v2)) h3 rfl rfl rfl rfl rfl rfl rfl rfl rfl (tr_cok rfl (Or.inl rfl)) c_2 ?_
  have hL2 := c_2.2
  refine tr_st (.istore 5) 2 5 0 (.int v2) rfl rfl rfl rfl rfl rfl rfl ?_
  refine tr_s (.aload_n 1) 1 33 [some (.ref 1000), some (.ref 0), some (.int x2), some (.int v0), some (.int v1), some (.int v2)] [.ref 0] h3 rfl rfl rfl ?_
  refine tr_s (.iload_n 2) 1 34 [some (.ref 1000), some (.ref 0), some (.int x2), some (.int v0), some (.int v1), some (.int v2)] [.int x2, .ref 0] h3 rfl rfl rfl ?_
  refine tr_bi 26 26 (by decide) rfl ?_
  refine tr_call (.invokestatic 122) 122 2 3 0 m_L_in [.ref 0, .int x2, .int 26] [] (some (.int v3)) h4 rfl rfl rfl rfl rfl rfl rfl rfl rfl (tr_cok rfl (Or.inl rfl)) c_3 ?_
  have hL3 := c_3.2
  exact tr_s (.tableswitch 210 0 20 #[97, 97, 97, 105, 131, 131, 131, 131, 131, 158, 158, 158, 158, 158, 186, 186, 200, 200, 200, 205, 205]) 97 197 [some (.ref 1000), some (.ref 0), some (.int x2), some (.int v0), some (.int v1), some (.int v2)] [] h4 rfl rfl (by rw [e]; rfl) k
set_option maxRecDepth 20000 in
theorem sg_L_acts_0_t10 {g : tr_g} {d : Nat} {h : ev_AH} {r : ev_O × ev_AH} {x2 v0 v1 v2 v3 : Int32} {h1 h2 h3 h4 : ev_AH} (hL : hh_L h) (c_0 : tr_L g d m_L_in 0 [some (.ref 0), some (.int (x2 + 1)), some (.int 36)] [] h (.inl (some (.int v0)), h1)) (c_1 : tr_L g d m_L_in 0 [some (.ref 0), some (.int (x2 + 2)), some (.int 25)] [] h1 (.inl (some (.int v1)), h2)) (c_2 : tr_L g d m_L_in 0 [some (.ref 0), some (.int (x2 + 3)), some (.int 60)] [] h2 (.inl (some (.int v2)), h3)) (c_3 : tr_L g d m_L_in 0 [some (.ref 0), some (.int x2), some (.int 26)] [] h3 (.inl (some (.int v3)), h4)) (e : v3 = 10) (k : tr_L g (d + 1) m_L_acts 197 [some (.ref 1000), some (.ref 0), some (.int x2), some (.int v0), some (.int v1), some (.int v2)] [] h4 r) : tr_L g (d + 1) m_L_acts 0 [some (.ref 1000), some (.ref 0), some (.int x2), none, none, none] [] h r := by
  refine tr_s (.aload_n 1) 1 1 [some (.ref 1000), some (.ref 0), some (.int x2), none, none, none] [.ref 0] h rfl rfl rfl ?_
  refine tr_s (.iload_n 2) 1 2 [some (.ref 1000), some (.ref 0), some (.int x2), none, none, none] [.int x2, .ref 0] h rfl rfl rfl ?_
  refine tr_ic 1 1 (by decide) rfl ?_
  refine tr_s .iadd 1 4 [some (.ref 1000), some (.ref 0), some (.int x2), none, none, none] [.int (x2 + 1), .ref 0] h rfl rfl rfl ?_
  refine tr_bi 36 36 (by decide) rfl ?_
  refine tr_call (.invokestatic 122) 122 2 3 0 m_L_in [.ref 0, .int (x2 + 1), .int 36] [] (some (.int v0)) h1 rfl rfl rfl rfl rfl rfl rfl rfl rfl (tr_cok rfl (Or.inl rfl)) c_0 ?_
  have hL0 := c_0.2
  refine tr_st (.istore_n 3) 1 3 0 (.int v0) rfl rfl rfl rfl rfl rfl rfl ?_
  refine tr_s (.aload_n 1) 1 11 [some (.ref 1000), some (.ref 0), some (.int x2), some (.int v0), none, none] [.ref 0] h1 rfl rfl rfl ?_
  refine tr_s (.iload_n 2) 1 12 [some (.ref 1000), some (.ref 0), some (.int x2), some (.int v0), none, none] [.int x2, .ref 0] h1 rfl rfl rfl ?_
  refine tr_ic 2 2 (by decide) rfl ?_
  refine tr_s .iadd 1 14 [some (.ref 1000), some (.ref 0), some (.int x2), some (.int v0), none, none] [.int (x2 + 2), .ref 0] h1 rfl rfl rfl ?_
  refine tr_bi 25 25 (by decide) rfl ?_
  refine tr_call (.invokestatic 122) 122 2 3 0 m_L_in [.ref 0, .int (x2 + 2), .int 25] [] (some (.int v1)) h2 rfl rfl rfl rfl rfl rfl rfl rfl rfl (tr_cok rfl (Or.inl rfl)) c_1 ?_
  have hL1 := c_1.2
  refine tr_st (.istore 4) 2 4 0 (.int v1) rfl rfl rfl rfl rfl rfl rfl ?_
  refine tr_s (.aload_n 1) 1 22 [some (.ref 1000), some (.ref 0), some (.int x2), some (.int v0), some (.int v1), none] [.ref 0] h2 rfl rfl rfl ?_
  refine tr_s (.iload_n 2) 1 23 [some (.ref 1000), some (.ref 0), some (.int x2), some (.int v0), some (.int v1), none] [.int x2, .ref 0] h2 rfl rfl rfl ?_
  refine tr_ic 3 3 (by decide) rfl ?_
  refine tr_s .iadd 1 25 [some (.ref 1000), some (.ref 0), some (.int x2), some (.int v0), some (.int v1), none] [.int (x2 + 3), .ref 0] h2 rfl rfl rfl ?_
  refine tr_bi 60 60 (by decide) rfl ?_
  refine tr_call (.invokestatic 122) 122 2 3 0 m_L_in [.ref 0, .int (x2 + 3), .int 60] [] (some (.int v2)) h3 rfl rfl rfl rfl rfl rfl rfl rfl rfl (tr_cok rfl (Or.inl rfl)) c_2 ?_
  have hL2 := c_2.2
  refine tr_st (.istore 5) 2 5 0 (.int v2) rfl rfl rfl rfl rfl rfl rfl ?_
  refine tr_s (.aload_n 1) 1 33 [some (.ref 1000), some (.ref 0), some (.int x2), some (.int v0), some (.int v1), some (.int v2)] [.ref 0] h3 rfl rfl rfl ?_
  refine tr_s (.iload_n 2) 1 34 [some (.ref 1000), some (.ref 0), some (.int x2), some (.int v0), some (.int v1), some (.int v2)] [.int x2, .ref 0] h3 rfl rfl rfl ?_
  refine tr_bi 26 26 (by decide) rfl ?_
  refine tr_call (.invokestatic 122) 122 2 3 0 m_L_in [.ref 0, .int x2, .int 26] [] (some (.int v3)) h4 rfl rfl rfl rfl rfl rfl rfl rfl rfl (tr_cok rfl (Or.inl rfl)) c_3 ?_
  have hL3 := c_3.2
  exact tr_s (.tableswitch 210 0 20 #[97, 97, 97, 105, 131, 131, 131, 131, 131, 158, 158, 158, 158, 158, 186, 186, 200, 200, 200, 205, 205]) 97 197 [some (.ref 1000), some (.ref 0), some (.int x2), some (.int v0), some (.int v1), some (.int v2)] [] h4 rfl rfl (by rw [e]; rfl) k
set_option maxRecDepth 20000 in
theorem sg_L_acts_0_t11 {g : tr_g} {d : Nat} {h : ev_AH} {r : ev_O × ev_AH} {x2 v0 v1 v2 v3 : Int32} {h1 h2 h3 h4 : ev_AH} (hL : hh_L h) (c_0 : tr_L g d m_L_in 0 [some (.ref 0), some (.int (x2 + 1)), some (.int 36)] [] h (.inl (some (.int v0)), h1)) (c_1 : tr_L g d m_L_in 0 [some (.ref 0), some (.int (x2 + 2)), some (.int 25)] [] h1 (.inl (some (.int v1)), h2)) (c_2 : tr_L g d m_L_in 0 [some (.ref 0), some (.int (x2 + 3)), some (.int 60)] [] h2 (.inl (some (.int v2)), h3)) (c_3 : tr_L g d m_L_in 0 [some (.ref 0), some (.int x2), some (.int 26)] [] h3 (.inl (some (.int v3)), h4)) (e : v3 = 11) (k : tr_L g (d + 1) m_L_acts 197 [some (.ref 1000), some (.ref 0), some (.int x2), some (.int v0), some (.int v1), some (.int v2)] [] h4 r) : tr_L g (d + 1) m_L_acts 0 [some (.ref 1000), some (.ref 0), some (.int x2), none, none, none] [] h r := by
  refine tr_s (.aload_n 1) 1 1 [some (.ref 1000), some (.ref 0), some (.int x2), none, none, none] [.ref 0] h rfl rfl rfl ?_
  refine tr_s (.iload_n 2) 1 2 [some (.ref 1000), some (.ref 0), some (.int x2), none, none, none] [.int x2, .ref 0] h rfl rfl rfl ?_
  refine tr_ic 1 1 (by decide) rfl ?_
  refine tr_s .iadd 1 4 [some (.ref 1000), some (.ref 0), some (.int x2), none, none, none] [.int (x2 + 1), .ref 0] h rfl rfl rfl ?_
  refine tr_bi 36 36 (by decide) rfl ?_
  refine tr_call (.invokestatic 122) 122 2 3 0 m_L_in [.ref 0, .int (x2 + 1), .int 36] [] (some (.int v0)) h1 rfl rfl rfl rfl rfl rfl rfl rfl rfl (tr_cok rfl (Or.inl rfl)) c_0 ?_
  have hL0 := c_0.2
  refine tr_st (.istore_n 3) 1 3 0 (.int v0) rfl rfl rfl rfl rfl rfl rfl ?_
  refine tr_s (.aload_n 1) 1 11 [some (.ref 1000), some (.ref 0), some (.int x2), some (.int v0), none, none] [.ref 0] h1 rfl rfl rfl ?_
  refine tr_s (.iload_n 2) 1 12 [some (.ref 1000), some (.ref 0), some (.int x2), some (.int v0), none, none] [.int x2, .ref 0] h1 rfl rfl rfl ?_
  refine tr_ic 2 2 (by decide) rfl ?_
  refine tr_s .iadd 1 14 [some (.ref 1000), some (.ref 0), some (.int x2), some (.int v0), none, none] [.int (x2 + 2), .ref 0] h1 rfl rfl rfl ?_
  refine tr_bi 25 25 (by decide) rfl ?_
  refine tr_call (.invokestatic 122) 122 2 3 0 m_L_in [.ref 0, .int (x2 + 2), .int 25] [] (some (.int v1)) h2 rfl rfl rfl rfl rfl rfl rfl rfl rfl (tr_cok rfl (Or.inl rfl)) c_1 ?_
  have hL1 := c_1.2
  refine tr_st (.istore 4) 2 4 0 (.int v1) rfl rfl rfl rfl rfl rfl rfl ?_
  refine tr_s (.aload_n 1) 1 22 [some (.ref 1000), some (.ref 0), some (.int x2), some (.int v0), some (.int v1), none] [.ref 0] h2 rfl rfl rfl ?_
  refine tr_s (.iload_n 2) 1 23 [some (.ref 1000), some (.ref 0), some (.int x2), some (.int v0), some (.int v1), none] [.int x2, .ref 0] h2 rfl rfl rfl ?_
  refine tr_ic 3 3 (by decide) rfl ?_
  refine tr_s .iadd 1 25 [some (.ref 1000), some (.ref 0), some (.int x2), some (.int v0), some (.int v1), none] [.int (x2 + 3), .ref 0] h2 rfl rfl rfl ?_
  refine tr_bi 60 60 (by decide) rfl ?_
  refine tr_call (.invokestatic 122) 122 2 3 0 m_L_in [.ref 0, .int (x2 + 3), .int 60] [] (some (.int v2)) h3 rfl rfl rfl rfl rfl rfl rfl rfl rfl (tr_cok rfl (Or.inl rfl)) c_2 ?_
  have hL2 := c_2.2
  refine tr_st (.istore 5) 2 5 0 (.int v2) rfl rfl rfl rfl rfl rfl rfl ?_
  refine tr_s (.aload_n 1) 1 33 [some (.ref 1000), some (.ref 0), some (.int x2), some (.int v0), some (.int v1), some (.int v2)] [.ref 0] h3 rfl rfl rfl ?_
  refine tr_s (.iload_n 2) 1 34 [some (.ref 1000), some (.ref 0), some (.int x2), some (.int v0), some (.int v1), some (.int v2)] [.int x2, .ref 0] h3 rfl rfl rfl ?_
  refine tr_bi 26 26 (by decide) rfl ?_
  refine tr_call (.invokestatic 122) 122 2 3 0 m_L_in [.ref 0, .int x2, .int 26] [] (some (.int v3)) h4 rfl rfl rfl rfl rfl rfl rfl rfl rfl (tr_cok rfl (Or.inl rfl)) c_3 ?_
  have hL3 := c_3.2
  exact tr_s (.tableswitch 210 0 20 #[97, 97, 97, 105, 131, 131, 131, 131, 131, 158, 158, 158, 158, 158, 186, 186, 200, 200, 200, 205, 205]) 97 197 [some (.ref 1000), some (.ref 0), some (.int x2), some (.int v0), some (.int v1), some (.int v2)] [] h4 rfl rfl (by rw [e]; rfl) k
set_option maxRecDepth 20000 in
theorem sg_L_acts_0_t12 {g : tr_g} {d : Nat} {h : ev_AH} {r : ev_O × ev_AH} {x2 v0 v1 v2 v3 : Int32} {h1 h2 h3 h4 : ev_AH} (hL : hh_L h) (c_0 : tr_L g d m_L_in 0 [some (.ref 0), some (.int (x2 + 1)), some (.int 36)] [] h (.inl (some (.int v0)), h1)) (c_1 : tr_L g d m_L_in 0 [some (.ref 0), some (.int (x2 + 2)), some (.int 25)] [] h1 (.inl (some (.int v1)), h2)) (c_2 : tr_L g d m_L_in 0 [some (.ref 0), some (.int (x2 + 3)), some (.int 60)] [] h2 (.inl (some (.int v2)), h3)) (c_3 : tr_L g d m_L_in 0 [some (.ref 0), some (.int x2), some (.int 26)] [] h3 (.inl (some (.int v3)), h4)) (e : v3 = 12) (k : tr_L g (d + 1) m_L_acts 197 [some (.ref 1000), some (.ref 0), some (.int x2), some (.int v0), some (.int v1), some (.int v2)] [] h4 r) : tr_L g (d + 1) m_L_acts 0 [some (.ref 1000), some (.ref 0), some (.int x2), none, none, none] [] h r := by
  refine tr_s (.aload_n 1) 1 1 [some (.ref 1000), some (.ref 0), some (.int x2), none, none, none] [.ref 0] h rfl rfl rfl ?_
  refine tr_s (.iload_n 2) 1 2 [some (.ref 1000), some (.ref 0), some (.int x2), none, none, none] [.int x2, .ref 0] h rfl rfl rfl ?_
  refine tr_ic 1 1 (by decide) rfl ?_
  refine tr_s .iadd 1 4 [some (.ref 1000), some (.ref 0), some (.int x2), none, none, none] [.int (x2 + 1), .ref 0] h rfl rfl rfl ?_
  refine tr_bi 36 36 (by decide) rfl ?_
  refine tr_call (.invokestatic 122) 122 2 3 0 m_L_in [.ref 0, .int (x2 + 1), .int 36] [] (some (.int v0)) h1 rfl rfl rfl rfl rfl rfl rfl rfl rfl (tr_cok rfl (Or.inl rfl)) c_0 ?_
  have hL0 := c_0.2
  refine tr_st (.istore_n 3) 1 3 0 (.int v0) rfl rfl rfl rfl rfl rfl rfl ?_
  refine tr_s (.aload_n 1) 1 11 [some (.ref 1000), some (.ref 0), some (.int x2), some (.int v0), none, none] [.ref 0] h1 rfl rfl rfl ?_
  refine tr_s (.iload_n 2) 1 12 [some (.ref 1000), some (.ref 0), some (.int x2), some (.int v0), none, none] [.int x2, .ref 0] h1 rfl rfl rfl ?_
  refine tr_ic 2 2 (by decide) rfl ?_
  refine tr_s .iadd 1 14 [some (.ref 1000), some (.ref 0), some (.int x2), some (.int v0), none, none] [.int (x2 + 2), .ref 0] h1 rfl rfl rfl ?_
  refine tr_bi 25 25 (by decide) rfl ?_
  refine tr_call (.invokestatic 122) 122 2 3 0 m_L_in [.ref 0, .int (x2 + 2), .int 25] [] (some (.int v1)) h2 rfl rfl rfl rfl rfl rfl rfl rfl rfl (tr_cok rfl (Or.inl rfl)) c_1 ?_
  have hL1 := c_1.2
  refine tr_st (.istore 4) 2 4 0 (.int v1) rfl rfl rfl rfl rfl rfl rfl ?_
  refine tr_s (.aload_n 1) 1 22 [some (.ref 1000), some (.ref 0), some (.int x2), some (.int v0), some (.int v1), none] [.ref 0] h2 rfl rfl rfl ?_
  refine tr_s (.iload_n 2) 1 23 [some (.ref 1000), some (.ref 0), some (.int x2), some (.int v0), some (.int v1), none] [.int x2, .ref 0] h2 rfl rfl rfl ?_
  refine tr_ic 3 3 (by decide) rfl ?_
  refine tr_s .iadd 1 25 [some (.ref 1000), some (.ref 0), some (.int x2), some (.int v0), some (.int v1), none] [.int (x2 + 3), .ref 0] h2 rfl rfl rfl ?_
  refine tr_bi 60 60 (by decide) rfl ?_
  refine tr_call (.invokestatic 122) 122 2 3 0 m_L_in [.ref 0, .int (x2 + 3), .int 60] [] (some (.int v2)) h3 rfl rfl rfl rfl rfl rfl rfl rfl rfl (tr_cok rfl (Or.inl rfl)) c_2 ?_
  have hL2 := c_2.2
  refine tr_st (.istore 5) 2 5 0 (.int v2) rfl rfl rfl rfl rfl rfl rfl ?_
  refine tr_s (.aload_n 1) 1 33 [some (.ref 1000), some (.ref 0), some (.int x2), some (.int v0), some (.int v1), some (.int v2)] [.ref 0] h3 rfl rfl rfl ?_
  refine tr_s (.iload_n 2) 1 34 [some (.ref 1000), some (.ref 0), some (.int x2), some (.int v0), some (.int v1), some (.int v2)] [.int x2, .ref 0] h3 rfl rfl rfl ?_
  refine tr_bi 26 26 (by decide) rfl ?_
  refine tr_call (.invokestatic 122) 122 2 3 0 m_L_in [.ref 0, .int x2, .int 26] [] (some (.int v3)) h4 rfl rfl rfl rfl rfl rfl rfl rfl rfl (tr_cok rfl (Or.inl rfl)) c_3 ?_
  have hL3 := c_3.2
  exact tr_s (.tableswitch 210 0 20 #[97, 97, 97, 105, 131, 131, 131, 131, 131, 158, 158, 158, 158, 158, 186, 186, 200, 200, 200, 205, 205]) 97 197 [some (.ref 1000), some (.ref 0), some (.int x2), some (.int v0), some (.int v1), some (.int v2)] [] h4 rfl rfl (by rw [e]; rfl) k
set_option maxRecDepth 20000 in
theorem sg_L_acts_0_t13 {g : tr_g} {d : Nat} {h : ev_AH} {r : ev_O × ev_AH} {x2 v0 v1 v2 v3 : Int32} {h1 h2 h3 h4 : ev_AH} (hL : hh_L h) (c_0 : tr_L g d m_L_in 0 [some (.ref 0), some (.int (x2 + 1)), some (.int 36)] [] h (.inl (some (.int v0)), h1)) (c_1 : tr_L g d m_L_in 0 [some (.ref 0), some (.int (x2 + 2)), some (.int 25)] [] h1 (.inl (some (.int v1)), h2)) (c_2 : tr_L g d m_L_in 0 [some (.ref 0), some (.int (x2 + 3)), some (.int 60)] [] h2 (.inl (some (.int v2)), h3)) (c_3 : tr_L g d m_L_in 0 [some (.ref 0), some (.int x2), some (.int 26)] [] h3 (.inl (some (.int v3)), h4)) (e : v3 = 13) (k : tr_L g (d + 1) m_L_acts 197 [some (.ref 1000), some (.ref 0), some (.int x2), some (.int v0), some (.int v1), some (.int v2)] [] h4 r) : tr_L g (d + 1) m_L_acts 0 [some (.ref 1000), some (.ref 0), some (.int x2), none, none, none] [] h r := by
  refine tr_s (.aload_n 1) 1 1 [some (.ref 1000), some (.ref 0), some (.int x2), none, none, none] [.ref 0] h rfl rfl rfl ?_
  refine tr_s (.iload_n 2) 1 2 [some (.ref 1000), some (.ref 0), some (.int x2), none, none, none] [.int x2, .ref 0] h rfl rfl rfl ?_
  refine tr_ic 1 1 (by decide) rfl ?_
  refine tr_s .iadd 1 4 [some (.ref 1000), some (.ref 0), some (.int x2), none, none, none] [.int (x2 + 1), .ref 0] h rfl rfl rfl ?_
  refine tr_bi 36 36 (by decide) rfl ?_
  refine tr_call (.invokestatic 122) 122 2 3 0 m_L_in [.ref 0, .int (x2 + 1), .int 36] [] (some (.int v0)) h1 rfl rfl rfl rfl rfl rfl rfl rfl rfl (tr_cok rfl (Or.inl rfl)) c_0 ?_
  have hL0 := c_0.2
  refine tr_st (.istore_n 3) 1 3 0 (.int v0) rfl rfl rfl rfl rfl rfl rfl ?_
  refine tr_s (.aload_n 1) 1 11 [some (.ref 1000), some (.ref 0), some (.int x2), some (.int v0), none, none] [.ref 0] h1 rfl rfl rfl ?_
  refine tr_s (.iload_n 2) 1 12 [some (.ref 1000), some (.ref 0), some (.int x2), some (.int v0), none, none] [.int x2, .ref 0] h1 rfl rfl rfl ?_
  refine tr_ic 2 2 (by decide) rfl ?_
  refine tr_s .iadd 1 14 [some (.ref 1000), some (.ref 0), some (.int x2), some (.int v0), none, none] [.int (x2 + 2), .ref 0] h1 rfl rfl rfl ?_
  refine tr_bi 25 25 (by decide) rfl ?_
  refine tr_call (.invokestatic 122) 122 2 3 0 m_L_in [.ref 0, .int (x2 + 2), .int 25] [] (some (.int v1)) h2 rfl rfl rfl rfl rfl rfl rfl rfl rfl (tr_cok rfl (Or.inl rfl)) c_1 ?_
  have hL1 := c_1.2
  refine tr_st (.istore 4) 2 4 0 (.int v1) rfl rfl rfl rfl rfl rfl rfl ?_
  refine tr_s (.aload_n 1) 1 22 [some (.ref 1000), some (.ref 0), some (.int x2), some (.int v0), some (.int v1), none] [.ref 0] h2 rfl rfl rfl ?_
  refine tr_s (.iload_n 2) 1 23 [some (.ref 1000), some (.ref 0), some (.int x2), some (.int v0), some (.int v1), none] [.int x2, .ref 0] h2 rfl rfl rfl ?_
  refine tr_ic 3 3 (by decide) rfl ?_
  refine tr_s .iadd 1 25 [some (.ref 1000), some (.ref 0), some (.int x2), some (.int v0), some (.int v1), none] [.int (x2 + 3), .ref 0] h2 rfl rfl rfl ?_
  refine tr_bi 60 60 (by decide) rfl ?_
  refine tr_call (.invokestatic 122) 122 2 3 0 m_L_in [.ref 0, .int (x2 + 3), .int 60] [] (some (.int v2)) h3 rfl rfl rfl rfl rfl rfl rfl rfl rfl (tr_cok rfl (Or.inl rfl)) c_2 ?_
  have hL2 := c_2.2
  refine tr_st (.istore 5) 2 5 0 (.int v2) rfl rfl rfl rfl rfl rfl rfl ?_
  refine tr_s (.aload_n 1) 1 33 [some (.ref 1000), some (.ref 0), some (.int x2), some (.int v0), some (.int v1), some (.int v2)] [.ref 0] h3 rfl rfl rfl ?_
  refine tr_s (.iload_n 2) 1 34 [some (.ref 1000), some (.ref 0), some (.int x2), some (.int v0), some (.int v1), some (.int v2)] [.int x2, .ref 0] h3 rfl rfl rfl ?_
  refine tr_bi 26 26 (by decide) rfl ?_
  refine tr_call (.invokestatic 122) 122 2 3 0 m_L_in [.ref 0, .int x2, .int 26] [] (some (.int v3)) h4 rfl rfl rfl rfl rfl rfl rfl rfl rfl (tr_cok rfl (Or.inl rfl)) c_3 ?_
  have hL3 := c_3.2
  exact tr_s (.tableswitch 210 0 20 #[97, 97, 97, 105, 131, 131, 131, 131, 131, 158, 158, 158, 158, 158, 186, 186, 200, 200, 200, 205, 205]) 97 197 [some (.ref 1000), some (.ref 0), some (.int x2), some (.int v0), some (.int v1), some (.int v2)] [] h4 rfl rfl (by rw [e]; rfl) k
set_option maxRecDepth 20000 in
theorem sg_L_acts_0_t14 {g : tr_g} {d : Nat} {h : ev_AH} {r : ev_O × ev_AH} {x2 v0 v1 v2 v3 : Int32} {h1 h2 h3 h4 : ev_AH} (hL : hh_L h) (c_0 : tr_L g d m_L_in 0 [some (.ref 0), some (.int (x2 + 1)), some (.int 36)] [] h (.inl (some (.int v0)), h1)) (c_1 : tr_L g d m_L_in 0 [some (.ref 0), some (.int (x2 + 2)), some (.int 25)] [] h1 (.inl (some (.int v1)), h2)) (c_2 : tr_L g d m_L_in 0 [some (.ref 0), some (.int (x2 + 3)), some (.int 60)] [] h2 (.inl (some (.int v2)), h3)) (c_3 : tr_L g d m_L_in 0 [some (.ref 0), some (.int x2), some (.int 26)] [] h3 (.inl (some (.int v3)), h4)) (e : v3 = 14) (k : tr_L g (d + 1) m_L_acts 225 [some (.ref 1000), some (.ref 0), some (.int x2), some (.int v0), some (.int v1), some (.int v2)] [] h4 r) : tr_L g (d + 1) m_L_acts 0 [some (.ref 1000), some (.ref 0), some (.int x2), none, none, none] [] h r := by
  refine tr_s (.aload_n 1) 1 1 [some (.ref 1000), some (.ref 0), some (.int x2), none, none, none] [.ref 0] h rfl rfl rfl ?_
  refine tr_s (.iload_n 2) 1 2 [some (.ref 1000), some (.ref 0), some (.int x2), none, none, none] [.int x2, .ref 0] h rfl rfl rfl ?_
  refine tr_ic 1 1 (by decide) rfl ?_
  refine tr_s .iadd 1 4 [some (.ref 1000), some (.ref 0), some (.int x2), none, none, none] [.int (x2 + 1), .ref 0] h rfl rfl rfl ?_
  refine tr_bi 36 36 (by decide) rfl ?_
  refine tr_call (.invokestatic 122) 122 2 3 0 m_L_in [.ref 0, .int (x2 + 1), .int 36] [] (some (.int v0)) h1 rfl rfl rfl rfl rfl rfl rfl rfl rfl (tr_cok rfl (Or.inl rfl)) c_0 ?_
  have hL0 := c_0.2
  refine tr_st (.istore_n 3) 1 3 0 (.int v0) rfl rfl rfl rfl rfl rfl rfl ?_
  refine tr_s (.aload_n 1) 1 11 [some (.ref 1000), some (.ref 0), some (.int x2), some (.int v0), none, none] [.ref 0] h1 rfl rfl rfl ?_
  refine tr_s (.iload_n 2) 1 12 [some (.ref 1000), some (.ref 0), some (.int x2), some (.int v0), none, none] [.int x2, .ref 0] h1 rfl rfl rfl ?_
  refine tr_ic 2 2 (by decide) rfl ?_
  refine tr_s .iadd 1 14 [some (.ref 1000), some (.ref 0), some (.int x2), some (.int v0), none, none] [.int (x2 + 2), .ref 0] h1 rfl rfl rfl ?_
  refine tr_bi 25 25 (by decide) rfl ?_
  refine tr_call (.invokestatic 122) 122 2 3 0 m_L_in [.ref 0, .int (x2 + 2), .int 25] [] (some (.int v1)) h2 rfl rfl rfl rfl rfl rfl rfl rfl rfl (tr_cok rfl (Or.inl rfl)) c_1 ?_
  have hL1 := c_1.2
  refine tr_st (.istore 4) 2 4 0 (.int v1) rfl rfl rfl rfl rfl rfl rfl ?_
  refine tr_s (.aload_n 1) 1 22 [some (.ref 1000), some (.ref 0), some (.int x2), some (.int v0), some (.int v1), none] [.ref 0] h2 rfl rfl rfl ?_
  refine tr_s (.iload_n 2) 1 23 [some (.ref 1000), some (.ref 0), some (.int x2), some (.int v0), some (.int v1), none] [.int x2, .ref 0] h2 rfl rfl rfl ?_
  refine tr_ic 3 3 (by decide) rfl ?_
  refine tr_s .iadd 1 25 [some (.ref 1000), some (.ref 0), some (.int x2), some (.int v0), some (.int v1), none] [.int (x2 + 3), .ref 0] h2 rfl rfl rfl ?_
  refine tr_bi 60 60 (by decide) rfl ?_
  refine tr_call (.invokestatic 122) 122 2 3 0 m_L_in [.ref 0, .int (x2 + 3), .int 60] [] (some (.int v2)) h3 rfl rfl rfl rfl rfl rfl rfl rfl rfl (tr_cok rfl (Or.inl rfl)) c_2 ?_
  have hL2 := c_2.2
  refine tr_st (.istore 5) 2 5 0 (.int v2) rfl rfl rfl rfl rfl rfl rfl ?_
  refine tr_s (.aload_n 1) 1 33 [some (.ref 1000), some (.ref 0), some (.int x2), some (.int v0), some (.int v1), some (.int v2)] [.ref 0] h3 rfl rfl rfl ?_
  refine tr_s (.iload_n 2) 1 34 [some (.ref 1000), some (.ref 0), some (.int x2), some (.int v0), some (.int v1), some (.int v2)] [.int x2, .ref 0] h3 rfl rfl rfl ?_
  refine tr_bi 26 26 (by decide) rfl ?_
  refine tr_call (.invokestatic 122) 122 2 3 0 m_L_in [.ref 0, .int x2, .int 26] [] (some (.int v3)) h4 rfl rfl rfl rfl rfl rfl rfl rfl rfl (tr_cok rfl (Or.inl rfl)) c_3 ?_
  have hL3 := c_3.2
  exact tr_s (.tableswitch 210 0 20 #[97, 97, 97, 105, 131, 131, 131, 131, 131, 158, 158, 158, 158, 158, 186, 186, 200, 200, 200, 205, 205]) 97 225 [some (.ref 1000), some (.ref 0), some (.int x2), some (.int v0), some (.int v1), some (.int v2)] [] h4 rfl rfl (by rw [e]; rfl) k
set_option maxRecDepth 20000 in
theorem sg_L_acts_0_t15 {g : tr_g} {d : Nat} {h : ev_AH} {r : ev_O × ev_AH} {x2 v0 v1 v2 v3 : Int32} {h1 h2 h3 h4 : ev_AH} (hL : hh_L h) (c_0 : tr_L g d m_L_in 0 [some (.ref 0), some (.int (x2 + 1)), some (.int 36)] [] h (.inl (some (.int v0)), h1)) (c_1 : tr_L g d m_L_in 0 [some (.ref 0), some (.int (x2 + 2)), some (.int 25)] [] h1 (.inl (some (.int v1)), h2)) (c_2 : tr_L g d m_L_in 0 [some (.ref 0), some (.int (x2 + 3)), some (.int 60)] [] h2 (.inl (some (.int v2)), h3)) (c_3 : tr_L g d m_L_in 0 [some (.ref 0), some (.int x2), some (.int 26)] [] h3 (.inl (some (.int v3)), h4)) (e : v3 = 15) (k : tr_L g (d + 1) m_L_acts 225 [some (.ref 1000), some (.ref 0), some (.int x2), some (.int v0), some (.int v1), some (.int v2)] [] h4 r) : tr_L g (d + 1) m_L_acts 0 [some (.ref 1000), some (.ref 0), some (.int x2), none, none, none] [] h r := by
  refine tr_s (.aload_n 1) 1 1 [some (.ref 1000), some (.ref 0), some (.int x2), none, none, none] [.ref 0] h rfl rfl rfl ?_
  refine tr_s (.iload_n 2) 1 2 [some (.ref 1000), some (.ref 0), some (.int x2), none, none, none] [.int x2, .ref 0] h rfl rfl rfl ?_
  refine tr_ic 1 1 (by decide) rfl ?_
  refine tr_s .iadd 1 4 [some (.ref 1000), some (.ref 0), some (.int x2), none, none, none] [.int (x2 + 1), .ref 0] h rfl rfl rfl ?_
  refine tr_bi 36 36 (by decide) rfl ?_
  refine tr_call (.invokestatic 122) 122 2 3 0 m_L_in [.ref 0, .int (x2 + 1), .int 36] [] (some (.int v0)) h1 rfl rfl rfl rfl rfl rfl rfl rfl rfl (tr_cok rfl (Or.inl rfl)) c_0 ?_
  have hL0 := c_0.2
  refine tr_st (.istore_n 3) 1 3 0 (.int v0) rfl rfl rfl rfl rfl rfl rfl ?_
  refine tr_s (.aload_n 1) 1 11 [some (.ref 1000), some (.ref 0), some (.int x2), some (.int v0), none, none] [.ref 0] h1 rfl rfl rfl ?_
  refine tr_s (.iload_n 2) 1 12 [some (.ref 1000), some (.ref 0), some (.int x2), some (.int v0), none, none] [.int x2, .ref 0] h1 rfl rfl rfl ?_
  refine tr_ic 2 2 (by decide) rfl ?_
  refine tr_s .iadd 1 14 [some (.ref 1000), some (.ref 0), some (.int x2), some (.int v0), none, none] [.int (x2 + 2), .ref 0] h1 rfl rfl rfl ?_
  refine tr_bi 25 25 (by decide) rfl ?_
  refine tr_call (.invokestatic 122) 122 2 3 0 m_L_in [.ref 0, .int (x2 + 2), .int 25] [] (some (.int v1)) h2 rfl rfl rfl rfl rfl rfl rfl rfl rfl (tr_cok rfl (Or.inl rfl)) c_1 ?_
  have hL1 := c_1.2
  refine tr_st (.istore 4) 2 4 0 (.int v1) rfl rfl rfl rfl rfl rfl rfl ?_
  refine tr_s (.aload_n 1) 1 22 [some (.ref 1000), some (.ref 0), some (.int x2), some (.int v0), some (.int v1), none] [.ref 0] h2 rfl rfl rfl ?_
  refine tr_s (.iload_n 2) 1 23 [some (.ref 1000), some (.ref 0), some (.int x2), some (.int v0), some (.int v1), none] [.int x2, .ref 0] h2 rfl rfl rfl ?_
  refine tr_ic 3 3 (by decide) rfl ?_
  refine tr_s .iadd 1 25 [some (.ref 1000), some (.ref 0), some (.int x2), some (.int v0), some (.int v1), none] [.int (x2 + 3), .ref 0] h2 rfl rfl rfl ?_
  refine tr_bi 60 60 (by decide) rfl ?_
  refine tr_call (.invokestatic 122) 122 2 3 0 m_L_in [.ref 0, .int (x2 + 3), .int 60] [] (some (.int v2)) h3 rfl rfl rfl rfl rfl rfl rfl rfl rfl (tr_cok rfl (Or.inl rfl)) c_2 ?_
  have hL2 := c_2.2
  refine tr_st (.istore 5) 2 5 0 (.int v2) rfl rfl rfl rfl rfl rfl rfl ?_
  refine tr_s (.aload_n 1) 1 33 [some (.ref 1000), some (.ref 0), some (.int x2), some (.int v0), some (.int v1), some (.int v2)] [.ref 0] h3 rfl rfl rfl ?_
  refine tr_s (.iload_n 2) 1 34 [some (.ref 1000), some (.ref 0), some (.int x2), some (.int v0), some (.int v1), some (.int v2)] [.int x2, .ref 0] h3 rfl rfl rfl ?_
  refine tr_bi 26 26 (by decide) rfl ?_
  refine tr_call (.invokestatic 122) 122 2 3 0 m_L_in [.ref 0, .int x2, .int 26] [] (some (.int v3)) h4 rfl rfl rfl rfl rfl rfl rfl rfl rfl (tr_cok rfl (Or.inl rfl)) c_3 ?_
  have hL3 := c_3.2
  exact tr_s (.tableswitch 210 0 20 #[97, 97, 97, 105, 131, 131, 131, 131, 131, 158, 158, 158, 158, 158, 186, 186, 200, 200, 200, 205, 205]) 97 225 [some (.ref 1000), some (.ref 0), some (.int x2), some (.int v0), some (.int v1), some (.int v2)] [] h4 rfl rfl (by rw [e]; rfl) k
set_option maxRecDepth 20000 in
theorem sg_L_acts_0_t16 {g : tr_g} {d : Nat} {h : ev_AH} {r : ev_O × ev_AH} {x2 v0 v1 v2 v3 : Int32} {h1 h2 h3 h4 : ev_AH} (hL : hh_L h) (c_0 : tr_L g d m_L_in 0 [some (.ref 0), some (.int (x2 + 1)), some (.int 36)] [] h (.inl (some (.int v0)), h1)) (c_1 : tr_L g d m_L_in 0 [some (.ref 0), some (.int (x2 + 2)), some (.int 25)] [] h1 (.inl (some (.int v1)), h2)) (c_2 : tr_L g d m_L_in 0 [some (.ref 0), some (.int (x2 + 3)), some (.int 60)] [] h2 (.inl (some (.int v2)), h3)) (c_3 : tr_L g d m_L_in 0 [some (.ref 0), some (.int x2), some (.int 26)] [] h3 (.inl (some (.int v3)), h4)) (e : v3 = 16) (k : tr_L g (d + 1) m_L_acts 239 [some (.ref 1000), some (.ref 0), some (.int x2), some (.int v0), some (.int v1), some (.int v2)] [] h4 r) : tr_L g (d + 1) m_L_acts 0 [some (.ref 1000), some (.ref 0), some (.int x2), none, none, none] [] h r := by
  refine tr_s (.aload_n 1) 1 1 [some (.ref 1000), some (.ref 0), some (.int x2), none, none, none] [.ref 0] h rfl rfl rfl ?_
  refine tr_s (.iload_n 2) 1 2 [some (.ref 1000), some (.ref 0), some (.int x2), none, none, none] [.int x2, .ref 0] h rfl rfl rfl ?_
  refine tr_ic 1 1 (by decide) rfl ?_
  refine tr_s .iadd 1 4 [some (.ref 1000), some (.ref 0), some (.int x2), none, none, none] [.int (x2 + 1), .ref 0] h rfl rfl rfl ?_
  refine tr_bi 36 36 (by decide) rfl ?_
  refine tr_call (.invokestatic 122) 122 2 3 0 m_L_in [.ref 0, .int (x2 + 1), .int 36] [] (some (.int v0)) h1 rfl rfl rfl rfl rfl rfl rfl rfl rfl (tr_cok rfl (Or.inl rfl)) c_0 ?_
  have hL0 := c_0.2
  refine tr_st (.istore_n 3) 1 3 0 (.int v0) rfl rfl rfl rfl rfl rfl rfl ?_
  refine tr_s (.aload_n 1) 1 11 [some (.ref 1000), some (.ref 0), some (.int x2), some (.int v0), none, none] [.ref 0] h1 rfl rfl rfl ?_
  refine tr_s (.iload_n 2) 1 12 [some (.ref 1000), some (.ref 0), some (.int x2), some (.int v0), none, none] [.int x2, .ref 0] h1 rfl rfl rfl ?_
  refine tr_ic 2 2 (by decide) rfl ?_
  refine tr_s .iadd 1 14 [some (.ref 1000), some (.ref 0), some (.int x2), some (.int v0), none, none] [.int (x2 + 2), .ref 0] h1 rfl rfl rfl ?_
  refine tr_bi 25 25 (by decide) rfl ?_
  refine tr_call (.invokestatic 122) 122 2 3 0 m_L_in [.ref 0, .int (x2 + 2), .int 25] [] (some (.int v1)) h2 rfl rfl rfl rfl rfl rfl rfl rfl rfl (tr_cok rfl (Or.inl rfl)) c_1 ?_
  have hL1 := c_1.2
  refine tr_st (.istore 4) 2 4 0 (.int v1) rfl rfl rfl rfl rfl rfl rfl ?_
  refine tr_s (.aload_n 1) 1 22 [some (.ref 1000), some (.ref 0), some (.int x2), some (.int v0), some (.int v1), none] [.ref 0] h2 rfl rfl rfl ?_
  refine tr_s (.iload_n 2) 1 23 [some (.ref 1000), some (.ref 0), some (.int x2), some (.int v0), some (.int v1), none] [.int x2, .ref 0] h2 rfl rfl rfl ?_
  refine tr_ic 3 3 (by decide) rfl ?_
  refine tr_s .iadd 1 25 [some (.ref 1000), some (.ref 0), some (.int x2), some (.int v0), some (.int v1), none] [.int (x2 + 3), .ref 0] h2 rfl rfl rfl ?_
  refine tr_bi 60 60 (by decide) rfl ?_
  refine tr_call (.invokestatic 122) 122 2 3 0 m_L_in [.ref 0, .int (x2 + 3), .int 60] [] (some (.int v2)) h3 rfl rfl rfl rfl rfl rfl rfl rfl rfl (tr_cok rfl (Or.inl rfl)) c_2 ?_
  have hL2 := c_2.2
  refine tr_st (.istore 5) 2 5 0 (.int v2) rfl rfl rfl rfl rfl rfl rfl ?_
  refine tr_s (.aload_n 1) 1 33 [some (.ref 1000), some (.ref 0), some (.int x2), some (.int v0), some (.int v1), some (.int v2)] [.ref 0] h3 rfl rfl rfl ?_
  refine tr_s (.iload_n 2) 1 34 [some (.ref 1000), some (.ref 0), some (.int x2), some (.int v0), some (.int v1), some (.int v2)] [.int x2, .ref 0] h3 rfl rfl rfl ?_
  refine tr_bi 26 26 (by decide) rfl ?_
  refine tr_call (.invokestatic 122) 122 2 3 0 m_L_in [.ref 0, .int x2, .int 26] [] (some (.int v3)) h4 rfl rfl rfl rfl rfl rfl rfl rfl rfl (tr_cok rfl (Or.inl rfl)) c_3 ?_
  have hL3 := c_3.2
  exact tr_s (.tableswitch 210 0 20 #[97, 97, 97, 105, 131, 131, 131, 131, 131, 158, 158, 158, 158, 158, 186, 186, 200, 200, 200, 205, 205]) 97 239 [some (.ref 1000), some (.ref 0), some (.int x2), some (.int v0), some (.int v1), some (.int v2)] [] h4 rfl rfl (by rw [e]; rfl) k
set_option maxRecDepth 20000 in
theorem sg_L_acts_0_t17 {g : tr_g} {d : Nat} {h : ev_AH} {r : ev_O × ev_AH} {x2 v0 v1 v2 v3 : Int32} {h1 h2 h3 h4 : ev_AH} (hL : hh_L h) (c_0 : tr_L g d m_L_in 0 [some (.ref 0), some (.int (x2 + 1)), some (.int 36)] [] h (.inl (some (.int v0)), h1)) (c_1 : tr_L g d m_L_in 0 [some (.ref 0), some (.int (x2 + 2)), some (.int 25)] [] h1 (.inl (some (.int v1)), h2)) (c_2 : tr_L g d m_L_in 0 [some (.ref 0), some (.int (x2 + 3)), some (.int 60)] [] h2 (.inl (some (.int v2)), h3)) (c_3 : tr_L g d m_L_in 0 [some (.ref 0), some (.int x2), some (.int 26)] [] h3 (.inl (some (.int v3)), h4)) (e : v3 = 17) (k : tr_L g (d + 1) m_L_acts 239 [some (.ref 1000), some (.ref 0), some (.int x2), some (.int v0), some (.int v1), some (.int v2)] [] h4 r) : tr_L g (d + 1) m_L_acts 0 [some (.ref 1000), some (.ref 0), some (.int x2), none, none, none] [] h r := by
  refine tr_s (.aload_n 1) 1 1 [some (.ref 1000), some (.ref 0), some (.int x2), none, none, none] [.ref 0] h rfl rfl rfl ?_
  refine tr_s (.iload_n 2) 1 2 [some (.ref 1000), some (.ref 0), some (.int x2), none, none, none] [.int x2, .ref 0] h rfl rfl rfl ?_
  refine tr_ic 1 1 (by decide) rfl ?_
  refine tr_s .iadd 1 4 [some (.ref 1000), some (.ref 0), some (.int x2), none, none, none] [.int (x2 + 1), .ref 0] h rfl rfl rfl ?_
  refine tr_bi 36 36 (by decide) rfl ?_
  refine tr_call (.invokestatic 122) 122 2 3 0 m_L_in [.ref 0, .int (x2 + 1), .int 36] [] (some (.int v0)) h1 rfl rfl rfl rfl rfl rfl rfl rfl rfl (tr_cok rfl (Or.inl rfl)) c_0 ?_
  have hL0 := c_0.2
  refine tr_st (.istore_n 3) 1 3 0 (.int v0) rfl rfl rfl rfl rfl rfl rfl ?_
  refine tr_s (.aload_n 1) 1 11 [some (.ref 1000), some (.ref 0), some (.int x2), some (.int v0), none, none] [.ref 0] h1 rfl rfl rfl ?_
  refine tr_s (.iload_n 2) 1 12 [some (.ref 1000), some (.ref 0), some (.int x2), some (.int v0), none, none] [.int x2, .ref 0] h1 rfl rfl rfl ?_
  refine tr_ic 2 2 (by decide) rfl ?_
  refine tr_s .iadd 1 14 [some (.ref 1000), some (.ref 0), some (.int x2), some (.int v0), none, none] [.int (x2 + 2), .ref 0] h1 rfl rfl rfl ?_
  refine tr_bi 25 25 (by decide) rfl ?_
  refine tr_call (.invokestatic 122) 122 2 3 0 m_L_in [.ref 0, .int (x2 + 2), .int 25] [] (some (.int v1)) h2 rfl rfl rfl rfl rfl rfl rfl rfl rfl (tr_cok rfl (Or.inl rfl)) c_1 ?_
  have hL1 := c_1.2
  refine tr_st (.istore 4) 2 4 0 (.int v1) rfl rfl rfl rfl rfl rfl rfl ?_
  refine tr_s (.aload_n 1) 1 22 [some (.ref 1000), some (.ref 0), some (.int x2), some (.int v0), some (.int v1), none] [.ref 0] h2 rfl rfl rfl ?_
  refine tr_s (.iload_n 2) 1 23 [some (.ref 1000), some (.ref 0), some (.int x2), some (.int v0), some (.int v1), none] [.int x2, .ref 0] h2 rfl rfl rfl ?_
  refine tr_ic 3 3 (by decide) rfl ?_
  refine tr_s .iadd 1 25 [some (.ref 1000), some (.ref 0), some (.int x2), some (.int v0), some (.int v1), none] [.int (x2 + 3), .ref 0] h2 rfl rfl rfl ?_
  refine tr_bi 60 60 (by decide) rfl ?_
  refine tr_call (.invokestatic 122) 122 2 3 0 m_L_in [.ref 0, .int (x2 + 3), .int 60] [] (some (.int v2)) h3 rfl rfl rfl rfl rfl rfl rfl rfl rfl (tr_cok rfl (Or.inl rfl)) c_2 ?_
  have hL2 := c_2.2
  refine tr_st (.istore 5) 2 5 0 (.int v2) rfl rfl rfl rfl rfl rfl rfl ?_
  refine tr_s (.aload_n 1) 1 33 [some (.ref 1000), some (.ref 0), some (.int x2), some (.int v0), some (.int v1), some (.int v2)] [.ref 0] h3 rfl rfl rfl ?_
  refine tr_s (.iload_n 2) 1 34 [some (.ref 1000), some (.ref 0), some (.int x2), some (.int v0), some (.int v1), some (.int v2)] [.int x2, .ref 0] h3 rfl rfl rfl ?_
  refine tr_bi 26 26 (by decide) rfl ?_
  refine tr_call (.invokestatic 122) 122 2 3 0 m_L_in [.ref 0, .int x2, .int 26] [] (some (.int v3)) h4 rfl rfl rfl rfl rfl rfl rfl rfl rfl (tr_cok rfl (Or.inl rfl)) c_3 ?_
  have hL3 := c_3.2
  exact tr_s (.tableswitch 210 0 20 #[97, 97, 97, 105, 131, 131, 131, 131, 131, 158, 158, 158, 158, 158, 186, 186, 200, 200, 200, 205, 205]) 97 239 [some (.ref 1000), some (.ref 0), some (.int x2), some (.int v0), some (.int v1), some (.int v2)] [] h4 rfl rfl (by rw [e]; rfl) k
set_option maxRecDepth 20000 in
theorem sg_L_acts_0_t18 {g : tr_g} {d : Nat} {h : ev_AH} {r : ev_O × ev_AH} {x2 v0 v1 v2 v3 : Int32} {h1 h2 h3 h4 : ev_AH} (hL : hh_L h) (c_0 : tr_L g d m_L_in 0 [some (.ref 0), some (.int (x2 + 1)), some (.int 36)] [] h (.inl (some (.int v0)), h1)) (c_1 : tr_L g d m_L_in 0 [some (.ref 0), some (.int (x2 + 2)), some (.int 25)] [] h1 (.inl (some (.int v1)), h2)) (c_2 : tr_L g d m_L_in 0 [some (.ref 0), some (.int (x2 + 3)), some (.int 60)] [] h2 (.inl (some (.int v2)), h3)) (c_3 : tr_L g d m_L_in 0 [some (.ref 0), some (.int x2), some (.int 26)] [] h3 (.inl (some (.int v3)), h4)) (e : v3 = 18) (k : tr_L g (d + 1) m_L_acts 239 [some (.ref 1000), some (.ref 0), some (.int x2), some (.int v0), some (.int v1), some (.int v2)] [] h4 r) : tr_L g (d + 1) m_L_acts 0 [some (.ref 1000), some (.ref 0), some (.int x2), none, none, none] [] h r := by
  refine tr_s (.aload_n 1) 1 1 [some (.ref 1000), some (.ref 0), some (.int x2), none, none, none] [.ref 0] h rfl rfl rfl ?_
  refine tr_s (.iload_n 2) 1 2 [some (.ref 1000), some (.ref 0), some (.int x2), none, none, none] [.int x2, .ref 0] h rfl rfl rfl ?_
  refine tr_ic 1 1 (by decide) rfl ?_
  refine tr_s .iadd 1 4 [some (.ref 1000), some (.ref 0), some (.int x2), none, none, none] [.int (x2 + 1), .ref 0] h rfl rfl rfl ?_
  refine tr_bi 36 36 (by decide) rfl ?_
  refine tr_call (.invokestatic 122) 122 2 3 0 m_L_in [.ref 0, .int (x2 + 1), .int 36] [] (some (.int v0)) h1 rfl rfl rfl rfl rfl rfl rfl rfl rfl (tr_cok rfl (Or.inl rfl)) c_0 ?_
  have hL0 := c_0.2
  refine tr_st (.istore_n 3) 1 3 0 (.int v0) rfl rfl rfl rfl rfl rfl rfl ?_
  refine tr_s (.aload_n 1) 1 11 [some (.ref 1000), some (.ref 0), some (.int x2), some (.int v0), none, none] [.ref 0] h1 rfl rfl rfl ?_
  refine tr_s (.iload_n 2) 1 12 [some (.ref 1000), some (.ref 0), some (.int x2), some (.int v0), none, none] [.int x2, .ref 0] h1 rfl rfl rfl ?_
  refine tr_ic 2 2 (by decide) rfl ?_
  refine tr_s .iadd 1 14 [some (.ref 1000), some (.ref 0), some (.int x2), some (.int v0), none, none] [.int (x2 + 2), .ref 0] h1 rfl rfl rfl ?_
  refine tr_bi 25 25 (by decide) rfl ?_
  refine tr_call (.invokestatic 122) 122 2 3 0 m_L_in [.ref 0, .int (x2 + 2), .int 25] [] (some (.int v1)) h2 rfl rfl rfl rfl rfl rfl rfl rfl rfl (tr_cok rfl (Or.inl rfl)) c_1 ?_
  have hL1 := c_1.2
  refine tr_st (.istore 4) 2 4 0 (.int v1) rfl rfl rfl rfl rfl rfl rfl ?_
  refine tr_s (.aload_n 1) 1 22 [some (.ref 1000), some (.ref 0), some (.int x2), some (.int v0), some (.int v1), none] [.ref 0] h2 rfl rfl rfl ?_
  refine tr_s (.iload_n 2) 1 23 [some (.ref 1000), some (.ref 0), some (.int x2), some (.int v0), some (.int v1), none] [.int x2, .ref 0] h2 rfl rfl rfl ?_
  refine tr_ic 3 3 (by decide) rfl ?_
  refine tr_s .iadd 1 25 [some (.ref 1000), some (.ref 0), some (.int x2), some (.int v0), some (.int v1), none] [.int (x2 + 3), .ref 0] h2 rfl rfl rfl ?_
  refine tr_bi 60 60 (by decide) rfl ?_
  refine tr_call (.invokestatic 122) 122 2 3 0 m_L_in [.ref 0, .int (x2 + 3), .int 60] [] (some (.int v2)) h3 rfl rfl rfl rfl rfl rfl rfl rfl rfl (tr_cok rfl (Or.inl rfl)) c_2 ?_
  have hL2 := c_2.2
  refine tr_st (.istore 5) 2 5 0 (.int v2) rfl rfl rfl rfl rfl rfl rfl ?_
  refine tr_s (.aload_n 1) 1 33 [some (.ref 1000), some (.ref 0), some (.int x2), some (.int v0), some (.int v1), some (.int v2)] [.ref 0] h3 rfl rfl rfl ?_
  refine tr_s (.iload_n 2) 1 34 [some (.ref 1000), some (.ref 0), some (.int x2), some (.int v0), some (.int v1), some (.int v2)] [.int x2, .ref 0] h3 rfl rfl rfl ?_
  refine tr_bi 26 26 (by decide) rfl ?_
  refine tr_call (.invokestatic 122) 122 2 3 0 m_L_in [.ref 0, .int x2, .int 26] [] (some (.int v3)) h4 rfl rfl rfl rfl rfl rfl rfl rfl rfl (tr_cok rfl (Or.inl rfl)) c_3 ?_
  have hL3 := c_3.2
  exact tr_s (.tableswitch 210 0 20 #[97, 97, 97, 105, 131, 131, 131, 131, 131, 158, 158, 158, 158, 158, 186, 186, 200, 200, 200, 205, 205]) 97 239 [some (.ref 1000), some (.ref 0), some (.int x2), some (.int v0), some (.int v1), some (.int v2)] [] h4 rfl rfl (by rw [e]; rfl) k
set_option maxRecDepth 20000 in
theorem sg_L_acts_0_t19 {g : tr_g} {d : Nat} {h : ev_AH} {r : ev_O × ev_AH} {x2 v0 v1 v2 v3 : Int32} {h1 h2 h3 h4 : ev_AH} (hL : hh_L h) (c_0 : tr_L g d m_L_in 0 [some (.ref 0), some (.int (x2 + 1)), some (.int 36)] [] h (.inl (some (.int v0)), h1)) (c_1 : tr_L g d m_L_in 0 [some (.ref 0), some (.int (x2 + 2)), some (.int 25)] [] h1 (.inl (some (.int v1)), h2)) (c_2 : tr_L g d m_L_in 0 [some (.ref 0), some (.int (x2 + 3)), some (.int 60)] [] h2 (.inl (some (.int v2)), h3)) (c_3 : tr_L g d m_L_in 0 [some (.ref 0), some (.int x2), some (.int 26)] [] h3 (.inl (some (.int v3)), h4)) (e : v3 = 19) (k : tr_L g (d + 1) m_L_acts 244 [some (.ref 1000), some (.ref 0), some (.int x2), some (.int v0), some (.int v1), some (.int v2)] [] h4 r) : tr_L g (d + 1) m_L_acts 0 [some (.ref 1000), some (.ref 0), some (.int x2), none, none, none] [] h r := by
  refine tr_s (.aload_n 1) 1 1 [some (.ref 1000), some (.ref 0), some (.int x2), none, none, none] [.ref 0] h rfl rfl rfl ?_
  refine tr_s (.iload_n 2) 1 2 [some (.ref 1000), some (.ref 0), some (.int x2), none, none, none] [.int x2, .ref 0] h rfl rfl rfl ?_
  refine tr_ic 1 1 (by decide) rfl ?_
  refine tr_s .iadd 1 4 [some (.ref 1000), some (.ref 0), some (.int x2), none, none, none] [.int (x2 + 1), .ref 0] h rfl rfl rfl ?_
  refine tr_bi 36 36 (by decide) rfl ?_
  refine tr_call (.invokestatic 122) 122 2 3 0 m_L_in [.ref 0, .int (x2 + 1), .int 36] [] (some (.int v0)) h1 rfl rfl rfl rfl rfl rfl rfl rfl rfl (tr_cok rfl (Or.inl rfl)) c_0 ?_
  have hL0 := c_0.2
  refine tr_st (.istore_n 3) 1 3 0 (.int v0) rfl rfl rfl rfl rfl rfl rfl ?_
  refine tr_s (.aload_n 1) 1 11 [some (.ref 1000), some (.ref 0), some (.int x2), some (.int v0), none, none] [.ref 0] h1 rfl rfl rfl ?_
  refine tr_s (.iload_n 2) 1 12 [some (.ref 1000), some (.ref 0), some (.int x2), some (.int v0), none, none] [.int x2, .ref 0] h1 rfl rfl rfl ?_
  refine tr_ic 2 2 (by decide) rfl ?_
  refine tr_s .iadd 1 14 [some (.ref 1000), some (.ref 0), some (.int x2), some (.int v0), none, none] [.int (x2 + 2), .ref 0] h1 rfl rfl rfl ?_
  refine tr_bi 25 25 (by decide) rfl ?_
  refine tr_call (.invokestatic 122) 122 2 3 0 m_L_in [.ref 0, .int (x2 + 2), .int 25] [] (some (.int v1)) h2 rfl rfl rfl rfl rfl rfl rfl rfl rfl (tr_cok rfl (Or.inl rfl)) c_1 ?_
  have hL1 := c_1.2
  refine tr_st (.istore 4) 2 4 0 (.int v1) rfl rfl rfl rfl rfl rfl rfl ?_
  refine tr_s (.aload_n 1) 1 22 [some (.ref 1000), some (.ref 0), some (.int x2), some (.int v0), some (.int v1), none] [.ref 0] h2 rfl rfl rfl ?_
  refine tr_s (.iload_n 2) 1 23 [some (.ref 1000), some (.ref 0), some (.int x2), some (.int v0), some (.int v1), none] [.int x2, .ref 0] h2 rfl rfl rfl ?_
  refine tr_ic 3 3 (by decide) rfl ?_
  refine tr_s .iadd 1 25 [some (.ref 1000), some (.ref 0), some (.int x2), some (.int v0), some (.int v1), none] [.int (x2 + 3), .ref 0] h2 rfl rfl rfl ?_
  refine tr_bi 60 60 (by decide) rfl ?_
  refine tr_call (.invokestatic 122) 122 2 3 0 m_L_in [.ref 0, .int (x2 + 3), .int 60] [] (some (.int v2)) h3 rfl rfl rfl rfl rfl rfl rfl rfl rfl (tr_cok rfl (Or.inl rfl)) c_2 ?_
  have hL2 := c_2.2
  refine tr_st (.istore 5) 2 5 0 (.int v2) rfl rfl rfl rfl rfl rfl rfl ?_
  refine tr_s (.aload_n 1) 1 33 [some (.ref 1000), some (.ref 0), some (.int x2), some (.int v0), some (.int v1), some (.int v2)] [.ref 0] h3 rfl rfl rfl ?_
  refine tr_s (.iload_n 2) 1 34 [some (.ref 1000), some (.ref 0), some (.int x2), some (.int v0), some (.int v1), some (.int v2)] [.int x2, .ref 0] h3 rfl rfl rfl ?_
  refine tr_bi 26 26 (by decide) rfl ?_
  refine tr_call (.invokestatic 122) 122 2 3 0 m_L_in [.ref 0, .int x2, .int 26] [] (some (.int v3)) h4 rfl rfl rfl rfl rfl rfl rfl rfl rfl (tr_cok rfl (Or.inl rfl)) c_3 ?_
  have hL3 := c_3.2
  exact tr_s (.tableswitch 210 0 20 #[97, 97, 97, 105, 131, 131, 131, 131, 131, 158, 158, 158, 158, 158, 186, 186, 200, 200, 200, 205, 205]) 97 244 [some (.ref 1000), some (.ref 0), some (.int x2), some (.int v0), some (.int v1), some (.int v2)] [] h4 rfl rfl (by rw [e]; rfl) k
set_option maxRecDepth 20000 in
theorem sg_L_acts_0_t20 {g : tr_g} {d : Nat} {h : ev_AH} {r : ev_O × ev_AH} {x2 v0 v1 v2 v3 : Int32} {h1 h2 h3 h4 : ev_AH} (hL : hh_L h) (c_0 : tr_L g d m_L_in 0 [some (.ref 0), some (.int (x2 + 1)), some (.int 36)] [] h (.inl (some (.int v0)), h1)) (c_1 : tr_L g d m_L_in 0 [some (.ref 0), some (.int (x2 + 2)), some (.int 25)] [] h1 (.inl (some (.int v1)), h2)) (c_2 : tr_L g d m_L_in 0 [some (.ref 0), some (.int (x2 + 3)), some (.int 60)] [] h2 (.inl (some (.int v2)), h3)) (c_3 : tr_L g d m_L_in 0 [some (.ref 0), some (.int x2), some (.int 26)] [] h3 (.inl (some (.int v3)), h4)) (e : v3 = 20) (k : tr_L g (d + 1) m_L_acts 244 [some (.ref 1000), some (.ref 0), some (.int x2), some (.int v0), some (.int v1), some (.int v2)] [] h4 r) : tr_L g (d + 1) m_L_acts 0 [some (.ref 1000), some (.ref 0), some (.int x2), none, none, none] [] h r := by
  refine tr_s (.aload_n 1) 1 1 [some (.ref 1000), some (.ref 0), some (.int x2), none, none, none] [.ref 0] h rfl rfl rfl ?_
  refine tr_s (.iload_n 2) 1 2 [some (.ref 1000), some (.ref 0), some (.int x2), none, none, none] [.int x2, .ref 0] h rfl rfl rfl ?_
  refine tr_ic 1 1 (by decide) rfl ?_
  refine tr_s .iadd 1 4 [some (.ref 1000), some (.ref 0), some (.int x2), none, none, none] [.int (x2 + 1), .ref 0] h rfl rfl rfl ?_
  refine tr_bi 36 36 (by decide) rfl ?_
  refine tr_call (.invokestatic 122) 122 2 3 0 m_L_in [.ref 0, .int (x2 + 1), .int 36] [] (some (.int v0)) h1 rfl rfl rfl rfl rfl rfl rfl rfl rfl (tr_cok rfl (Or.inl rfl)) c_0 ?_
  have hL0 := c_0.2
  refine tr_st (.istore_n 3) 1 3 0 (.int v0) rfl rfl rfl rfl rfl rfl rfl ?_
  refine tr_s (.aload_n 1) 1 11 [some (.ref 1000), some (.ref 0), some (.int x2), some (.int v0), none, none] [.ref 0] h1 rfl rfl rfl ?_
  refine tr_s (.iload_n 2) 1 12 [some (.ref 1000), some (.ref 0), some (.int x2), some (.int v0), none, none] [.int x2, .ref 0] h1 rfl rfl rfl ?_
  refine tr_ic 2 2 (by decide) rfl ?_
  refine tr_s .iadd 1 14 [some (.ref 1000), some (.ref 0), some (.int x2), some (.int v0), none, none] [.int (x2 + 2), .ref 0] h1 rfl rfl rfl ?_
  refine tr_bi 25 25 (by decide) rfl ?_
  refine tr_call (.invokestatic 122) 122 2 3 0 m_L_in [.ref 0, .int (x2 + 2), .int 25] [] (some (.int v1)) h2 rfl rfl rfl rfl rfl rfl rfl rfl rfl (tr_cok rfl (Or.inl rfl)) c_1 ?_
  have hL1 := c_1.2
  refine tr_st (.istore 4) 2 4 0 (.int v1) rfl rfl rfl rfl rfl rfl rfl ?_
  refine tr_s (.aload_n 1) 1 22 [some (.ref 1000), some (.ref 0), some (.int x2), some (.int v0), some (.int v1), none] [.ref 0] h2 rfl rfl rfl ?_
  refine tr_s (.iload_n 2) 1 23 [some (.ref 1000), some (.ref 0), some (.int x2), some (.int v0), some (.int v1), none] [.int x2, .ref 0] h2 rfl rfl rfl ?_
  refine tr_ic 3 3 (by decide) rfl ?_
  refine tr_s .iadd 1 25 [some (.ref 1000), some (.ref 0), some (.int x2), some (.int v0), some (.int v1), none] [.int (x2 + 3), .ref 0] h2 rfl rfl rfl ?_
  refine tr_bi 60 60 (by decide) rfl ?_
  refine tr_call (.invokestatic 122) 122 2 3 0 m_L_in [.ref 0, .int (x2 + 3), .int 60] [] (some (.int v2)) h3 rfl rfl rfl rfl rfl rfl rfl rfl rfl (tr_cok rfl (Or.inl rfl)) c_2 ?_
  have hL2 := c_2.2
  refine tr_st (.istore 5) 2 5 0 (.int v2) rfl rfl rfl rfl rfl rfl rfl ?_
  refine tr_s (.aload_n 1) 1 33 [some (.ref 1000), some (.ref 0), some (.int x2), some (.int v0), some (.int v1), some (.int v2)] [.ref 0] h3 rfl rfl rfl ?_
  refine tr_s (.iload_n 2) 1 34 [some (.ref 1000), some (.ref 0), some (.int x2), some (.int v0), some (.int v1), some (.int v2)] [.int x2, .ref 0] h3 rfl rfl rfl ?_
  refine tr_bi 26 26 (by decide) rfl ?_
  refine tr_call (.invokestatic 122) 122 2 3 0 m_L_in [.ref 0, .int x2, .int 26] [] (some (.int v3)) h4 rfl rfl rfl rfl rfl rfl rfl rfl rfl (tr_cok rfl (Or.inl rfl)) c_3 ?_
  have hL3 := c_3.2
  exact tr_s (.tableswitch 210 0 20 #[97, 97, 97, 105, 131, 131, 131, 131, 131, 158, 158, 158, 158, 158, 186, 186, 200, 200, 200, 205, 205]) 97 244 [some (.ref 1000), some (.ref 0), some (.int x2), some (.int v0), some (.int v1), some (.int v2)] [] h4 rfl rfl (by rw [e]; rfl) k
set_option maxRecDepth 20000 in
theorem sg_L_acts_0_td {g : tr_g} {d : Nat} {h : ev_AH} {r : ev_O × ev_AH} {x2 v0 v1 v2 v3 : Int32} {h1 h2 h3 h4 : ev_AH} (hL : hh_L h) (c_0 : tr_L g d m_L_in 0 [some (.ref 0), some (.int (x2 + 1)), some (.int 36)] [] h (.inl (some (.int v0)), h1)) (c_1 : tr_L g d m_L_in 0 [some (.ref 0), some (.int (x2 + 2)), some (.int 25)] [] h1 (.inl (some (.int v1)), h2)) (c_2 : tr_L g d m_L_in 0 [some (.ref 0), some (.int (x2 + 3)), some (.int 60)] [] h2 (.inl (some (.int v2)), h3)) (c_3 : tr_L g d m_L_in 0 [some (.ref 0), some (.int x2), some (.int 26)] [] h3 (.inl (some (.int v3)), h4)) (e : v3.toInt < 0 ∨ 20 < v3.toInt) (k : tr_L g (d + 1) m_L_acts 249 [some (.ref 1000), some (.ref 0), some (.int x2), some (.int v0), some (.int v1), some (.int v2)] [] h4 r) : tr_L g (d + 1) m_L_acts 0 [some (.ref 1000), some (.ref 0), some (.int x2), none, none, none] [] h r := by
  refine tr_s (.aload_n 1) 1 1 [some (.ref 1000), some (.ref 0), some (.int x2), none, none, none] [.ref 0] h rfl rfl rfl ?_
  refine tr_s (.iload_n 2) 1 2 [some (.ref 1000), some (.ref 0), some (.int x2), none, none, none] [.int x2, .ref 0] h rfl rfl rfl ?_
  refine tr_ic 1 1 (by decide) rfl ?_
  refine tr_s .iadd 1 4 [some (.ref 1000), some (.ref 0), some (.int x2), none, none, none] [.int (x2 + 1), .ref 0] h rfl rfl rfl ?_
  refine tr_bi 36 36 (by decide) rfl ?_
  refine tr_call (.invokestatic 122) 122 2 3 0 m_L_in [.ref 0, .int (x2 + 1), .int 36] [] (some (.int v0)) h1 rfl rfl rfl rfl rfl rfl rfl rfl rfl (tr_cok rfl (Or.inl rfl)) c_0 ?_
  have hL0 := c_0.2
  refine tr_st (.istore_n 3) 1 3 0 (.int v0) rfl rfl rfl rfl rfl rfl rfl ?_
  refine tr_s (.aload_n 1) 1 11 [some (.ref 1000), some (.ref 0), some (.int x2), some (.int v0), none, none] [.ref 0] h1 rfl rfl rfl ?_
  refine tr_s (.iload_n 2) 1 12 [some (.ref 1000), some (.ref 0), some (.int x2), some (.int v0), none, none] [.int x2, .ref 0] h1 rfl rfl rfl ?_
  refine tr_ic 2 2 (by decide) rfl ?_
  refine tr_s .iadd 1 14 [some (.ref 1000), some (.ref 0), some (.int x2), some (.int v0), none, none] [.int (x2 + 2), .ref 0] h1 rfl rfl rfl ?_
  refine tr_bi 25 25 (by decide) rfl ?_
  refine tr_call (.invokestatic 122) 122 2 3 0 m_L_in [.ref 0, .int (x2 + 2), .int 25] [] (some (.int v1)) h2 rfl rfl rfl rfl rfl rfl rfl rfl rfl (tr_cok rfl (Or.inl rfl)) c_1 ?_
  have hL1 := c_1.2
  refine tr_st (.istore 4) 2 4 0 (.int v1) rfl rfl rfl rfl rfl rfl rfl ?_
  refine tr_s (.aload_n 1) 1 22 [some (.ref 1000), some (.ref 0), some (.int x2), some (.int v0), some (.int v1), none] [.ref 0] h2 rfl rfl rfl ?_
  refine tr_s (.iload_n 2) 1 23 [some (.ref 1000), some (.ref 0), some (.int x2), some (.int v0), some (.int v1), none] [.int x2, .ref 0] h2 rfl rfl rfl ?_
  refine tr_ic 3 3 (by decide) rfl ?_
  refine tr_s .iadd 1 25 [some (.ref 1000), some (.ref 0), some (.int x2), some (.int v0), some (.int v1), none] [.int (x2 + 3), .ref 0] h2 rfl rfl rfl ?_
  refine tr_bi 60 60 (by decide) rfl ?_
  refine tr_call (.invokestatic 122) 122 2 3 0 m_L_in [.ref 0, .int (x2 + 3), .int 60] [] (some (.int v2)) h3 rfl rfl rfl rfl rfl rfl rfl rfl rfl (tr_cok rfl (Or.inl rfl)) c_2 ?_
  have hL2 := c_2.2
  refine tr_st (.istore 5) 2 5 0 (.int v2) rfl rfl rfl rfl rfl rfl rfl ?_
  refine tr_s (.aload_n 1) 1 33 [some (.ref 1000), some (.ref 0), some (.int x2), some (.int v0), some (.int v1), some (.int v2)] [.ref 0] h3 rfl rfl rfl ?_
  refine tr_s (.iload_n 2) 1 34 [some (.ref 1000), some (.ref 0), some (.int x2), some (.int v0), some (.int v1), some (.int v2)] [.int x2, .ref 0] h3 rfl rfl rfl ?_
  refine tr_bi 26 26 (by decide) rfl ?_
  refine tr_call (.invokestatic 122) 122 2 3 0 m_L_in [.ref 0, .int x2, .int 26] [] (some (.int v3)) h4 rfl rfl rfl rfl rfl rfl rfl rfl rfl (tr_cok rfl (Or.inl rfl)) c_3 ?_
  have hL3 := c_3.2
  exact tr_s (.tableswitch 210 0 20 #[97, 97, 97, 105, 131, 131, 131, 131, 131, 158, 158, 158, 158, 158, 186, 186, 200, 200, 200, 205, 205]) 97 249 [some (.ref 1000), some (.ref 0), some (.int x2), some (.int v0), some (.int v1), some (.int v2)] [] h4 rfl rfl (tr_tsd rfl e) k
set_option maxRecDepth 20000 in
theorem sg_L_acts_136 {g : tr_g} {d : Nat} {h : ev_AH} {r : ev_O × ev_AH} {w1 w2 w5 : Option Value} {x3 x4 v0 : Int32} {h1 : ev_AH} (hL : hh_L h) (c_0 : tr_L g d m_L_adds 0 [some (.ref 1000), some (.int x3), some (.int x4), none, none, none, none] [] h (.inl (some (.int v0)), h1)) (hr : r = (.inl (some (.int v0)), h1)) : tr_L g (d + 1) m_L_acts 136 [some (.ref 1000), w1, w2, some (.int x3), some (.int x4), w5] [] h r := by
  refine tr_s (.aload_n 0) 1 137 [some (.ref 1000), w1, w2, some (.int x3), some (.int x4), w5] [.ref 1000] h rfl rfl rfl ?_
  refine tr_s (.iload_n 3) 1 138 [some (.ref 1000), w1, w2, some (.int x3), some (.int x4), w5] [.int x3, .ref 1000] h rfl rfl rfl ?_
  refine tr_s (.iload 4) 2 140 [some (.ref 1000), w1, w2, some (.int x3), some (.int x4), w5] [.int x4, .int x3, .ref 1000] h rfl rfl rfl ?_
  refine tr_call (.invokestatic 129) 129 2 3 0 m_L_adds [.ref 1000, .int x3, .int x4] [] (some (.int v0)) h1 rfl rfl rfl rfl rfl rfl rfl rfl rfl (tr_cok rfl (Or.inl rfl)) c_0 ?_
  have hL0 := c_0.2
  exact tl_ret hL0 .ireturn 1 (some (.int v0)) rfl rfl rfl rfl hr
set_option maxRecDepth 20000 in
theorem sg_L_acts_144 {g : tr_g} {d : Nat} {h : ev_AH} {r : ev_O × ev_AH} {w1 w2 : Option Value} {x3 x4 x5 v0 v1 v2 : Int32} {h1 h2 h3 : ev_AH} (hL : hh_L h) (c_0 : tr_L g d m_J0_charAt_5068e 0 [some (.ref 27), some (.int (x5 - x5 / 5 * 5))] [] h (.inl (some (.int v0)), h1)) (c_1 : tr_L g d m_J0_charAt_5068e 0 [some (.ref 29), some (.int (x4 - x4 / 3 * 3))] [] h1 (.inl (some (.int v1)), h2)) (c_2 : tr_L g d m_L_addCat 0 [some (.ref 1000), some (.int x3), some (.int v0), some (.int 98), some (.int v1), none] [] h2 (.inl (some (.int v2)), h3)) (hr : r = (.inl (some (.int v2)), h3)) : tr_L g (d + 1) m_L_acts 144 [some (.ref 1000), w1, w2, some (.int x3), some (.int x4), some (.int x5)] [] h r := by
  refine tr_s (.aload_n 0) 1 145 [some (.ref 1000), w1, w2, some (.int x3), some (.int x4), some (.int x5)] [.ref 1000] h rfl rfl rfl ?_
  refine tr_s (.iload_n 3) 1 146 [some (.ref 1000), w1, w2, some (.int x3), some (.int x4), some (.int x5)] [.int x3, .ref 1000] h rfl rfl rfl ?_
  refine tr_s (.ldc 143) 2 148 [some (.ref 1000), w1, w2, some (.int x3), some (.int x4), some (.int x5)] [.ref 27, .int x3, .ref 1000] h rfl rfl rfl ?_
  refine tr_s (.iload 5) 2 150 [some (.ref 1000), w1, w2, some (.int x3), some (.int x4), some (.int x5)] [.int x5, .ref 27, .int x3, .ref 1000] h rfl rfl rfl ?_
  refine tr_ic 5 5 (by decide) rfl ?_
  refine tr_s .irem 1 152 [some (.ref 1000), w1, w2, some (.int x3), some (.int x4), some (.int x5)] [.int (x5 - x5 / 5 * 5), .ref 27, .int x3, .ref 1000] h rfl rfl rfl ?_
  refine tr_call (.invokevirtual 107) 107 0 1 8 m_J0_charAt_5068e [.ref 27, .int (x5 - x5 / 5 * 5)] [.int x3, .ref 1000] (some (.int v0)) h1 rfl rfl rfl rfl rfl rfl rfl rfl rfl (tr_cok rfl (Or.inr ⟨_, _, rfl, rfl⟩)) c_0 ?_
  have hL0 := c_0.2
  refine tr_bi 98 98 (by decide) rfl ?_
  refine tr_s (.ldc 145) 2 159 [some (.ref 1000), w1, w2, some (.int x3), some (.int x4), some (.int x5)] [.ref 29, .int 98, .int v0, .int x3, .ref 1000] h1 rfl rfl rfl ?_
  refine tr_s (.iload 4) 2 161 [some (.ref 1000), w1, w2, some (.int x3), some (.int x4), some (.int x5)] [.int x4, .ref 29, .int 98, .int v0, .int x3, .ref 1000] h1 rfl rfl rfl ?_
  refine tr_ic 3 3 (by decide) rfl ?_
  refine tr_s .irem 1 163 [some (.ref 1000), w1, w2, some (.int x3), some (.int x4), some (.int x5)] [.int (x4 - x4 / 3 * 3), .ref 29, .int 98, .int v0, .int x3, .ref 1000] h1 rfl rfl rfl ?_
  refine tr_call (.invokevirtual 107) 107 0 1 8 m_J0_charAt_5068e [.ref 29, .int (x4 - x4 / 3 * 3)] [.int 98, .int v0, .int x3, .ref 1000] (some (.int v1)) h2 rfl rfl rfl rfl rfl rfl rfl rfl rfl (tr_cok rfl (Or.inr ⟨_, _, rfl, rfl⟩)) c_1 ?_
  have hL1 := c_1.2
  refine tr_call (.invokestatic 118) 118 8 5 0 m_L_addCat [.ref 1000, .int x3, .int v0, .int 98, .int v1] [] (some (.int v2)) h3 rfl rfl rfl rfl rfl rfl rfl rfl rfl (tr_cok rfl (Or.inl rfl)) c_2 ?_
  have hL2 := c_2.2
  exact tl_ret hL2 .ireturn 1 (some (.int v2)) rfl rfl rfl rfl hr
set_option maxRecDepth 20000 in
theorem sg_L_acts_170 {g : tr_g} {d : Nat} {h : ev_AH} {r : ev_O × ev_AH} {w1 w2 w4 : Option Value} {x3 x5 : Int32} (hL : hh_L h) (t : (x5 - x5 / 12 * 12) ≠ 0 → tr_L g d m_L_acts 186 [some (.ref 1000), w1, w2, some (.int x3), w4, some (.int x5)] [.ref 31, .int x3, .ref 1000] h r) (f : (x5 - x5 / 12 * 12) = 0 → tr_L g d m_L_acts 182 [some (.ref 1000), w1, w2, some (.int x3), w4, some (.int x5)] [.ref 31, .int x3, .ref 1000] h r) : tr_L g d m_L_acts 170 [some (.ref 1000), w1, w2, some (.int x3), w4, some (.int x5)] [] h r := by
  refine tr_s (.aload_n 0) 1 171 [some (.ref 1000), w1, w2, some (.int x3), w4, some (.int x5)] [.ref 1000] h rfl rfl rfl ?_
  refine tr_s (.iload_n 3) 1 172 [some (.ref 1000), w1, w2, some (.int x3), w4, some (.int x5)] [.int x3, .ref 1000] h rfl rfl rfl ?_
  refine tr_s (.ldc 147) 2 174 [some (.ref 1000), w1, w2, some (.int x3), w4, some (.int x5)] [.ref 31, .int x3, .ref 1000] h rfl rfl rfl ?_
  refine tr_s (.iload 5) 2 176 [some (.ref 1000), w1, w2, some (.int x3), w4, some (.int x5)] [.int x5, .ref 31, .int x3, .ref 1000] h rfl rfl rfl ?_
  refine tr_bi 12 12 (by decide) rfl ?_
  refine tr_s .irem 1 179 [some (.ref 1000), w1, w2, some (.int x3), w4, some (.int x5)] [.int (x5 - x5 / 12 * 12), .ref 31, .int x3, .ref 1000] h rfl rfl rfl ?_
  exact tr_if1 .ne 7 186 (x5 - x5 / 12 * 12) rfl rfl rfl (fun hc => t ((tr_ne hc).1 rfl)) (fun hc => f ((tr_ne hc).2 rfl))
set_option maxRecDepth 20000 in
theorem sg_L_acts_182 {g : tr_g} {d : Nat} {h : ev_AH} {r : ev_O × ev_AH} {w0 w1 w2 w3 w4 w5 : Option Value} {s1 v0 v1 : Int32} {h1 h2 : ev_AH} (hL : hh_L h) (c_0 : tr_L g d m_J0_charAt_5068e 0 [some (.ref 31), some (.int 3)] [] h (.inl (some (.int v0)), h1)) (c_1 : tr_L g d m_L_setMirror 0 [some (.ref 1000), some (.int s1), some (.int v0), none] [] h1 (.inl (some (.int v1)), h2)) (hr : r = (.inl (some (.int v1)), h2)) : tr_L g (d + 1) m_L_acts 182 [w0, w1, w2, w3, w4, w5] [.ref 31, .int s1, .ref 1000] h r := by
  refine tr_ic 3 3 (by decide) rfl ?_
  refine tr_goto 7 190 rfl rfl rfl ?_
  refine tr_call (.invokevirtual 107) 107 0 1 8 m_J0_charAt_5068e [.ref 31, .int 3] [.int s1, .ref 1000] (some (.int v0)) h1 rfl rfl rfl rfl rfl rfl rfl rfl rfl (tr_cok rfl (Or.inr ⟨_, _, rfl, rfl⟩)) c_0 ?_
  have hL0 := c_0.2
  refine tr_call (.invokestatic 126) 126 8 3 0 m_L_setMirror [.ref 1000, .int s1, .int v0] [] (some (.int v1)) h2 rfl rfl rfl rfl rfl rfl rfl rfl rfl (tr_cok rfl (Or.inl rfl)) c_1 ?_
  have hL1 := c_1.2
  exact tl_ret hL1 .ireturn 1 (some (.int v1)) rfl rfl rfl rfl hr
set_option maxRecDepth 20000 in
theorem sg_L_acts_186 {g : tr_g} {d : Nat} {h : ev_AH} {r : ev_O × ev_AH} {w0 w1 w2 w3 w4 : Option Value} {x5 s1 v0 v1 : Int32} {h1 h2 : ev_AH} (hL : hh_L h) (c_0 : tr_L g d m_J0_charAt_5068e 0 [some (.ref 31), some (.int (x5 - x5 / 3 * 3))] [] h (.inl (some (.int v0)), h1)) (c_1 : tr_L g d m_L_setMirror 0 [some (.ref 1000), some (.int s1), some (.int v0), none] [] h1 (.inl (some (.int v1)), h2)) (hr : r = (.inl (some (.int v1)), h2)) : tr_L g (d + 1) m_L_acts 186 [w0, w1, w2, w3, w4, some (.int x5)] [.ref 31, .int s1, .ref 1000] h r := by
  refine tr_s (.iload 5) 2 188 [w0, w1, w2, w3, w4, some (.int x5)] [.int x5, .ref 31, .int s1, .ref 1000] h rfl rfl rfl ?_
  refine tr_ic 3 3 (by decide) rfl ?_
  refine tr_s .irem 1 190 [w0, w1, w2, w3, w4, some (.int x5)] [.int (x5 - x5 / 3 * 3), .ref 31, .int s1, .ref 1000] h rfl rfl rfl ?_
  refine tr_call (.invokevirtual 107) 107 0 1 8 m_J0_charAt_5068e [.ref 31, .int (x5 - x5 / 3 * 3)] [.int s1, .ref 1000] (some (.int v0)) h1 rfl rfl rfl rfl rfl rfl rfl rfl rfl (tr_cok rfl (Or.inr ⟨_, _, rfl, rfl⟩)) c_0 ?_
  have hL0 := c_0.2
  refine tr_call (.invokestatic 126) 126 8 3 0 m_L_setMirror [.ref 1000, .int s1, .int v0] [] (some (.int v1)) h2 rfl rfl rfl rfl rfl rfl rfl rfl rfl (tr_cok rfl (Or.inl rfl)) c_1 ?_
  have hL1 := c_1.2
  exact tl_ret hL1 .ireturn 1 (some (.int v1)) rfl rfl rfl rfl hr
set_option maxRecDepth 20000 in
theorem sg_L_acts_197 {g : tr_g} {d : Nat} {h : ev_AH} {r : ev_O × ev_AH} {w1 w2 w3 : Option Value} {x4 x5 : Int32} (hL : hh_L h) (t : (x5 - x5 / 9 * 9) ≠ 0 → tr_L g d m_L_acts 214 [some (.ref 1000), w1, w2, w3, some (.int x4), some (.int x5)] [.ref 27, .int x4, .ref 1000] h r) (f : (x5 - x5 / 9 * 9) = 0 → tr_L g d m_L_acts 210 [some (.ref 1000), w1, w2, w3, some (.int x4), some (.int x5)] [.ref 27, .int x4, .ref 1000] h r) : tr_L g d m_L_acts 197 [some (.ref 1000), w1, w2, w3, some (.int x4), some (.int x5)] [] h r := by
  refine tr_s (.aload_n 0) 1 198 [some (.ref 1000), w1, w2, w3, some (.int x4), some (.int x5)] [.ref 1000] h rfl rfl rfl ?_
  refine tr_s (.iload 4) 2 200 [some (.ref 1000), w1, w2, w3, some (.int x4), some (.int x5)] [.int x4, .ref 1000] h rfl rfl rfl ?_
  refine tr_s (.ldc 143) 2 202 [some (.ref 1000), w1, w2, w3, some (.int x4), some (.int x5)] [.ref 27, .int x4, .ref 1000] h rfl rfl rfl ?_
  refine tr_s (.iload 5) 2 204 [some (.ref 1000), w1, w2, w3, some (.int x4), some (.int x5)] [.int x5, .ref 27, .int x4, .ref 1000] h rfl rfl rfl ?_
  refine tr_bi 9 9 (by decide) rfl ?_
  refine tr_s .irem 1 207 [some (.ref 1000), w1, w2, w3, some (.int x4), some (.int x5)] [.int (x5 - x5 / 9 * 9), .ref 27, .int x4, .ref 1000] h rfl rfl rfl ?_
  exact tr_if1 .ne 7 214 (x5 - x5 / 9 * 9) rfl rfl rfl (fun hc => t ((tr_ne hc).1 rfl)) (fun hc => f ((tr_ne hc).2 rfl))
set_option maxRecDepth 20000 in
theorem sg_L_acts_210 {g : tr_g} {d : Nat} {h : ev_AH} {r : ev_O × ev_AH} {w0 w1 w2 w3 w4 w5 : Option Value} {s1 v0 v1 : Int32} {h1 h2 : ev_AH} (hL : hh_L h) (c_0 : tr_L g d m_J0_charAt_5068e 0 [some (.ref 27), some (.int 4)] [] h (.inl (some (.int v0)), h1)) (c_1 : tr_L g d m_L_testify 0 [some (.ref 1000), some (.int s1), some (.int v0), none] [] h1 (.inl (some (.int v1)), h2)) (hr : r = (.inl (some (.int v1)), h2)) : tr_L g (d + 1) m_L_acts 210 [w0, w1, w2, w3, w4, w5] [.ref 27, .int s1, .ref 1000] h r := by
  refine tr_ic 4 4 (by decide) rfl ?_
  refine tr_goto 7 218 rfl rfl rfl ?_
  refine tr_call (.invokevirtual 107) 107 0 1 8 m_J0_charAt_5068e [.ref 27, .int 4] [.int s1, .ref 1000] (some (.int v0)) h1 rfl rfl rfl rfl rfl rfl rfl rfl rfl (tr_cok rfl (Or.inr ⟨_, _, rfl, rfl⟩)) c_0 ?_
  have hL0 := c_0.2
  refine tr_call (.invokestatic 133) 133 8 3 0 m_L_testify [.ref 1000, .int s1, .int v0] [] (some (.int v1)) h2 rfl rfl rfl rfl rfl rfl rfl rfl rfl (tr_cok rfl (Or.inl rfl)) c_1 ?_
  have hL1 := c_1.2
  exact tl_ret hL1 .ireturn 1 (some (.int v1)) rfl rfl rfl rfl hr
set_option maxRecDepth 20000 in
theorem sg_L_acts_214 {g : tr_g} {d : Nat} {h : ev_AH} {r : ev_O × ev_AH} {w0 w1 w2 w3 w4 : Option Value} {x5 s1 v0 v1 : Int32} {h1 h2 : ev_AH} (hL : hh_L h) (c_0 : tr_L g d m_J0_charAt_5068e 0 [some (.ref 27), some (.int (x5 - x5 / 4 * 4))] [] h (.inl (some (.int v0)), h1)) (c_1 : tr_L g d m_L_testify 0 [some (.ref 1000), some (.int s1), some (.int v0), none] [] h1 (.inl (some (.int v1)), h2)) (hr : r = (.inl (some (.int v1)), h2)) : tr_L g (d + 1) m_L_acts 214 [w0, w1, w2, w3, w4, some (.int x5)] [.ref 27, .int s1, .ref 1000] h r := by
  refine tr_s (.iload 5) 2 216 [w0, w1, w2, w3, w4, some (.int x5)] [.int x5, .ref 27, .int s1, .ref 1000] h rfl rfl rfl ?_
  refine tr_ic 4 4 (by decide) rfl ?_
  refine tr_s .irem 1 218 [w0, w1, w2, w3, w4, some (.int x5)] [.int (x5 - x5 / 4 * 4), .ref 27, .int s1, .ref 1000] h rfl rfl rfl ?_
  refine tr_call (.invokevirtual 107) 107 0 1 8 m_J0_charAt_5068e [.ref 27, .int (x5 - x5 / 4 * 4)] [.int s1, .ref 1000] (some (.int v0)) h1 rfl rfl rfl rfl rfl rfl rfl rfl rfl (tr_cok rfl (Or.inr ⟨_, _, rfl, rfl⟩)) c_0 ?_
  have hL0 := c_0.2
  refine tr_call (.invokestatic 133) 133 8 3 0 m_L_testify [.ref 1000, .int s1, .int v0] [] (some (.int v1)) h2 rfl rfl rfl rfl rfl rfl rfl rfl rfl (tr_cok rfl (Or.inl rfl)) c_1 ?_
  have hL1 := c_1.2
  exact tl_ret hL1 .ireturn 1 (some (.int v1)) rfl rfl rfl rfl hr
set_option maxRecDepth 20000 in
theorem sg_L_acts_225 {g : tr_g} {d : Nat} {h : ev_AH} {r : ev_O × ev_AH} {w1 w2 w3 w4 : Option Value} {x5 v0 v1 : Int32} {h1 h2 : ev_AH} (hL : hh_L h) (c_0 : tr_L g d m_J0_charAt_5068e 0 [some (.ref 33), some (.int (x5 - x5 / 4 * 4))] [] h (.inl (some (.int v0)), h1)) (c_1 : tr_L g d m_L_setMethod 0 [some (.ref 1000), some (.int v0), none] [] h1 (.inl (some (.int v1)), h2)) (hr : r = (.inl (some (.int v1)), h2)) : tr_L g (d + 1) m_L_acts 225 [some (.ref 1000), w1, w2, w3, w4, some (.int x5)] [] h r := by
  refine tr_s (.aload_n 0) 1 226 [some (.ref 1000), w1, w2, w3, w4, some (.int x5)] [.ref 1000] h rfl rfl rfl ?_
  refine tr_s (.ldc 149) 2 228 [some (.ref 1000), w1, w2, w3, w4, some (.int x5)] [.ref 33, .ref 1000] h rfl rfl rfl ?_
  refine tr_s (.iload 5) 2 230 [some (.ref 1000), w1, w2, w3, w4, some (.int x5)] [.int x5, .ref 33, .ref 1000] h rfl rfl rfl ?_
  refine tr_ic 4 4 (by decide) rfl ?_
  refine tr_s .irem 1 232 [some (.ref 1000), w1, w2, w3, w4, some (.int x5)] [.int (x5 - x5 / 4 * 4), .ref 33, .ref 1000] h rfl rfl rfl ?_
  refine tr_call (.invokevirtual 107) 107 0 1 8 m_J0_charAt_5068e [.ref 33, .int (x5 - x5 / 4 * 4)] [.ref 1000] (some (.int v0)) h1 rfl rfl rfl rfl rfl rfl rfl rfl rfl (tr_cok rfl (Or.inr ⟨_, _, rfl, rfl⟩)) c_0 ?_
  have hL0 := c_0.2
  refine tr_call (.invokestatic 137) 137 8 2 0 m_L_setMethod [.ref 1000, .int v0] [] (some (.int v1)) h2 rfl rfl rfl rfl rfl rfl rfl rfl rfl (tr_cok rfl (Or.inl rfl)) c_1 ?_
  have hL1 := c_1.2
  exact tl_ret hL1 .ireturn 1 (some (.int v1)) rfl rfl rfl rfl hr
set_option maxRecDepth 20000 in
theorem sg_L_acts_239 {g : tr_g} {d : Nat} {h : ev_AH} {r : ev_O × ev_AH} {w1 w2 w3 w4 w5 : Option Value} {h1 : ev_AH} {v0 : Int32} (hL : hh_L h) (c_0 : tr_L g d m_L_deliberate 0 [some (.ref 1000), none] [] h (.inl (some (.int v0)), h1)) (hr : r = (.inl (some (.int v0)), h1)) : tr_L g (d + 1) m_L_acts 239 [some (.ref 1000), w1, w2, w3, w4, w5] [] h r := by
  refine tr_s (.aload_n 0) 1 240 [some (.ref 1000), w1, w2, w3, w4, w5] [.ref 1000] h rfl rfl rfl ?_
  refine tr_call (.invokestatic 140) 140 8 1 0 m_L_deliberate [.ref 1000] [] (some (.int v0)) h1 rfl rfl rfl rfl rfl rfl rfl rfl rfl (tr_cok rfl (Or.inl rfl)) c_0 ?_
  have hL0 := c_0.2
  exact tl_ret hL0 .ireturn 1 (some (.int v0)) rfl rfl rfl rfl hr
set_option maxRecDepth 20000 in
theorem sg_L_acts_244 {g : tr_g} {d : Nat} {h : ev_AH} {r : ev_O × ev_AH} {w1 w2 w3 w4 w5 : Option Value} {h1 : ev_AH} {v0 : Int32} (hL : hh_L h) (c_0 : tr_L g d m_L_retry 0 [some (.ref 1000), none] [] h (.inl (some (.int v0)), h1)) (hr : r = (.inl (some (.int v0)), h1)) : tr_L g (d + 1) m_L_acts 244 [some (.ref 1000), w1, w2, w3, w4, w5] [] h r := by
  refine tr_s (.aload_n 0) 1 245 [some (.ref 1000), w1, w2, w3, w4, w5] [.ref 1000] h rfl rfl rfl ?_
  refine tr_call (.invokestatic 151) 151 8 1 0 m_L_retry [.ref 1000] [] (some (.int v0)) h1 rfl rfl rfl rfl rfl rfl rfl rfl rfl (tr_cok rfl (Or.inl rfl)) c_0 ?_
  have hL0 := c_0.2
  exact tl_ret hL0 .ireturn 1 (some (.int v0)) rfl rfl rfl rfl hr
set_option maxRecDepth 20000 in
theorem sg_L_acts_249 {g : tr_g} {d : Nat} {h : ev_AH} {r : ev_O × ev_AH} {w1 w2 : Option Value} {x3 x4 x5 : Int32} (hL : hh_L h) (t : (x5 - x5 / 4 * 4) ≠ 0 → tr_L g d m_L_acts 305 [some (.ref 1000), w1, w2, some (.int x3), some (.int x4), some (.int x5)] [.ref 1000] h r) (f : (x5 - x5 / 4 * 4) = 0 → tr_L g d m_L_acts 257 [some (.ref 1000), w1, w2, some (.int x3), some (.int x4), some (.int x5)] [.ref 1000] h r) : tr_L g d m_L_acts 249 [some (.ref 1000), w1, w2, some (.int x3), some (.int x4), some (.int x5)] [] h r := by
  refine tr_s (.aload_n 0) 1 250 [some (.ref 1000), w1, w2, some (.int x3), some (.int x4), some (.int x5)] [.ref 1000] h rfl rfl rfl ?_
  refine tr_s (.iload 5) 2 252 [some (.ref 1000), w1, w2, some (.int x3), some (.int x4), some (.int x5)] [.int x5, .ref 1000] h rfl rfl rfl ?_
  refine tr_ic 4 4 (by decide) rfl ?_
  refine tr_s .irem 1 254 [some (.ref 1000), w1, w2, some (.int x3), some (.int x4), some (.int x5)] [.int (x5 - x5 / 4 * 4), .ref 1000] h rfl rfl rfl ?_
  exact tr_if1 .ne 51 305 (x5 - x5 / 4 * 4) rfl rfl rfl (fun hc => t ((tr_ne hc).1 rfl)) (fun hc => f ((tr_ne hc).2 rfl))
set_option maxRecDepth 20000 in
theorem sg_L_acts_257 {g : tr_g} {d : Nat} {h : ev_AH} {r : ev_O × ev_AH} {w0 w1 w2 : Option Value} {x3 x4 x5 v0 : Int32} {h1 h2 h3 h4 h5 h6 h7 h8 h9 h10 : ev_AH} {c0 c1 : Nat} {vs0 vs1 vs2 vs3 vs4 vs5 vs6 : List Value} (hL : hh_L h) (eh0 : h1 = hh_push h (.inr (9, [.null, .int 0, .int 0, .int 0])) 4) (ec0 : c0 = h.1.length) (c_0 : tr_L g d m_J4_init_da8c8 0 [some (.ref (c0 + 1000))] [] h1 (.inl none, h2)) (m0 : h2.1[c0]? = some (.inr (9, vs0))) (c_1 : tr_L g d m_J4_append_15ec4 0 [some (.ref (c0 + 1000)), some (.ref 35)] [] h2 (.inl (some (.ref (c0 + 1000))), h3)) (m1 : h3.1[c0]? = some (.inr (9, vs1))) (c_2 : tr_L g d m_J4_append_bf812 0 [some (.ref (c0 + 1000)), some (.int x3)] [] h3 (.inl (some (.ref (c0 + 1000))), h4)) (m2 : h4.1[c0]? = some (.inr (9, vs2))) (c_3 : tr_L g d m_J4_append_15ec4 0 [some (.ref (c0 + 1000)), some (.ref 37)] [] h4 (.inl (some (.ref (c0 + 1000))), h5)) (m3 : h5.1[c0]? = some (.inr (9, vs3))) (c_4 : tr_L g d m_J4_append_bf812 0 [some (.ref (c0 + 1000)), some (.int x4)] [] h5 (.inl (some (.ref (c0 + 1000))), h6)) (m4 : h6.1[c0]? = some (.inr (9, vs4))) (c_5 : tr_L g d m_J4_append_15ec4 0 [some (.ref (c0 + 1000)), some (.ref 39)] [] h6 (.inl (some (.ref (c0 + 1000))), h7)) (m5 : h7.1[c0]? = some (.inr (9, vs5))) (c_6 : tr_L g d m_J4_append_cf468 0 [some (.ref (c0 + 1000)), some (.int (((97 + (x5 - x5 / 3 * 3)).toUInt32 % 65536).toInt32))] [] h7 (.inl (some (.ref (c0 + 1000))), h8)) (m6 : h8.1[c0]? = some (.inr (9, vs6))) (c_7 : tr_L g d m_J4_toString_0e30d 0 [some (.ref (c0 + 1000))] [] h8 (.inl (some (.ref (c1 + 1000))), h9)) (c_8 : tr_L g d m_L_does 0 [some (.ref 1000), some (.ref (c1 + 1000)), none, none] [] h9 (.inl (some (.int v0)), h10)) (hr : r = (.inl (some (.int v0)), h10)) : tr_L g (d + 1) m_L_acts 257 [w0, w1, w2, some (.int x3), some (.int x4), some (.int x5)] [.ref 1000] h r := by
  refine tr_newo 153 9 [.null, .int 0, .int 0, .int 0] 4 (by exact rfl) (by exact rfl) rfl rfl ?_
  rw [← eh0, ← ec0]
  have hL0 : hh_L h1 := by rw [eh0]; exact hh_L_push hL
  refine tr_s .dup 1 261 [w0, w1, w2, some (.int x3), some (.int x4), some (.int x5)] [.ref (c0 + 1000), .ref (c0 + 1000), .ref 1000] h1 rfl rfl rfl ?_
  refine tr_call (.invokespecial 155) 155 4 0 0 m_J4_init_da8c8 [.ref (c0 + 1000)] [.ref (c0 + 1000), .ref 1000] none h2 rfl rfl rfl rfl rfl rfl rfl rfl rfl (tr_cok rfl (Or.inr ⟨_, _, rfl, tr_rcI rfl⟩)) c_0 ?_
  have hL1 := c_0.2
  refine tr_s (.ldc 156) 2 266 [w0, w1, w2, some (.int x3), some (.int x4), some (.int x5)] [.ref 35, .ref (c0 + 1000), .ref 1000] h2 rfl rfl rfl ?_
  refine tr_call (.invokevirtual 158) 158 0 1 9 m_J4_append_15ec4 [.ref (c0 + 1000), .ref 35] [.ref 1000] (some (.ref (c0 + 1000))) h3 rfl rfl rfl rfl rfl rfl rfl rfl rfl (tr_cok rfl (Or.inr ⟨_, _, rfl, tr_rc (hh_rd m0) (by decide)⟩)) c_1 ?_
  have hL2 := c_1.2
  refine tr_s (.iload_n 3) 1 270 [w0, w1, w2, some (.int x3), some (.int x4), some (.int x5)] [.int x3, .ref (c0 + 1000), .ref 1000] h3 rfl rfl rfl ?_
  refine tr_call (.invokevirtual 162) 162 0 1 9 m_J4_append_bf812 [.ref (c0 + 1000), .int x3] [.ref 1000] (some (.ref (c0 + 1000))) h4 rfl rfl rfl rfl rfl rfl rfl rfl rfl (tr_cok rfl (Or.inr ⟨_, _, rfl, tr_rc (hh_rd m1) (by decide)⟩)) c_2 ?_
  have hL3 := c_2.2
  refine tr_s (.ldc 165) 2 275 [w0, w1, w2, some (.int x3), some (.int x4), some (.int x5)] [.ref 37, .ref (c0 + 1000), .ref 1000] h4 rfl rfl rfl ?_
  refine tr_call (.invokevirtual 158) 158 0 1 9 m_J4_append_15ec4 [.ref (c0 + 1000), .ref 37] [.ref 1000] (some (.ref (c0 + 1000))) h5 rfl rfl rfl rfl rfl rfl rfl rfl rfl (tr_cok rfl (Or.inr ⟨_, _, rfl, tr_rc (hh_rd m2) (by decide)⟩)) c_3 ?_
  have hL4 := c_3.2
  refine tr_s (.iload 4) 2 280 [w0, w1, w2, some (.int x3), some (.int x4), some (.int x5)] [.int x4, .ref (c0 + 1000), .ref 1000] h5 rfl rfl rfl ?_
  refine tr_call (.invokevirtual 162) 162 0 1 9 m_J4_append_bf812 [.ref (c0 + 1000), .int x4] [.ref 1000] (some (.ref (c0 + 1000))) h6 rfl rfl rfl rfl rfl rfl rfl rfl rfl (tr_cok rfl (Or.inr ⟨_, _, rfl, tr_rc (hh_rd m3) (by decide)⟩)) c_4 ?_
  have hL5 := c_4.2
  refine tr_s (.ldc 167) 2 285 [w0, w1, w2, some (.int x3), some (.int x4), some (.int x5)] [.ref 39, .ref (c0 + 1000), .ref 1000] h6 rfl rfl rfl ?_
  refine tr_call (.invokevirtual 158) 158 0 1 9 m_J4_append_15ec4 [.ref (c0 + 1000), .ref 39] [.ref 1000] (some (.ref (c0 + 1000))) h7 rfl rfl rfl rfl rfl rfl rfl rfl rfl (tr_cok rfl (Or.inr ⟨_, _, rfl, tr_rc (hh_rd m4) (by decide)⟩)) c_5 ?_
  have hL6 := c_5.2
  refine tr_bi 97 97 (by decide) rfl ?_
  refine tr_s (.iload 5) 2 292 [w0, w1, w2, some (.int x3), some (.int x4), some (.int x5)] [.int x5, .int 97, .ref (c0 + 1000), .ref 1000] h7 rfl rfl rfl ?_
  refine tr_ic 3 3 (by decide) rfl ?_
  refine tr_s .irem 1 294 [w0, w1, w2, some (.int x3), some (.int x4), some (.int x5)] [.int (x5 - x5 / 3 * 3), .int 97, .ref (c0 + 1000), .ref 1000] h7 rfl rfl rfl ?_
  refine tr_s .iadd 1 295 [w0, w1, w2, some (.int x3), some (.int x4), some (.int x5)] [.int (97 + (x5 - x5 / 3 * 3)), .ref (c0 + 1000), .ref 1000] h7 rfl rfl rfl ?_
  refine tr_s .i2c 1 296 [w0, w1, w2, some (.int x3), some (.int x4), some (.int x5)] [.int (((97 + (x5 - x5 / 3 * 3)).toUInt32 % 65536).toInt32), .ref (c0 + 1000), .ref 1000] h7 rfl rfl rfl ?_
  refine tr_call (.invokevirtual 169) 169 0 1 9 m_J4_append_cf468 [.ref (c0 + 1000), .int (((97 + (x5 - x5 / 3 * 3)).toUInt32 % 65536).toInt32)] [.ref 1000] (some (.ref (c0 + 1000))) h8 rfl rfl rfl rfl rfl rfl rfl rfl rfl (tr_cok rfl (Or.inr ⟨_, _, rfl, tr_rc (hh_rd m5) (by decide)⟩)) c_6 ?_
  have hL7 := c_6.2
  refine tr_call (.invokevirtual 172) 172 0 0 9 m_J4_toString_0e30d [.ref (c0 + 1000)] [.ref 1000] (some (.ref (c1 + 1000))) h9 rfl rfl rfl rfl rfl rfl rfl rfl rfl (tr_cok rfl (Or.inr ⟨_, _, rfl, tr_rc (hh_rd m6) (by decide)⟩)) c_7 ?_
  have hL8 := c_7.2
  refine tr_goto 115 417 rfl rfl rfl ?_
  refine tr_call (.invokestatic 188) 188 2 2 0 m_L_does [.ref 1000, .ref (c1 + 1000)] [] (some (.int v0)) h10 rfl rfl rfl rfl rfl rfl rfl rfl rfl (tr_cok rfl (Or.inl rfl)) c_8 ?_
  have hL9 := c_8.2
  exact tl_ret hL9 .ireturn 1 (some (.int v0)) rfl rfl rfl rfl hr
set_option maxRecDepth 20000 in
theorem sg_L_acts_305 {g : tr_g} {d : Nat} {h : ev_AH} {r : ev_O × ev_AH} {w0 w1 w2 : Option Value} {x3 x4 x5 : Int32} (hL : hh_L h) (t : (x5 - x5 / 4 * 4) ≠ 1 → tr_L g d m_L_acts 341 [w0, w1, w2, some (.int x3), some (.int x4), some (.int x5)] [.ref 1000] h r) (f : (x5 - x5 / 4 * 4) = 1 → tr_L g d m_L_acts 313 [w0, w1, w2, some (.int x3), some (.int x4), some (.int x5)] [.ref 1000] h r) : tr_L g d m_L_acts 305 [w0, w1, w2, some (.int x3), some (.int x4), some (.int x5)] [.ref 1000] h r := by
  refine tr_s (.iload 5) 2 307 [w0, w1, w2, some (.int x3), some (.int x4), some (.int x5)] [.int x5, .ref 1000] h rfl rfl rfl ?_
  refine tr_ic 4 4 (by decide) rfl ?_
  refine tr_s .irem 1 309 [w0, w1, w2, some (.int x3), some (.int x4), some (.int x5)] [.int (x5 - x5 / 4 * 4), .ref 1000] h rfl rfl rfl ?_
  refine tr_ic 1 1 (by decide) rfl ?_
  exact tr_if2 .ne 31 341 (x5 - x5 / 4 * 4) 1 rfl rfl rfl (fun hc => t ((tr_ne hc).1 rfl)) (fun hc => f ((tr_ne hc).2 rfl))
set_option maxRecDepth 20000 in
theorem sg_L_acts_313 {g : tr_g} {d : Nat} {h : ev_AH} {r : ev_O × ev_AH} {w0 w1 w2 w3 w5 : Option Value} {x4 v0 : Int32} {h1 h2 h3 h4 h5 h6 h7 : ev_AH} {c0 c1 : Nat} {vs0 vs1 vs2 vs3 : List Value} (hL : hh_L h) (eh0 : h1 = hh_push h (.inr (9, [.null, .int 0, .int 0, .int 0])) 4) (ec0 : c0 = h.1.length) (c_0 : tr_L g d m_J4_init_da8c8 0 [some (.ref (c0 + 1000))] [] h1 (.inl none, h2)) (m0 : h2.1[c0]? = some (.inr (9, vs0))) (c_1 : tr_L g d m_J4_append_15ec4 0 [some (.ref (c0 + 1000)), some (.ref 41)] [] h2 (.inl (some (.ref (c0 + 1000))), h3)) (m1 : h3.1[c0]? = some (.inr (9, vs1))) (c_2 : tr_L g d m_J4_append_bf812 0 [some (.ref (c0 + 1000)), some (.int x4)] [] h3 (.inl (some (.ref (c0 + 1000))), h4)) (m2 : h4.1[c0]? = some (.inr (9, vs2))) (c_3 : tr_L g d m_J4_append_15ec4 0 [some (.ref (c0 + 1000)), some (.ref 43)] [] h4 (.inl (some (.ref (c0 + 1000))), h5)) (m3 : h5.1[c0]? = some (.inr (9, vs3))) (c_4 : tr_L g d m_J4_toString_0e30d 0 [some (.ref (c0 + 1000))] [] h5 (.inl (some (.ref (c1 + 1000))), h6)) (c_5 : tr_L g d m_L_does 0 [some (.ref 1000), some (.ref (c1 + 1000)), none, none] [] h6 (.inl (some (.int v0)), h7)) (hr : r = (.inl (some (.int v0)), h7)) : tr_L g (d + 1) m_L_acts 313 [w0, w1, w2, w3, some (.int x4), w5] [.ref 1000] h r := by
  refine tr_newo 153 9 [.null, .int 0, .int 0, .int 0] 4 (by exact rfl) (by exact rfl) rfl rfl ?_
  rw [← eh0, ← ec0]
  have hL0 : hh_L h1 := by rw [eh0]; exact hh_L_push hL
  refine tr_s .dup 1 317 [w0, w1, w2, w3, some (.int x4), w5] [.ref (c0 + 1000), .ref (c0 + 1000), .ref 1000] h1 rfl rfl rfl ?_
  refine tr_call (.invokespecial 155) 155 4 0 0 m_J4_init_da8c8 [.ref (c0 + 1000)] [.ref (c0 + 1000), .ref 1000] none h2 rfl rfl rfl rfl rfl rfl rfl rfl rfl (tr_cok rfl (Or.inr ⟨_, _, rfl, tr_rcI rfl⟩)) c_0 ?_
  have hL1 := c_0.2
  refine tr_s (.ldc 176) 2 322 [w0, w1, w2, w3, some (.int x4), w5] [.ref 41, .ref (c0 + 1000), .ref 1000] h2 rfl rfl rfl ?_
  refine tr_call (.invokevirtual 158) 158 0 1 9 m_J4_append_15ec4 [.ref (c0 + 1000), .ref 41] [.ref 1000] (some (.ref (c0 + 1000))) h3 rfl rfl rfl rfl rfl rfl rfl rfl rfl (tr_cok rfl (Or.inr ⟨_, _, rfl, tr_rc (hh_rd m0) (by decide)⟩)) c_1 ?_
  have hL2 := c_1.2
  refine tr_s (.iload 4) 2 327 [w0, w1, w2, w3, some (.int x4), w5] [.int x4, .ref (c0 + 1000), .ref 1000] h3 rfl rfl rfl ?_
  refine tr_call (.invokevirtual 162) 162 0 1 9 m_J4_append_bf812 [.ref (c0 + 1000), .int x4] [.ref 1000] (some (.ref (c0 + 1000))) h4 rfl rfl rfl rfl rfl rfl rfl rfl rfl (tr_cok rfl (Or.inr ⟨_, _, rfl, tr_rc (hh_rd m1) (by decide)⟩)) c_2 ?_
  have hL3 := c_2.2
  refine tr_s (.ldc 178) 2 332 [w0, w1, w2, w3, some (.int x4), w5] [.ref 43, .ref (c0 + 1000), .ref 1000] h4 rfl rfl rfl ?_
  refine tr_call (.invokevirtual 158) 158 0 1 9 m_J4_append_15ec4 [.ref (c0 + 1000), .ref 43] [.ref 1000] (some (.ref (c0 + 1000))) h5 rfl rfl rfl rfl rfl rfl rfl rfl rfl (tr_cok rfl (Or.inr ⟨_, _, rfl, tr_rc (hh_rd m2) (by decide)⟩)) c_3 ?_
  have hL4 := c_3.2
  refine tr_call (.invokevirtual 172) 172 0 0 9 m_J4_toString_0e30d [.ref (c0 + 1000)] [.ref 1000] (some (.ref (c1 + 1000))) h6 rfl rfl rfl rfl rfl rfl rfl rfl rfl (tr_cok rfl (Or.inr ⟨_, _, rfl, tr_rc (hh_rd m3) (by decide)⟩)) c_4 ?_
  have hL5 := c_4.2
  refine tr_goto 79 417 rfl rfl rfl ?_
  refine tr_call (.invokestatic 188) 188 2 2 0 m_L_does [.ref 1000, .ref (c1 + 1000)] [] (some (.int v0)) h7 rfl rfl rfl rfl rfl rfl rfl rfl rfl (tr_cok rfl (Or.inl rfl)) c_5 ?_
  have hL6 := c_5.2
  exact tl_ret hL6 .ireturn 1 (some (.int v0)) rfl rfl rfl rfl hr
set_option maxRecDepth 20000 in
theorem sg_L_acts_341 {g : tr_g} {d : Nat} {h : ev_AH} {r : ev_O × ev_AH} {w0 w1 w2 : Option Value} {x3 x4 x5 : Int32} (hL : hh_L h) (t : (x5 - x5 / 4 * 4) ≠ 2 → tr_L g d m_L_acts 393 [w0, w1, w2, some (.int x3), some (.int x4), some (.int x5)] [.ref 1000] h r) (f : (x5 - x5 / 4 * 4) = 2 → tr_L g d m_L_acts 349 [w0, w1, w2, some (.int x3), some (.int x4), some (.int x5)] [.ref 1000] h r) : tr_L g d m_L_acts 341 [w0, w1, w2, some (.int x3), some (.int x4), some (.int x5)] [.ref 1000] h r := by
  refine tr_s (.iload 5) 2 343 [w0, w1, w2, some (.int x3), some (.int x4), some (.int x5)] [.int x5, .ref 1000] h rfl rfl rfl ?_
  refine tr_ic 4 4 (by decide) rfl ?_
  refine tr_s .irem 1 345 [w0, w1, w2, some (.int x3), some (.int x4), some (.int x5)] [.int (x5 - x5 / 4 * 4), .ref 1000] h rfl rfl rfl ?_
  refine tr_ic 2 2 (by decide) rfl ?_
  exact tr_if2 .ne 47 393 (x5 - x5 / 4 * 4) 2 rfl rfl rfl (fun hc => t ((tr_ne hc).1 rfl)) (fun hc => f ((tr_ne hc).2 rfl))
set_option maxRecDepth 20000 in
theorem sg_L_acts_349 {g : tr_g} {d : Nat} {h : ev_AH} {r : ev_O × ev_AH} {w0 w1 w2 w5 : Option Value} {x3 x4 v0 v1 : Int32} {h1 h2 h3 h4 h5 h6 h7 h8 h9 h10 : ev_AH} {c0 c1 : Nat} {vs0 vs1 vs2 vs3 vs4 vs5 : List Value} (hL : hh_L h) (eh0 : h1 = hh_push h (.inr (9, [.null, .int 0, .int 0, .int 0])) 4) (ec0 : c0 = h.1.length) (c_0 : tr_L g d m_J4_init_da8c8 0 [some (.ref (c0 + 1000))] [] h1 (.inl none, h2)) (m0 : h2.1[c0]? = some (.inr (9, vs0))) (c_1 : tr_L g d m_J4_append_15ec4 0 [some (.ref (c0 + 1000)), some (.ref 45)] [] h2 (.inl (some (.ref (c0 + 1000))), h3)) (m1 : h3.1[c0]? = some (.inr (9, vs1))) (c_2 : tr_L g d m_J4_append_bf812 0 [some (.ref (c0 + 1000)), some (.int x3)] [] h3 (.inl (some (.ref (c0 + 1000))), h4)) (m2 : h4.1[c0]? = some (.inr (9, vs2))) (c_3 : tr_L g d m_J4_append_15ec4 0 [some (.ref (c0 + 1000)), some (.ref 47)] [] h4 (.inl (some (.ref (c0 + 1000))), h5)) (c_4 : tr_L g d m_J0_charAt_5068e 0 [some (.ref 25), some (.int (x4 - x4 / 3 * 3))] [] h5 (.inl (some (.int v0)), h6)) (m3 : h6.1[c0]? = some (.inr (9, vs3))) (c_5 : tr_L g d m_J4_append_cf468 0 [some (.ref (c0 + 1000)), some (.int v0)] [] h6 (.inl (some (.ref (c0 + 1000))), h7)) (m4 : h7.1[c0]? = some (.inr (9, vs4))) (c_6 : tr_L g d m_J4_append_15ec4 0 [some (.ref (c0 + 1000)), some (.ref 49)] [] h7 (.inl (some (.ref (c0 + 1000))), h8)) (m5 : h8.1[c0]? = some (.inr (9, vs5))) (c_7 : tr_L g d m_J4_toString_0e30d 0 [some (.ref (c0 + 1000))] [] h8 (.inl (some (.ref (c1 + 1000))), h9)) (c_8 : tr_L g d m_L_does 0 [some (.ref 1000), some (.ref (c1 + 1000)), none, none] [] h9 (.inl (some (.int v1)), h10)) (hr : r = (.inl (some (.int v1)), h10)) : tr_L g (d + 1) m_L_acts 349 [w0, w1, w2, some (.int x3), some (.int x4), w5] [.ref 1000] h r := by
  refine tr_newo 153 9 [.null, .int 0, .int 0, .int 0] 4 (by exact rfl) (by exact rfl) rfl rfl ?_
  rw [← eh0, ← ec0]
  have hL0 : hh_L h1 := by rw [eh0]; exact hh_L_push hL
  refine tr_s .dup 1 353 [w0, w1, w2, some (.int x3), some (.int x4), w5] [.ref (c0 + 1000), .ref (c0 + 1000), .ref 1000] h1 rfl rfl rfl ?_
  refine tr_call (.invokespecial 155) 155 4 0 0 m_J4_init_da8c8 [.ref (c0 + 1000)] [.ref (c0 + 1000), .ref 1000] none h2 rfl rfl rfl rfl rfl rfl rfl rfl rfl (tr_cok rfl (Or.inr ⟨_, _, rfl, tr_rcI rfl⟩)) c_0 ?_
  have hL1 := c_0.2
  refine tr_s (.ldc 180) 2 358 [w0, w1, w2, some (.int x3), some (.int x4), w5] [.ref 45, .ref (c0 + 1000), .ref 1000] h2 rfl rfl rfl ?_
  refine tr_call (.invokevirtual 158) 158 0 1 9 m_J4_append_15ec4 [.ref (c0 + 1000), .ref 45] [.ref 1000] (some (.ref (c0 + 1000))) h3 rfl rfl rfl rfl rfl rfl rfl rfl rfl (tr_cok rfl (Or.inr ⟨_, _, rfl, tr_rc (hh_rd m0) (by decide)⟩)) c_1 ?_
  have hL2 := c_1.2
  refine tr_s (.iload_n 3) 1 362 [w0, w1, w2, some (.int x3), some (.int x4), w5] [.int x3, .ref (c0 + 1000), .ref 1000] h3 rfl rfl rfl ?_
  refine tr_call (.invokevirtual 162) 162 0 1 9 m_J4_append_bf812 [.ref (c0 + 1000), .int x3] [.ref 1000] (some (.ref (c0 + 1000))) h4 rfl rfl rfl rfl rfl rfl rfl rfl rfl (tr_cok rfl (Or.inr ⟨_, _, rfl, tr_rc (hh_rd m1) (by decide)⟩)) c_2 ?_
  have hL3 := c_2.2
  refine tr_s (.ldc 182) 2 367 [w0, w1, w2, some (.int x3), some (.int x4), w5] [.ref 47, .ref (c0 + 1000), .ref 1000] h4 rfl rfl rfl ?_
  refine tr_call (.invokevirtual 158) 158 0 1 9 m_J4_append_15ec4 [.ref (c0 + 1000), .ref 47] [.ref 1000] (some (.ref (c0 + 1000))) h5 rfl rfl rfl rfl rfl rfl rfl rfl rfl (tr_cok rfl (Or.inr ⟨_, _, rfl, tr_rc (hh_rd m2) (by decide)⟩)) c_3 ?_
  have hL4 := c_3.2
  refine tr_s (.ldc 135) 2 372 [w0, w1, w2, some (.int x3), some (.int x4), w5] [.ref 25, .ref (c0 + 1000), .ref 1000] h5 rfl rfl rfl ?_
  refine tr_s (.iload 4) 2 374 [w0, w1, w2, some (.int x3), some (.int x4), w5] [.int x4, .ref 25, .ref (c0 + 1000), .ref 1000] h5 rfl rfl rfl ?_
  refine tr_ic 3 3 (by decide) rfl ?_
  refine tr_s .irem 1 376 [w0, w1, w2, some (.int x3), some (.int x4), w5] [.int (x4 - x4 / 3 * 3), .ref 25, .ref (c0 + 1000), .ref 1000] h5 rfl rfl rfl ?_
  refine tr_call (.invokevirtual 107) 107 0 1 8 m_J0_charAt_5068e [.ref 25, .int (x4 - x4 / 3 * 3)] [.ref (c0 + 1000), .ref 1000] (some (.int v0)) h6 rfl rfl rfl rfl rfl rfl rfl rfl rfl (tr_cok rfl (Or.inr ⟨_, _, rfl, rfl⟩)) c_4 ?_
  have hL5 := c_4.2
  refine tr_call (.invokevirtual 169) 169 0 1 9 m_J4_append_cf468 [.ref (c0 + 1000), .int v0] [.ref 1000] (some (.ref (c0 + 1000))) h7 rfl rfl rfl rfl rfl rfl rfl rfl rfl (tr_cok rfl (Or.inr ⟨_, _, rfl, tr_rc (hh_rd m3) (by decide)⟩)) c_5 ?_
  have hL6 := c_5.2
  refine tr_s (.ldc 184) 2 384 [w0, w1, w2, some (.int x3), some (.int x4), w5] [.ref 49, .ref (c0 + 1000), .ref 1000] h7 rfl rfl rfl ?_
  refine tr_call (.invokevirtual 158) 158 0 1 9 m_J4_append_15ec4 [.ref (c0 + 1000), .ref 49] [.ref 1000] (some (.ref (c0 + 1000))) h8 rfl rfl rfl rfl rfl rfl rfl rfl rfl (tr_cok rfl (Or.inr ⟨_, _, rfl, tr_rc (hh_rd m4) (by decide)⟩)) c_6 ?_
  have hL7 := c_6.2
  refine tr_call (.invokevirtual 172) 172 0 0 9 m_J4_toString_0e30d [.ref (c0 + 1000)] [.ref 1000] (some (.ref (c1 + 1000))) h9 rfl rfl rfl rfl rfl rfl rfl rfl rfl (tr_cok rfl (Or.inr ⟨_, _, rfl, tr_rc (hh_rd m5) (by decide)⟩)) c_7 ?_
  have hL8 := c_7.2
  refine tr_goto 27 417 rfl rfl rfl ?_
  refine tr_call (.invokestatic 188) 188 2 2 0 m_L_does [.ref 1000, .ref (c1 + 1000)] [] (some (.int v1)) h10 rfl rfl rfl rfl rfl rfl rfl rfl rfl (tr_cok rfl (Or.inl rfl)) c_8 ?_
  have hL9 := c_8.2
  exact tl_ret hL9 .ireturn 1 (some (.int v1)) rfl rfl rfl rfl hr
set_option maxRecDepth 20000 in
theorem sg_L_acts_393 {g : tr_g} {d : Nat} {h : ev_AH} {r : ev_O × ev_AH} {w0 w1 w2 w4 w5 : Option Value} {x3 v0 : Int32} {h1 h2 h3 h4 h5 h6 h7 : ev_AH} {c0 c1 : Nat} {vs0 vs1 vs2 vs3 : List Value} (hL : hh_L h) (eh0 : h1 = hh_push h (.inr (9, [.null, .int 0, .int 0, .int 0])) 4) (ec0 : c0 = h.1.length) (c_0 : tr_L g d m_J4_init_da8c8 0 [some (.ref (c0 + 1000))] [] h1 (.inl none, h2)) (m0 : h2.1[c0]? = some (.inr (9, vs0))) (c_1 : tr_L g d m_J4_append_15ec4 0 [some (.ref (c0 + 1000)), some (.ref 35)] [] h2 (.inl (some (.ref (c0 + 1000))), h3)) (m1 : h3.1[c0]? = some (.inr (9, vs1))) (c_2 : tr_L g d m_J4_append_bf812 0 [some (.ref (c0 + 1000)), some (.int x3)] [] h3 (.inl (some (.ref (c0 + 1000))), h4)) (m2 : h4.1[c0]? = some (.inr (9, vs2))) (c_3 : tr_L g d m_J4_append_15ec4 0 [some (.ref (c0 + 1000)), some (.ref 51)] [] h4 (.inl (some (.ref (c0 + 1000))), h5)) (m3 : h5.1[c0]? = some (.inr (9, vs3))) (c_4 : tr_L g d m_J4_toString_0e30d 0 [some (.ref (c0 + 1000))] [] h5 (.inl (some (.ref (c1 + 1000))), h6)) (c_5 : tr_L g d m_L_does 0 [some (.ref 1000), some (.ref (c1 + 1000)), none, none] [] h6 (.inl (some (.int v0)), h7)) (hr : r = (.inl (some (.int v0)), h7)) : tr_L g (d + 1) m_L_acts 393 [w0, w1, w2, some (.int x3), w4, w5] [.ref 1000] h r := by
  refine tr_newo 153 9 [.null, .int 0, .int 0, .int 0] 4 (by exact rfl) (by exact rfl) rfl rfl ?_
  rw [← eh0, ← ec0]
  have hL0 : hh_L h1 := by rw [eh0]; exact hh_L_push hL
  refine tr_s .dup 1 397 [w0, w1, w2, some (.int x3), w4, w5] [.ref (c0 + 1000), .ref (c0 + 1000), .ref 1000] h1 rfl rfl rfl ?_
  refine tr_call (.invokespecial 155) 155 4 0 0 m_J4_init_da8c8 [.ref (c0 + 1000)] [.ref (c0 + 1000), .ref 1000] none h2 rfl rfl rfl rfl rfl rfl rfl rfl rfl (tr_cok rfl (Or.inr ⟨_, _, rfl, tr_rcI rfl⟩)) c_0 ?_
  have hL1 := c_0.2
  refine tr_s (.ldc 156) 2 402 [w0, w1, w2, some (.int x3), w4, w5] [.ref 35, .ref (c0 + 1000), .ref 1000] h2 rfl rfl rfl ?_
  refine tr_call (.invokevirtual 158) 158 0 1 9 m_J4_append_15ec4 [.ref (c0 + 1000), .ref 35] [.ref 1000] (some (.ref (c0 + 1000))) h3 rfl rfl rfl rfl rfl rfl rfl rfl rfl (tr_cok rfl (Or.inr ⟨_, _, rfl, tr_rc (hh_rd m0) (by decide)⟩)) c_1 ?_
  have hL2 := c_1.2
  refine tr_s (.iload_n 3) 1 406 [w0, w1, w2, some (.int x3), w4, w5] [.int x3, .ref (c0 + 1000), .ref 1000] h3 rfl rfl rfl ?_
  refine tr_call (.invokevirtual 162) 162 0 1 9 m_J4_append_bf812 [.ref (c0 + 1000), .int x3] [.ref 1000] (some (.ref (c0 + 1000))) h4 rfl rfl rfl rfl rfl rfl rfl rfl rfl (tr_cok rfl (Or.inr ⟨_, _, rfl, tr_rc (hh_rd m1) (by decide)⟩)) c_2 ?_
  have hL3 := c_2.2
  refine tr_s (.ldc 186) 2 411 [w0, w1, w2, some (.int x3), w4, w5] [.ref 51, .ref (c0 + 1000), .ref 1000] h4 rfl rfl rfl ?_
  refine tr_call (.invokevirtual 158) 158 0 1 9 m_J4_append_15ec4 [.ref (c0 + 1000), .ref 51] [.ref 1000] (some (.ref (c0 + 1000))) h5 rfl rfl rfl rfl rfl rfl rfl rfl rfl (tr_cok rfl (Or.inr ⟨_, _, rfl, tr_rc (hh_rd m2) (by decide)⟩)) c_3 ?_
  have hL4 := c_3.2
  refine tr_call (.invokevirtual 172) 172 0 0 9 m_J4_toString_0e30d [.ref (c0 + 1000)] [.ref 1000] (some (.ref (c1 + 1000))) h6 rfl rfl rfl rfl rfl rfl rfl rfl rfl (tr_cok rfl (Or.inr ⟨_, _, rfl, tr_rc (hh_rd m3) (by decide)⟩)) c_4 ?_
  have hL5 := c_4.2
  refine tr_call (.invokestatic 188) 188 2 2 0 m_L_does [.ref 1000, .ref (c1 + 1000)] [] (some (.int v0)) h7 rfl rfl rfl rfl rfl rfl rfl rfl rfl (tr_cok rfl (Or.inl rfl)) c_5 ?_
  have hL6 := c_5.2
  exact tl_ret hL6 .ireturn 1 (some (.int v0)) rfl rfl rfl rfl hr
theorem sg_L_does_0 {g : tr_g} {d : Nat} {h : ev_AH} {r : ev_O × ev_AH} {a1 : Nat} (hL : hh_L h) (k : tr_L g d m_L_does 4 [some (.ref 1000), some (.ref a1), some (.int 0), some (.int 0)] [] h r) : tr_L g d m_L_does 0 [some (.ref 1000), some (.ref a1), none, none] [] h r := by
  refine tr_ic 0 0 (by decide) rfl ?_
  refine tr_st (.istore_n 2) 1 2 0 (.int 0) rfl rfl rfl rfl rfl rfl rfl ?_
  refine tr_ic 0 0 (by decide) rfl ?_
  refine tr_st (.istore_n 3) 1 3 0 (.int 0) rfl rfl rfl rfl rfl rfl rfl ?_
  exact k
theorem sg_L_does_4 {g : tr_g} {d : Nat} {h : ev_AH} {r : ev_O × ev_AH} {a1 : Nat} {x2 x3 v0 : Int32} {h1 : ev_AH} {vs0 : List Value} (hL : hh_L h) (m0 : ev_rd (tr_G g) h a1 = some (.inr (8, vs0))) (c_0 : tr_L g d m_J0_length_8abf5 0 [some (.ref a1)] [] h (.inl (some (.int v0)), h1)) (t : v0 ≤ x3 → tr_L g (d + 1) m_L_does 30 [some (.ref 1000), some (.ref a1), some (.int x2), some (.int x3)] [] h1 r) (f : x3 < v0 → tr_L g (d + 1) m_L_does 12 [some (.ref 1000), some (.ref a1), some (.int x2), some (.int x3)] [] h1 r) : tr_L g (d + 1) m_L_does 4 [some (.ref 1000), some (.ref a1), some (.int x2), some (.int x3)] [] h r := by
  refine tr_s (.iload_n 3) 1 5 [some (.ref 1000), some (.ref a1), some (.int x2), some (.int x3)] [.int x3] h rfl rfl rfl ?_
  refine tr_s (.aload_n 1) 1 6 [some (.ref 1000), some (.ref a1), some (.int x2), some (.int x3)] [.ref a1, .int x3] h rfl rfl rfl ?_
  refine tr_call (.invokevirtual 102) 102 0 0 8 m_J0_length_8abf5 [.ref a1] [.int x3] (some (.int v0)) h1 rfl rfl rfl rfl rfl rfl rfl rfl rfl (tr_cok rfl (Or.inr ⟨_, _, rfl, tr_rc m0 (by decide)⟩)) c_0 ?_
  have hL0 := c_0.2
  exact tr_if2 .ge 21 30 x3 v0 rfl rfl rfl (fun hc => t ((tr_ge hc).1 rfl)) (fun hc => f ((tr_ge hc).2 rfl))
theorem sx_L_does_12_19 {g : tr_g} {d : Nat} {h : ev_AH} {r : ev_O × ev_AH} {a1 E : Nat} {x2 x3 v0 v1 : Int32} {h1 h2 hx : ev_AH} {vs0 : List Value} (hL : hh_L h) (m0 : ev_rd (tr_G g) h a1 = some (.inr (8, vs0))) (c_0 : tr_L g d m_J0_charAt_5068e 0 [some (.ref a1), some (.int x3)] [] h (.inl (some (.int v0)), h1)) (cx : tr_L g d m_X8_appendInput 0 [some (.ref 1000), some (.int v0)] [] h1 (.inr E, hx)) (hr : r = (.inr E, hx)) : tr_L g (d + 1) m_L_does 12 [some (.ref 1000), some (.ref a1), some (.int x2), some (.int x3)] [] h r := by
  refine tr_s (.iload_n 2) 1 13 [some (.ref 1000), some (.ref a1), some (.int x2), some (.int x3)] [.int x2] h rfl rfl rfl ?_
  refine tr_s (.aload_n 0) 1 14 [some (.ref 1000), some (.ref a1), some (.int x2), some (.int x3)] [.ref 1000, .int x2] h rfl rfl rfl ?_
  refine tr_s (.aload_n 1) 1 15 [some (.ref 1000), some (.ref a1), some (.int x2), some (.int x3)] [.ref a1, .ref 1000, .int x2] h rfl rfl rfl ?_
  refine tr_s (.iload_n 3) 1 16 [some (.ref 1000), some (.ref a1), some (.int x2), some (.int x3)] [.int x3, .ref a1, .ref 1000, .int x2] h rfl rfl rfl ?_
  refine tr_call (.invokevirtual 107) 107 0 1 8 m_J0_charAt_5068e [.ref a1, .int x3] [.ref 1000, .int x2] (some (.int v0)) h1 rfl rfl rfl rfl rfl rfl rfl rfl rfl (tr_cok rfl (Or.inr ⟨_, _, rfl, tr_rc m0 (by decide)⟩)) c_0 ?_
  have hL0 := c_0.2
  exact tr_callx (.invokevirtual 110) 110 0 1 0 m_X8_appendInput [.ref 1000, .int v0] [.int x2] E hx rfl rfl rfl rfl rfl rfl rfl rfl rfl (tr_cok rfl (Or.inr ⟨_, _, rfl, tr_rc (hh_rd (hh_obj hL0 (k := 0) rfl).1) (by decide)⟩)) rfl cx hr
theorem sg_L_does_12 {g : tr_g} {d : Nat} {h : ev_AH} {r : ev_O × ev_AH} {a1 : Nat} {x2 x3 v0 v1 : Int32} {h1 h2 : ev_AH} {vs0 : List Value} (hL : hh_L h) (m0 : ev_rd (tr_G g) h a1 = some (.inr (8, vs0))) (c_0 : tr_L g d m_J0_charAt_5068e 0 [some (.ref a1), some (.int x3)] [] h (.inl (some (.int v0)), h1)) (c_1 : tr_L g d m_X8_appendInput 0 [some (.ref 1000), some (.int v0)] [] h1 (.inl (some (.int v1)), h2)) (k : tr_L g (d + 1) m_L_does 4 [some (.ref 1000), some (.ref a1), some (.int (x2 + v1)), some (.int (x3 + 1))] [] h2 r) : tr_L g (d + 1) m_L_does 12 [some (.ref 1000), some (.ref a1), some (.int x2), some (.int x3)] [] h r := by
  refine tr_s (.iload_n 2) 1 13 [some (.ref 1000), some (.ref a1), some (.int x2), some (.int x3)] [.int x2] h rfl rfl rfl ?_
  refine tr_s (.aload_n 0) 1 14 [some (.ref 1000), some (.ref a1), some (.int x2), some (.int x3)] [.ref 1000, .int x2] h rfl rfl rfl ?_
  refine tr_s (.aload_n 1) 1 15 [some (.ref 1000), some (.ref a1), some (.int x2), some (.int x3)] [.ref a1, .ref 1000, .int x2] h rfl rfl rfl ?_
  refine tr_s (.iload_n 3) 1 16 [some (.ref 1000), some (.ref a1), some (.int x2), some (.int x3)] [.int x3, .ref a1, .ref 1000, .int x2] h rfl rfl rfl ?_
  refine tr_call (.invokevirtual 107) 107 0 1 8 m_J0_charAt_5068e [.ref a1, .int x3] [.ref 1000, .int x2] (some (.int v0)) h1 rfl rfl rfl rfl rfl rfl rfl rfl rfl (tr_cok rfl (Or.inr ⟨_, _, rfl, tr_rc m0 (by decide)⟩)) c_0 ?_
  have hL0 := c_0.2
  refine tr_call (.invokevirtual 110) 110 0 1 0 m_X8_appendInput [.ref 1000, .int v0] [.int x2] (some (.int v1)) h2 rfl rfl rfl rfl rfl rfl rfl rfl rfl (tr_cok rfl (Or.inr ⟨_, _, rfl, tr_rc (hh_rd (hh_obj hL0 (k := 0) rfl).1) (by decide)⟩)) c_1 ?_
  have hL1 := c_1.2
  refine tr_s .iadd 1 23 [some (.ref 1000), some (.ref a1), some (.int x2), some (.int x3)] [.int (x2 + v1)] h2 rfl rfl rfl ?_
  refine tr_st (.istore_n 2) 1 2 0 (.int (x2 + v1)) rfl rfl rfl rfl rfl rfl rfl ?_
  refine tr_inc 3 1 x3 1 (by decide) rfl rfl rfl ?_
  refine tr_goto (-23) 4 rfl rfl rfl ?_
  exact k
theorem sg_L_does_30 {g : tr_g} {d : Nat} {h : ev_AH} {r : ev_O × ev_AH} {w1 w3 : Option Value} {x2 : Int32} (hL : hh_L h) (t : 0 ≤ x2 → tr_L g d m_L_does 39 [some (.ref 1000), w1, some (.int x2), w3] [] h r) (f : x2 < 0 → tr_L g d m_L_does 34 [some (.ref 1000), w1, some (.int x2), w3] [] h r) : tr_L g d m_L_does 30 [some (.ref 1000), w1, some (.int x2), w3] [] h r := by
  refine tr_s (.iload_n 2) 1 31 [some (.ref 1000), w1, some (.int x2), w3] [.int x2] h rfl rfl rfl ?_
  exact tr_if1 .ge 8 39 x2 rfl rfl rfl (fun hc => t ((tr_ge hc).1 rfl)) (fun hc => f ((tr_ge hc).2 rfl))
theorem sg_L_does_34 {g : tr_g} {d : Nat} {h : ev_AH} {r : ev_O × ev_AH} {w0 w1 w2 w3 : Option Value} (hL : hh_L h) (hr : r = (.inl (some (.int (-900009))), h)) : tr_L g d m_L_does 34 [w0, w1, w2, w3] [] h r := by
  refine tr_s (.ldc 114) 2 36 [w0, w1, w2, w3] [.int (-900009)] h rfl rfl rfl ?_
  refine tr_goto 7 43 rfl rfl rfl ?_
  exact tl_ret hL .ireturn 1 (some (.int (-900009))) rfl rfl rfl rfl hr
theorem sg_L_does_39 {g : tr_g} {d : Nat} {h : ev_AH} {r : ev_O × ev_AH} {w1 w2 w3 : Option Value} {h1 : ev_AH} {v0 : Int32} (hL : hh_L h) (c_0 : tr_L g d m_L_execute 0 [some (.ref 1000), none] [] h (.inl (some (.int v0)), h1)) (hr : r = (.inl (some (.int v0)), h1)) : tr_L g (d + 1) m_L_does 39 [some (.ref 1000), w1, w2, w3] [] h r := by
  refine tr_s (.aload_n 0) 1 40 [some (.ref 1000), w1, w2, w3] [.ref 1000] h rfl rfl rfl ?_
  refine tr_call (.invokestatic 115) 115 8 1 0 m_L_execute [.ref 1000] [] (some (.int v0)) h1 rfl rfl rfl rfl rfl rfl rfl rfl rfl (tr_cok rfl (Or.inl rfl)) c_0 ?_
  have hL0 := c_0.2
  exact tl_ret hL0 .ireturn 1 (some (.int v0)) rfl rfl rfl rfl hr
theorem sx_L_execute_0_1_1 {g : tr_g} {d : Nat} {h : ev_AH} {r : ev_O × ev_AH} {h1 hx : ev_AH} {v0 : Int32} (hL : hh_L h) (cx : tr_L g d m_X8_execute 0 [some (.ref 1000), none, none, none, none] [] h (.inr 1, hx)) (hr : r = (.inl (some (.int (-900001))), hx)) : tr_L g (d + 1) m_L_execute 0 [some (.ref 1000), none] [] h r := by
  refine tr_s (.aload_n 0) 1 1 [some (.ref 1000), none] [.ref 1000] h rfl rfl rfl ?_
  refine tr_callh (.invokevirtual 63) 63 0 0 0 m_X8_execute [.ref 1000] [] 1 6 1 hx rfl rfl rfl rfl rfl rfl rfl rfl rfl (tr_cok rfl (Or.inr ⟨_, _, rfl, tr_rc (hh_rd (hh_obj hL (k := 0) rfl).1) (by decide)⟩)) rfl rfl cx ?_
  refine tr_s (.ldc 17) 2 8 _ [.int (-900001)] hx rfl rfl rfl ?_
  exact tl_ret cx.2 .ireturn 1 (some (.int (-900001))) rfl rfl rfl rfl hr
theorem sx_L_execute_0_1_2 {g : tr_g} {d : Nat} {h : ev_AH} {r : ev_O × ev_AH} {h1 hx : ev_AH} {v0 : Int32} (hL : hh_L h) (cx : tr_L g d m_X8_execute 0 [some (.ref 1000), none, none, none, none] [] h (.inr 2, hx)) (hr : r = (.inl (some (.int (-900003))), hx)) : tr_L g (d + 1) m_L_execute 0 [some (.ref 1000), none] [] h r := by
  refine tr_s (.aload_n 0) 1 1 [some (.ref 1000), none] [.ref 1000] h rfl rfl rfl ?_
  refine tr_callh (.invokevirtual 63) 63 0 0 0 m_X8_execute [.ref 1000] [] 2 14 1 hx rfl rfl rfl rfl rfl rfl rfl rfl rfl (tr_cok rfl (Or.inr ⟨_, _, rfl, tr_rc (hh_rd (hh_obj hL (k := 0) rfl).1) (by decide)⟩)) rfl rfl cx ?_
  refine tr_s (.ldc 23) 2 16 _ [.int (-900003)] hx rfl rfl rfl ?_
  exact tl_ret cx.2 .ireturn 1 (some (.int (-900003))) rfl rfl rfl rfl hr
theorem sx_L_execute_0_1_5 {g : tr_g} {d : Nat} {h : ev_AH} {r : ev_O × ev_AH} {h1 hx : ev_AH} {v0 : Int32} (hL : hh_L h) (cx : tr_L g d m_X8_execute 0 [some (.ref 1000), none, none, none, none] [] h (.inr 5, hx)) (hr : r = (.inl (some (.int (-900002))), hx)) : tr_L g (d + 1) m_L_execute 0 [some (.ref 1000), none] [] h r := by
  refine tr_s (.aload_n 0) 1 1 [some (.ref 1000), none] [.ref 1000] h rfl rfl rfl ?_
  refine tr_callh (.invokevirtual 63) 63 0 0 0 m_X8_execute [.ref 1000] [] 5 10 1 hx rfl rfl rfl rfl rfl rfl rfl rfl rfl (tr_cok rfl (Or.inr ⟨_, _, rfl, tr_rc (hh_rd (hh_obj hL (k := 0) rfl).1) (by decide)⟩)) rfl rfl cx ?_
  refine tr_s (.ldc 20) 2 12 _ [.int (-900002)] hx rfl rfl rfl ?_
  exact tl_ret cx.2 .ireturn 1 (some (.int (-900002))) rfl rfl rfl rfl hr
theorem sg_L_execute_0 {g : tr_g} {d : Nat} {h : ev_AH} {r : ev_O × ev_AH} {h1 : ev_AH} {v0 : Int32} (hL : hh_L h) (c_0 : tr_L g d m_X8_execute 0 [some (.ref 1000), none, none, none, none] [] h (.inl (some (.int v0)), h1)) (hr : r = (.inl (some (.int v0)), h1)) : tr_L g (d + 1) m_L_execute 0 [some (.ref 1000), none] [] h r := by
  refine tr_s (.aload_n 0) 1 1 [some (.ref 1000), none] [.ref 1000] h rfl rfl rfl ?_
  refine tr_call (.invokevirtual 63) 63 0 0 0 m_X8_execute [.ref 1000] [] (some (.int v0)) h1 rfl rfl rfl rfl rfl rfl rfl rfl rfl (tr_cok rfl (Or.inr ⟨_, _, rfl, tr_rc (hh_rd (hh_obj hL (k := 0) rfl).1) (by decide)⟩)) c_0 ?_
  have hL0 := c_0.2
  exact tl_ret hL0 .ireturn 1 (some (.int v0)) rfl rfl rfl rfl hr
theorem sg_L_seen_0 {g : tr_g} {d : Nat} {h : ev_AH} {r : ev_O × ev_AH} {j0 c0 j1 j2 j3 j4 j5 j6 : Nat} {h1 h2 h3 h4 h5 h6 h7 h8 h9 h10 h11 h12 h13 h14 : ev_AH} {v0 v1 v2 v3 v4 v5 v6 : Int32} {l0 l1 l2 l3 l4 l5 : List Int32} (hL : hh_L h) (e0 : 120 = Int32.ofNat j0) (b0 : j0 ≤ 1000000) (eh0 : h1 = hh_push h (.inl (0, List.replicate j0 0)) j0) (ec0 : c0 = h.1.length) (c_0 : tr_L g d m_X8_catCount 0 [some (.ref 1000)] [] h1 (.inl (some (.int v0)), h2)) (e1 : 0 = Int32.ofNat j1) (m0 : h2.1[c0]? = some (.inl (0, l0))) (z0 : l0.length < 2147483648) (b1 : j1 < l0.length) (eh1 : h3 = ev_wr h2 (c0 + 1000) (.inl (0, l0.set j1 v0))) (hLs0 : hh_L h3) (c_1 : tr_L g d m_X8_method 0 [some (.ref 1000)] [] h3 (.inl (some (.int v1)), h4)) (e2 : 1 = Int32.ofNat j2) (m1 : h4.1[c0]? = some (.inl (0, l1))) (z1 : l1.length < 2147483648) (b2 : j2 < l1.length) (eh2 : h5 = ev_wr h4 (c0 + 1000) (.inl (0, l1.set j2 v1))) (hLs1 : hh_L h5) (c_2 : tr_L g d m_X8_deliberations 0 [some (.ref 1000)] [] h5 (.inl (some (.int v2)), h6)) (e3 : 2 = Int32.ofNat j3) (m2 : h6.1[c0]? = some (.inl (0, l2))) (z2 : l2.length < 2147483648) (b3 : j3 < l2.length) (eh3 : h7 = ev_wr h6 (c0 + 1000) (.inl (0, l2.set j3 v2))) (hLs2 : hh_L h7) (c_3 : tr_L g d m_X8_hungCount 0 [some (.ref 1000)] [] h7 (.inl (some (.int v3)), h8)) (e4 : 3 = Int32.ofNat j4) (m3 : h8.1[c0]? = some (.inl (0, l3))) (z3 : l3.length < 2147483648) (b4 : j4 < l3.length) (eh4 : h9 = ev_wr h8 (c0 + 1000) (.inl (0, l3.set j4 v3))) (hLs3 : hh_L h9) (c_4 : tr_L g d m_X8_retrials 0 [some (.ref 1000)] [] h9 (.inl (some (.int v4)), h10)) (e5 : 4 = Int32.ofNat j5) (m4 : h10.1[c0]? = some (.inl (0, l4))) (z4 : l4.length < 2147483648) (b5 : j5 < l4.length) (eh5 : h11 = ev_wr h10 (c0 + 1000) (.inl (0, l4.set j5 v4))) (hLs4 : hh_L h11) (c_5 : tr_L g d m_X8_testimonies 0 [some (.ref 1000)] [] h11 (.inl (some (.int v5)), h12)) (e6 : 5 = Int32.ofNat j6) (m5 : h12.1[c0]? = some (.inl (0, l5))) (z5 : l5.length < 2147483648) (b6 : j6 < l5.length) (eh6 : h13 = ev_wr h12 (c0 + 1000) (.inl (0, l5.set j6 v5))) (hLs5 : hh_L h13) (c_6 : tr_L g d m_X8_hasCause 0 [some (.ref 1000)] [] h13 (.inl (some (.int v6)), h14)) (t : v6 = 0 → tr_L g (d + 1) m_L_seen 61 [some (.ref 1000), some (.ref (c0 + 1000)), none, none] [.int 6, .ref (c0 + 1000)] h14 r) (f : v6 ≠ 0 → tr_L g (d + 1) m_L_seen 57 [some (.ref 1000), some (.ref (c0 + 1000)), none, none] [.int 6, .ref (c0 + 1000)] h14 r) : tr_L g (d + 1) m_L_seen 0 [some (.ref 1000), none, none, none] [] h r := by
  refine tr_bi 120 120 (by decide) rfl ?_
  refine tr_newi j0 120 rfl e0 b0 ?_
  rw [← eh0, ← ec0]
  have hL0 : hh_L h1 := by rw [eh0]; exact hh_L_push hL
  refine tr_st (.astore_n 1) 1 1 1 (.ref (c0 + 1000)) rfl rfl rfl rfl rfl rfl rfl ?_
  refine tr_s (.aload_n 1) 1 6 [some (.ref 1000), some (.ref (c0 + 1000)), none, none] [.ref (c0 + 1000)] h1 rfl rfl rfl ?_
  refine tr_ic 0 0 (by decide) rfl ?_
  refine tr_s (.aload_n 0) 1 8 [some (.ref 1000), some (.ref (c0 + 1000)), none, none] [.ref 1000, .int 0, .ref (c0 + 1000)] h1 rfl rfl rfl ?_
  refine tr_call (.invokevirtual 192) 192 0 0 0 m_X8_catCount [.ref 1000] [.int 0, .ref (c0 + 1000)] (some (.int v0)) h2 rfl rfl rfl rfl rfl rfl rfl rfl rfl (tr_cok rfl (Or.inr ⟨_, _, rfl, tr_rc (hh_rd (hh_obj hL0 (k := 0) rfl).1) (by decide)⟩)) c_0 ?_
  have hL1 := c_0.2
  refine tr_ias (c0 + 1000) j1 0 v0 l0 rfl (by omega) (by rw [Nat.add_sub_cancel]; exact m0) e1 b1 z0 ?_
  rw [← eh1]
  refine tr_s (.aload_n 1) 1 13 [some (.ref 1000), some (.ref (c0 + 1000)), none, none] [.ref (c0 + 1000)] h3 rfl rfl rfl ?_
  refine tr_ic 1 1 (by decide) rfl ?_
  refine tr_s (.aload_n 0) 1 15 [some (.ref 1000), some (.ref (c0 + 1000)), none, none] [.ref 1000, .int 1, .ref (c0 + 1000)] h3 rfl rfl rfl ?_
  refine tr_call (.invokevirtual 195) 195 0 0 0 m_X8_method [.ref 1000] [.int 1, .ref (c0 + 1000)] (some (.int v1)) h4 rfl rfl rfl rfl rfl rfl rfl rfl rfl (tr_cok rfl (Or.inr ⟨_, _, rfl, tr_rc (hh_rd (hh_obj hLs0 (k := 0) rfl).1) (by decide)⟩)) c_1 ?_
  have hL2 := c_1.2
  refine tr_ias (c0 + 1000) j2 1 v1 l1 rfl (by omega) (by rw [Nat.add_sub_cancel]; exact m1) e2 b2 z1 ?_
  rw [← eh2]
  refine tr_s (.aload_n 1) 1 20 [some (.ref 1000), some (.ref (c0 + 1000)), none, none] [.ref (c0 + 1000)] h5 rfl rfl rfl ?_
  refine tr_ic 2 2 (by decide) rfl ?_
  refine tr_s (.aload_n 0) 1 22 [some (.ref 1000), some (.ref (c0 + 1000)), none, none] [.ref 1000, .int 2, .ref (c0 + 1000)] h5 rfl rfl rfl ?_
  refine tr_call (.invokevirtual 198) 198 0 0 0 m_X8_deliberations [.ref 1000] [.int 2, .ref (c0 + 1000)] (some (.int v2)) h6 rfl rfl rfl rfl rfl rfl rfl rfl rfl (tr_cok rfl (Or.inr ⟨_, _, rfl, tr_rc (hh_rd (hh_obj hLs1 (k := 0) rfl).1) (by decide)⟩)) c_2 ?_
  have hL3 := c_2.2
  refine tr_ias (c0 + 1000) j3 2 v2 l2 rfl (by omega) (by rw [Nat.add_sub_cancel]; exact m2) e3 b3 z2 ?_
  rw [← eh3]
  refine tr_s (.aload_n 1) 1 27 [some (.ref 1000), some (.ref (c0 + 1000)), none, none] [.ref (c0 + 1000)] h7 rfl rfl rfl ?_
  refine tr_ic 3 3 (by decide) rfl ?_
  refine tr_s (.aload_n 0) 1 29 [some (.ref 1000), some (.ref (c0 + 1000)), none, none] [.ref 1000, .int 3, .ref (c0 + 1000)] h7 rfl rfl rfl ?_
  refine tr_call (.invokevirtual 201) 201 0 0 0 m_X8_hungCount [.ref 1000] [.int 3, .ref (c0 + 1000)] (some (.int v3)) h8 rfl rfl rfl rfl rfl rfl rfl rfl rfl (tr_cok rfl (Or.inr ⟨_, _, rfl, tr_rc (hh_rd (hh_obj hLs2 (k := 0) rfl).1) (by decide)⟩)) c_3 ?_
  have hL4 := c_3.2
  refine tr_ias (c0 + 1000) j4 3 v3 l3 rfl (by omega) (by rw [Nat.add_sub_cancel]; exact m3) e4 b4 z3 ?_
  rw [← eh4]
  refine tr_s (.aload_n 1) 1 34 [some (.ref 1000), some (.ref (c0 + 1000)), none, none] [.ref (c0 + 1000)] h9 rfl rfl rfl ?_
  refine tr_ic 4 4 (by decide) rfl ?_
  refine tr_s (.aload_n 0) 1 36 [some (.ref 1000), some (.ref (c0 + 1000)), none, none] [.ref 1000, .int 4, .ref (c0 + 1000)] h9 rfl rfl rfl ?_
  refine tr_call (.invokevirtual 204) 204 0 0 0 m_X8_retrials [.ref 1000] [.int 4, .ref (c0 + 1000)] (some (.int v4)) h10 rfl rfl rfl rfl rfl rfl rfl rfl rfl (tr_cok rfl (Or.inr ⟨_, _, rfl, tr_rc (hh_rd (hh_obj hLs3 (k := 0) rfl).1) (by decide)⟩)) c_4 ?_
  have hL5 := c_4.2
  refine tr_ias (c0 + 1000) j5 4 v4 l4 rfl (by omega) (by rw [Nat.add_sub_cancel]; exact m4) e5 b5 z4 ?_
  rw [← eh5]
  refine tr_s (.aload_n 1) 1 41 [some (.ref 1000), some (.ref (c0 + 1000)), none, none] [.ref (c0 + 1000)] h11 rfl rfl rfl ?_
  refine tr_ic 5 5 (by decide) rfl ?_
  refine tr_s (.aload_n 0) 1 43 [some (.ref 1000), some (.ref (c0 + 1000)), none, none] [.ref 1000, .int 5, .ref (c0 + 1000)] h11 rfl rfl rfl ?_
  refine tr_call (.invokevirtual 207) 207 0 0 0 m_X8_testimonies [.ref 1000] [.int 5, .ref (c0 + 1000)] (some (.int v5)) h12 rfl rfl rfl rfl rfl rfl rfl rfl rfl (tr_cok rfl (Or.inr ⟨_, _, rfl, tr_rc (hh_rd (hh_obj hLs4 (k := 0) rfl).1) (by decide)⟩)) c_5 ?_
  have hL6 := c_5.2
  refine tr_ias (c0 + 1000) j6 5 v5 l5 rfl (by omega) (by rw [Nat.add_sub_cancel]; exact m5) e6 b6 z5 ?_
  rw [← eh6]
  refine tr_s (.aload_n 1) 1 48 [some (.ref 1000), some (.ref (c0 + 1000)), none, none] [.ref (c0 + 1000)] h13 rfl rfl rfl ?_
  refine tr_bi 6 6 (by decide) rfl ?_
  refine tr_s (.aload_n 0) 1 51 [some (.ref 1000), some (.ref (c0 + 1000)), none, none] [.ref 1000, .int 6, .ref (c0 + 1000)] h13 rfl rfl rfl ?_
  refine tr_call (.invokevirtual 210) 210 0 0 0 m_X8_hasCause [.ref 1000] [.int 6, .ref (c0 + 1000)] (some (.int v6)) h14 rfl rfl rfl rfl rfl rfl rfl rfl rfl (tr_cok rfl (Or.inr ⟨_, _, rfl, tr_rc (hh_rd (hh_obj hLs5 (k := 0) rfl).1) (by decide)⟩)) c_6 ?_
  have hL7 := c_6.2
  exact tr_if1 .eq 7 61 v6 rfl rfl rfl (fun hc => t ((tr_eq hc).1 rfl)) (fun hc => f ((tr_eq hc).2 rfl))
theorem sg_L_seen_57 {g : tr_g} {d : Nat} {h : ev_AH} {r : ev_O × ev_AH} {a1 e9 j0 : Nat} {w2 w3 : Option Value} {s1 : Int32} {l0 : List Int32} {h1 : ev_AH} (hL : hh_L h) (e0 : s1 = Int32.ofNat j0) (m0 : h.1[e9]? = some (.inl (0, l0))) (z0 : l0.length < 2147483648) (b0 : j0 < l0.length) (eh0 : h1 = ev_wr h (e9 + 1000) (.inl (0, l0.set j0 1))) (hLs0 : hh_L h1) (k : tr_L g d m_L_seen 65 [some (.ref 1000), some (.ref (a1 + 1000)), some (.int 0), w3] [] h1 r) : tr_L g d m_L_seen 57 [some (.ref 1000), some (.ref (a1 + 1000)), w2, w3] [.int s1, .ref (e9 + 1000)] h r := by
  refine tr_ic 1 1 (by decide) rfl ?_
  refine tr_goto 4 62 rfl rfl rfl ?_
  refine tr_ias (e9 + 1000) j0 s1 1 l0 rfl (by omega) (by rw [Nat.add_sub_cancel]; exact m0) e0 b0 z0 ?_
  rw [← eh0]
  refine tr_ic 0 0 (by decide) rfl ?_
  refine tr_st (.istore_n 2) 1 2 0 (.int 0) rfl rfl rfl rfl rfl rfl rfl ?_
  exact k
theorem sg_L_seen_61 {g : tr_g} {d : Nat} {h : ev_AH} {r : ev_O × ev_AH} {a1 e9 j0 : Nat} {w2 w3 : Option Value} {s1 : Int32} {l0 : List Int32} {h1 : ev_AH} (hL : hh_L h) (e0 : s1 = Int32.ofNat j0) (m0 : h.1[e9]? = some (.inl (0, l0))) (z0 : l0.length < 2147483648) (b0 : j0 < l0.length) (eh0 : h1 = ev_wr h (e9 + 1000) (.inl (0, l0.set j0 0))) (hLs0 : hh_L h1) (k : tr_L g d m_L_seen 65 [some (.ref 1000), some (.ref (a1 + 1000)), some (.int 0), w3] [] h1 r) : tr_L g d m_L_seen 61 [some (.ref 1000), some (.ref (a1 + 1000)), w2, w3] [.int s1, .ref (e9 + 1000)] h r := by
  refine tr_ic 0 0 (by decide) rfl ?_
  refine tr_ias (e9 + 1000) j0 s1 0 l0 rfl (by omega) (by rw [Nat.add_sub_cancel]; exact m0) e0 b0 z0 ?_
  rw [← eh0]
  refine tr_ic 0 0 (by decide) rfl ?_
  refine tr_st (.istore_n 2) 1 2 0 (.int 0) rfl rfl rfl rfl rfl rfl rfl ?_
  exact k
theorem sg_L_seen_65 {g : tr_g} {d : Nat} {h : ev_AH} {r : ev_O × ev_AH} {a1 : Nat} {x2 : Int32} {w3 : Option Value} (hL : hh_L h) (t : 35 ≤ x2 → tr_L g d m_L_seen 88 [some (.ref 1000), some (.ref (a1 + 1000)), some (.int x2), w3] [] h r) (f : x2 < 35 → tr_L g d m_L_seen 71 [some (.ref 1000), some (.ref (a1 + 1000)), some (.int x2), w3] [] h r) : tr_L g d m_L_seen 65 [some (.ref 1000), some (.ref (a1 + 1000)), some (.int x2), w3] [] h r := by
  refine tr_s (.iload_n 2) 1 66 [some (.ref 1000), some (.ref (a1 + 1000)), some (.int x2), w3] [.int x2] h rfl rfl rfl ?_
  refine tr_bi 35 35 (by decide) rfl ?_
  exact tr_if2 .ge 20 88 x2 35 rfl rfl rfl (fun hc => t ((tr_ge hc).1 rfl)) (fun hc => f ((tr_ge hc).2 rfl))
theorem sx_L_seen_71_78 {g : tr_g} {d : Nat} {h : ev_AH} {r : ev_O × ev_AH} {a1 E : Nat} {x2 v0 : Int32} {w3 : Option Value} {h1 hx : ev_AH} (hL : hh_L h) (cx : tr_L g d m_X8_contentOf 0 [some (.ref 1000), some (.int x2)] [] h (.inr E, hx)) (hr : r = (.inr E, hx)) : tr_L g (d + 1) m_L_seen 71 [some (.ref 1000), some (.ref (a1 + 1000)), some (.int x2), w3] [] h r := by
  refine tr_s (.aload_n 1) 1 72 [some (.ref 1000), some (.ref (a1 + 1000)), some (.int x2), w3] [.ref (a1 + 1000)] h rfl rfl rfl ?_
  refine tr_bi 8 8 (by decide) rfl ?_
  refine tr_s (.iload_n 2) 1 75 [some (.ref 1000), some (.ref (a1 + 1000)), some (.int x2), w3] [.int x2, .int 8, .ref (a1 + 1000)] h rfl rfl rfl ?_
  refine tr_s .iadd 1 76 [some (.ref 1000), some (.ref (a1 + 1000)), some (.int x2), w3] [.int (8 + x2), .ref (a1 + 1000)] h rfl rfl rfl ?_
  refine tr_s (.aload_n 0) 1 77 [some (.ref 1000), some (.ref (a1 + 1000)), some (.int x2), w3] [.ref 1000, .int (8 + x2), .ref (a1 + 1000)] h rfl rfl rfl ?_
  refine tr_s (.iload_n 2) 1 78 [some (.ref 1000), some (.ref (a1 + 1000)), some (.int x2), w3] [.int x2, .ref 1000, .int (8 + x2), .ref (a1 + 1000)] h rfl rfl rfl ?_
  exact tr_callx (.invokevirtual 214) 214 0 1 0 m_X8_contentOf [.ref 1000, .int x2] [.int (8 + x2), .ref (a1 + 1000)] E hx rfl rfl rfl rfl rfl rfl rfl rfl rfl (tr_cok rfl (Or.inr ⟨_, _, rfl, tr_rc (hh_rd (hh_obj hL (k := 0) rfl).1) (by decide)⟩)) rfl cx hr
theorem sg_L_seen_71 {g : tr_g} {d : Nat} {h : ev_AH} {r : ev_O × ev_AH} {a1 j0 : Nat} {x2 v0 : Int32} {w3 : Option Value} {h1 h2 : ev_AH} {l0 : List Int32} (hL : hh_L h) (c_0 : tr_L g d m_X8_contentOf 0 [some (.ref 1000), some (.int x2)] [] h (.inl (some (.int v0)), h1)) (e0 : 8 + x2 = Int32.ofNat j0) (m0 : h1.1[a1]? = some (.inl (0, l0))) (z0 : l0.length < 2147483648) (b0 : j0 < l0.length) (eh0 : h2 = ev_wr h1 (a1 + 1000) (.inl (0, l0.set j0 v0))) (hLs0 : hh_L h2) (k : tr_L g (d + 1) m_L_seen 65 [some (.ref 1000), some (.ref (a1 + 1000)), some (.int (x2 + 1)), w3] [] h2 r) : tr_L g (d + 1) m_L_seen 71 [some (.ref 1000), some (.ref (a1 + 1000)), some (.int x2), w3] [] h r := by
  refine tr_s (.aload_n 1) 1 72 [some (.ref 1000), some (.ref (a1 + 1000)), some (.int x2), w3] [.ref (a1 + 1000)] h rfl rfl rfl ?_
  refine tr_bi 8 8 (by decide) rfl ?_
  refine tr_s (.iload_n 2) 1 75 [some (.ref 1000), some (.ref (a1 + 1000)), some (.int x2), w3] [.int x2, .int 8, .ref (a1 + 1000)] h rfl rfl rfl ?_
  refine tr_s .iadd 1 76 [some (.ref 1000), some (.ref (a1 + 1000)), some (.int x2), w3] [.int (8 + x2), .ref (a1 + 1000)] h rfl rfl rfl ?_
  refine tr_s (.aload_n 0) 1 77 [some (.ref 1000), some (.ref (a1 + 1000)), some (.int x2), w3] [.ref 1000, .int (8 + x2), .ref (a1 + 1000)] h rfl rfl rfl ?_
  refine tr_s (.iload_n 2) 1 78 [some (.ref 1000), some (.ref (a1 + 1000)), some (.int x2), w3] [.int x2, .ref 1000, .int (8 + x2), .ref (a1 + 1000)] h rfl rfl rfl ?_
  refine tr_call (.invokevirtual 214) 214 0 1 0 m_X8_contentOf [.ref 1000, .int x2] [.int (8 + x2), .ref (a1 + 1000)] (some (.int v0)) h1 rfl rfl rfl rfl rfl rfl rfl rfl rfl (tr_cok rfl (Or.inr ⟨_, _, rfl, tr_rc (hh_rd (hh_obj hL (k := 0) rfl).1) (by decide)⟩)) c_0 ?_
  have hL0 := c_0.2
  refine tr_ias (a1 + 1000) j0 (8 + x2) v0 l0 rfl (by omega) (by rw [Nat.add_sub_cancel]; exact m0) e0 b0 z0 ?_
  rw [← eh0]
  refine tr_inc 2 1 x2 1 (by decide) rfl rfl rfl ?_
  refine tr_goto (-20) 65 rfl rfl rfl ?_
  exact k
theorem sg_L_seen_88 {g : tr_g} {d : Nat} {h : ev_AH} {r : ev_O × ev_AH} {a1 : Nat} {w2 w3 : Option Value} (hL : hh_L h) (k : tr_L g d m_L_seen 90 [some (.ref 1000), some (.ref (a1 + 1000)), some (.int 0), w3] [] h r) : tr_L g d m_L_seen 88 [some (.ref 1000), some (.ref (a1 + 1000)), w2, w3] [] h r := by
  refine tr_ic 0 0 (by decide) rfl ?_
  refine tr_st (.istore_n 2) 1 2 0 (.int 0) rfl rfl rfl rfl rfl rfl rfl ?_
  exact k
theorem sg_L_seen_90 {g : tr_g} {d : Nat} {h : ev_AH} {r : ev_O × ev_AH} {a1 : Nat} {x2 v0 : Int32} {w3 : Option Value} {h1 : ev_AH} (hL : hh_L h) (c_0 : tr_L g d m_X8_catCount 0 [some (.ref 1000)] [] h (.inl (some (.int v0)), h1)) (t : v0 ≤ x2 → tr_L g (d + 1) m_L_seen 162 [some (.ref 1000), some (.ref (a1 + 1000)), some (.int x2), w3] [] h1 r) (f : x2 < v0 → tr_L g (d + 1) m_L_seen 98 [some (.ref 1000), some (.ref (a1 + 1000)), some (.int x2), w3] [] h1 r) : tr_L g (d + 1) m_L_seen 90 [some (.ref 1000), some (.ref (a1 + 1000)), some (.int x2), w3] [] h r := by
  refine tr_s (.iload_n 2) 1 91 [some (.ref 1000), some (.ref (a1 + 1000)), some (.int x2), w3] [.int x2] h rfl rfl rfl ?_
  refine tr_s (.aload_n 0) 1 92 [some (.ref 1000), some (.ref (a1 + 1000)), some (.int x2), w3] [.ref 1000, .int x2] h rfl rfl rfl ?_
  refine tr_call (.invokevirtual 192) 192 0 0 0 m_X8_catCount [.ref 1000] [.int x2] (some (.int v0)) h1 rfl rfl rfl rfl rfl rfl rfl rfl rfl (tr_cok rfl (Or.inr ⟨_, _, rfl, tr_rc (hh_rd (hh_obj hL (k := 0) rfl).1) (by decide)⟩)) c_0 ?_
  have hL0 := c_0.2
  exact tr_if2 .ge 67 162 x2 v0 rfl rfl rfl (fun hc => t ((tr_ge hc).1 rfl)) (fun hc => f ((tr_ge hc).2 rfl))
theorem sx_L_seen_98_108 {g : tr_g} {d : Nat} {h : ev_AH} {r : ev_O × ev_AH} {a1 E : Nat} {x2 v0 : Int32} {w3 : Option Value} {h1 hx : ev_AH} (hL : hh_L h) (cx : tr_L g d m_X8_cellOf 0 [some (.ref 1000), some (.int x2)] [] h (.inr E, hx)) (hr : r = (.inr E, hx)) : tr_L g (d + 1) m_L_seen 98 [some (.ref 1000), some (.ref (a1 + 1000)), some (.int x2), w3] [] h r := by
  refine tr_s (.aload_n 1) 1 99 [some (.ref 1000), some (.ref (a1 + 1000)), some (.int x2), w3] [.ref (a1 + 1000)] h rfl rfl rfl ?_
  refine tr_bi 44 44 (by decide) rfl ?_
  refine tr_bi 8 8 (by decide) rfl ?_
  refine tr_s (.iload_n 2) 1 104 [some (.ref 1000), some (.ref (a1 + 1000)), some (.int x2), w3] [.int x2, .int 8, .int 44, .ref (a1 + 1000)] h rfl rfl rfl ?_
  refine tr_s .imul 1 105 [some (.ref 1000), some (.ref (a1 + 1000)), some (.int x2), w3] [.int (8 * x2), .int 44, .ref (a1 + 1000)] h rfl rfl rfl ?_
  refine tr_s .iadd 1 106 [some (.ref 1000), some (.ref (a1 + 1000)), some (.int x2), w3] [.int (44 + (8 * x2)), .ref (a1 + 1000)] h rfl rfl rfl ?_
  refine tr_s (.aload_n 0) 1 107 [some (.ref 1000), some (.ref (a1 + 1000)), some (.int x2), w3] [.ref 1000, .int (44 + (8 * x2)), .ref (a1 + 1000)] h rfl rfl rfl ?_
  refine tr_s (.iload_n 2) 1 108 [some (.ref 1000), some (.ref (a1 + 1000)), some (.int x2), w3] [.int x2, .ref 1000, .int (44 + (8 * x2)), .ref (a1 + 1000)] h rfl rfl rfl ?_
  exact tr_callx (.invokevirtual 217) 217 0 1 0 m_X8_cellOf [.ref 1000, .int x2] [.int (44 + (8 * x2)), .ref (a1 + 1000)] E hx rfl rfl rfl rfl rfl rfl rfl rfl rfl (tr_cok rfl (Or.inr ⟨_, _, rfl, tr_rc (hh_rd (hh_obj hL (k := 0) rfl).1) (by decide)⟩)) rfl cx hr
theorem sx_L_seen_98_122 {g : tr_g} {d : Nat} {h : ev_AH} {r : ev_O × ev_AH} {a1 j0 E : Nat} {x2 v0 v1 : Int32} {w3 : Option Value} {h1 h2 h3 hx : ev_AH} {l0 : List Int32} (hL : hh_L h) (c_0 : tr_L g d m_X8_cellOf 0 [some (.ref 1000), some (.int x2)] [] h (.inl (some (.int v0)), h1)) (e0 : 44 + (8 * x2) = Int32.ofNat j0) (m0 : h1.1[a1]? = some (.inl (0, l0))) (z0 : l0.length < 2147483648) (b0 : j0 < l0.length) (eh0 : h2 = ev_wr h1 (a1 + 1000) (.inl (0, l0.set j0 v0))) (hLs0 : hh_L h2) (cx : tr_L g d m_X8_heardBy 0 [some (.ref 1000), some (.int x2)] [] h2 (.inr E, hx)) (hr : r = (.inr E, hx)) : tr_L g (d + 1) m_L_seen 98 [some (.ref 1000), some (.ref (a1 + 1000)), some (.int x2), w3] [] h r := by
  refine tr_s (.aload_n 1) 1 99 [some (.ref 1000), some (.ref (a1 + 1000)), some (.int x2), w3] [.ref (a1 + 1000)] h rfl rfl rfl ?_
  refine tr_bi 44 44 (by decide) rfl ?_
  refine tr_bi 8 8 (by decide) rfl ?_
  refine tr_s (.iload_n 2) 1 104 [some (.ref 1000), some (.ref (a1 + 1000)), some (.int x2), w3] [.int x2, .int 8, .int 44, .ref (a1 + 1000)] h rfl rfl rfl ?_
  refine tr_s .imul 1 105 [some (.ref 1000), some (.ref (a1 + 1000)), some (.int x2), w3] [.int (8 * x2), .int 44, .ref (a1 + 1000)] h rfl rfl rfl ?_
  refine tr_s .iadd 1 106 [some (.ref 1000), some (.ref (a1 + 1000)), some (.int x2), w3] [.int (44 + (8 * x2)), .ref (a1 + 1000)] h rfl rfl rfl ?_
  refine tr_s (.aload_n 0) 1 107 [some (.ref 1000), some (.ref (a1 + 1000)), some (.int x2), w3] [.ref 1000, .int (44 + (8 * x2)), .ref (a1 + 1000)] h rfl rfl rfl ?_
  refine tr_s (.iload_n 2) 1 108 [some (.ref 1000), some (.ref (a1 + 1000)), some (.int x2), w3] [.int x2, .ref 1000, .int (44 + (8 * x2)), .ref (a1 + 1000)] h rfl rfl rfl ?_
  refine tr_call (.invokevirtual 217) 217 0 1 0 m_X8_cellOf [.ref 1000, .int x2] [.int (44 + (8 * x2)), .ref (a1 + 1000)] (some (.int v0)) h1 rfl rfl rfl rfl rfl rfl rfl rfl rfl (tr_cok rfl (Or.inr ⟨_, _, rfl, tr_rc (hh_rd (hh_obj hL (k := 0) rfl).1) (by decide)⟩)) c_0 ?_
  have hL0 := c_0.2
  refine tr_ias (a1 + 1000) j0 (44 + (8 * x2)) v0 l0 rfl (by omega) (by rw [Nat.add_sub_cancel]; exact m0) e0 b0 z0 ?_
  rw [← eh0]
  refine tr_s (.aload_n 1) 1 113 [some (.ref 1000), some (.ref (a1 + 1000)), some (.int x2), w3] [.ref (a1 + 1000)] h2 rfl rfl rfl ?_
  refine tr_bi 45 45 (by decide) rfl ?_
  refine tr_bi 8 8 (by decide) rfl ?_
  refine tr_s (.iload_n 2) 1 118 [some (.ref 1000), some (.ref (a1 + 1000)), some (.int x2), w3] [.int x2, .int 8, .int 45, .ref (a1 + 1000)] h2 rfl rfl rfl ?_
  refine tr_s .imul 1 119 [some (.ref 1000), some (.ref (a1 + 1000)), some (.int x2), w3] [.int (8 * x2), .int 45, .ref (a1 + 1000)] h2 rfl rfl rfl ?_
  refine tr_s .iadd 1 120 [some (.ref 1000), some (.ref (a1 + 1000)), some (.int x2), w3] [.int (45 + (8 * x2)), .ref (a1 + 1000)] h2 rfl rfl rfl ?_
  refine tr_s (.aload_n 0) 1 121 [some (.ref 1000), some (.ref (a1 + 1000)), some (.int x2), w3] [.ref 1000, .int (45 + (8 * x2)), .ref (a1 + 1000)] h2 rfl rfl rfl ?_
  refine tr_s (.iload_n 2) 1 122 [some (.ref 1000), some (.ref (a1 + 1000)), some (.int x2), w3] [.int x2, .ref 1000, .int (45 + (8 * x2)), .ref (a1 + 1000)] h2 rfl rfl rfl ?_
  exact tr_callx (.invokevirtual 220) 220 0 1 0 m_X8_heardBy [.ref 1000, .int x2] [.int (45 + (8 * x2)), .ref (a1 + 1000)] E hx rfl rfl rfl rfl rfl rfl rfl rfl rfl (tr_cok rfl (Or.inr ⟨_, _, rfl, tr_rc (hh_rd (hh_obj hLs0 (k := 0) rfl).1) (by decide)⟩)) rfl cx hr
theorem sg_L_seen_98 {g : tr_g} {d : Nat} {h : ev_AH} {r : ev_O × ev_AH} {a1 j0 j1 : Nat} {x2 v0 v1 : Int32} {w3 : Option Value} {h1 h2 h3 h4 : ev_AH} {l0 l1 : List Int32} (hL : hh_L h) (c_0 : tr_L g d m_X8_cellOf 0 [some (.ref 1000), some (.int x2)] [] h (.inl (some (.int v0)), h1)) (e0 : 44 + (8 * x2) = Int32.ofNat j0) (m0 : h1.1[a1]? = some (.inl (0, l0))) (z0 : l0.length < 2147483648) (b0 : j0 < l0.length) (eh0 : h2 = ev_wr h1 (a1 + 1000) (.inl (0, l0.set j0 v0))) (hLs0 : hh_L h2) (c_1 : tr_L g d m_X8_heardBy 0 [some (.ref 1000), some (.int x2)] [] h2 (.inl (some (.int v1)), h3)) (e1 : 45 + (8 * x2) = Int32.ofNat j1) (m1 : h3.1[a1]? = some (.inl (0, l1))) (z1 : l1.length < 2147483648) (b1 : j1 < l1.length) (eh1 : h4 = ev_wr h3 (a1 + 1000) (.inl (0, l1.set j1 v1))) (hLs1 : hh_L h4) (k : tr_L g (d + 1) m_L_seen 128 [some (.ref 1000), some (.ref (a1 + 1000)), some (.int x2), some (.int 0)] [] h4 r) : tr_L g (d + 1) m_L_seen 98 [some (.ref 1000), some (.ref (a1 + 1000)), some (.int x2), w3] [] h r := by
  refine tr_s (.aload_n 1) 1 99 [some (.ref 1000), some (.ref (a1 + 1000)), some (.int x2), w3] [.ref (a1 + 1000)] h rfl rfl rfl ?_
  refine tr_bi 44 44 (by decide) rfl ?_
  refine tr_bi 8 8 (by decide) rfl ?_
  refine tr_s (.iload_n 2) 1 104 [some (.ref 1000), some (.ref (a1 + 1000)), some (.int x2), w3] [.int x2, .int 8, .int 44, .ref (a1 + 1000)] h rfl rfl rfl ?_
  refine tr_s .imul 1 105 [some (.ref 1000), some (.ref (a1 + 1000)), some (.int x2), w3] [.int (8 * x2), .int 44, .ref (a1 + 1000)] h rfl rfl rfl ?_
  refine tr_s .iadd 1 106 [some (.ref 1000), some (.ref (a1 + 1000)), some (.int x2), w3] [.int (44 + (8 * x2)), .ref (a1 + 1000)] h rfl rfl rfl ?_
  refine tr_s (.aload_n 0) 1 107 [some (.ref 1000), some (.ref (a1 + 1000)), some (.int x2), w3] [.ref 1000, .int (44 + (8 * x2)), .ref (a1 + 1000)] h rfl rfl rfl ?_
  refine tr_s (.iload_n 2) 1 108 [some (.ref 1000), some (.ref (a1 + 1000)), some (.int x2), w3] [.int x2, .ref 1000, .int (44 + (8 * x2)), .ref (a1 + 1000)] h rfl rfl rfl ?_
  refine tr_call (.invokevirtual 217) 217 0 1 0 m_X8_cellOf [.ref 1000, .int x2] [.int (44 + (8 * x2)), .ref (a1 + 1000)] (some (.int v0)) h1 rfl rfl rfl rfl rfl rfl rfl rfl rfl (tr_cok rfl (Or.inr ⟨_, _, rfl, tr_rc (hh_rd (hh_obj hL (k := 0) rfl).1) (by decide)⟩)) c_0 ?_
  have hL0 := c_0.2
  refine tr_ias (a1 + 1000) j0 (44 + (8 * x2)) v0 l0 rfl (by omega) (by rw [Nat.add_sub_cancel]; exact m0) e0 b0 z0 ?_
  rw [← eh0]
  refine tr_s (.aload_n 1) 1 113 [some (.ref 1000), some (.ref (a1 + 1000)), some (.int x2), w3] [.ref (a1 + 1000)] h2 rfl rfl rfl ?_
  refine tr_bi 45 45 (by decide) rfl ?_
  refine tr_bi 8 8 (by decide) rfl ?_
  refine tr_s (.iload_n 2) 1 118 [some (.ref 1000), some (.ref (a1 + 1000)), some (.int x2), w3] [.int x2, .int 8, .int 45, .ref (a1 + 1000)] h2 rfl rfl rfl ?_
  refine tr_s .imul 1 119 [some (.ref 1000), some (.ref (a1 + 1000)), some (.int x2), w3] [.int (8 * x2), .int 45, .ref (a1 + 1000)] h2 rfl rfl rfl ?_
  refine tr_s .iadd 1 120 [some (.ref 1000), some (.ref (a1 + 1000)), some (.int x2), w3] [.int (45 + (8 * x2)), .ref (a1 + 1000)] h2 rfl rfl rfl ?_
  refine tr_s (.aload_n 0) 1 121 [some (.ref 1000), some (.ref (a1 + 1000)), some (.int x2), w3] [.ref 1000, .int (45 + (8 * x2)), .ref (a1 + 1000)] h2 rfl rfl rfl ?_
  refine tr_s (.iload_n 2) 1 122 [some (.ref 1000), some (.ref (a1 + 1000)), some (.int x2), w3] [.int x2, .ref 1000, .int (45 + (8 * x2)), .ref (a1 + 1000)] h2 rfl rfl rfl ?_
  refine tr_call (.invokevirtual 220) 220 0 1 0 m_X8_heardBy [.ref 1000, .int x2] [.int (45 + (8 * x2)), .ref (a1 + 1000)] (some (.int v1)) h3 rfl rfl rfl rfl rfl rfl rfl rfl rfl (tr_cok rfl (Or.inr ⟨_, _, rfl, tr_rc (hh_rd (hh_obj hLs0 (k := 0) rfl).1) (by decide)⟩)) c_1 ?_
  have hL1 := c_1.2
  refine tr_ias (a1 + 1000) j1 (45 + (8 * x2)) v1 l1 rfl (by omega) (by rw [Nat.add_sub_cancel]; exact m1) e1 b1 z1 ?_
  rw [← eh1]
  refine tr_ic 0 0 (by decide) rfl ?_
  refine tr_st (.istore_n 3) 1 3 0 (.int 0) rfl rfl rfl rfl rfl rfl rfl ?_
  exact k
theorem sg_L_seen_128 {g : tr_g} {d : Nat} {h : ev_AH} {r : ev_O × ev_AH} {a1 : Nat} {x2 x3 : Int32} (hL : hh_L h) (t : 4 ≤ x3 → tr_L g d m_L_seen 156 [some (.ref 1000), some (.ref (a1 + 1000)), some (.int x2), some (.int x3)] [] h r) (f : x3 < 4 → tr_L g d m_L_seen 133 [some (.ref 1000), some (.ref (a1 + 1000)), some (.int x2), some (.int x3)] [] h r) : tr_L g d m_L_seen 128 [some (.ref 1000), some (.ref (a1 + 1000)), some (.int x2), some (.int x3)] [] h r := by
  refine tr_s (.iload_n 3) 1 129 [some (.ref 1000), some (.ref (a1 + 1000)), some (.int x2), some (.int x3)] [.int x3] h rfl rfl rfl ?_
  refine tr_ic 4 4 (by decide) rfl ?_
  exact tr_if2 .ge 26 156 x3 4 rfl rfl rfl (fun hc => t ((tr_ge hc).1 rfl)) (fun hc => f ((tr_ge hc).2 rfl))
theorem sx_L_seen_133_146 {g : tr_g} {d : Nat} {h : ev_AH} {r : ev_O × ev_AH} {a1 E : Nat} {x2 x3 v0 : Int32} {h1 hx : ev_AH} (hL : hh_L h) (cx : tr_L g d m_X8_optionAt 0 [some (.ref 1000), some (.int x2), some (.int x3)] [] h (.inr E, hx)) (hr : r = (.inr E, hx)) : tr_L g (d + 1) m_L_seen 133 [some (.ref 1000), some (.ref (a1 + 1000)), some (.int x2), some (.int x3)] [] h r := by
  refine tr_s (.aload_n 1) 1 134 [some (.ref 1000), some (.ref (a1 + 1000)), some (.int x2), some (.int x3)] [.ref (a1 + 1000)] h rfl rfl rfl ?_
  refine tr_bi 46 46 (by decide) rfl ?_
  refine tr_bi 8 8 (by decide) rfl ?_
  refine tr_s (.iload_n 2) 1 139 [some (.ref 1000), some (.ref (a1 + 1000)), some (.int x2), some (.int x3)] [.int x2, .int 8, .int 46, .ref (a1 + 1000)] h rfl rfl rfl ?_
  refine tr_s .imul 1 140 [some (.ref 1000), some (.ref (a1 + 1000)), some (.int x2), some (.int x3)] [.int (8 * x2), .int 46, .ref (a1 + 1000)] h rfl rfl rfl ?_
  refine tr_s .iadd 1 141 [some (.ref 1000), some (.ref (a1 + 1000)), some (.int x2), some (.int x3)] [.int (46 + (8 * x2)), .ref (a1 + 1000)] h rfl rfl rfl ?_
  refine tr_s (.iload_n 3) 1 142 [some (.ref 1000), some (.ref (a1 + 1000)), some (.int x2), some (.int x3)] [.int x3, .int (46 + (8 * x2)), .ref (a1 + 1000)] h rfl rfl rfl ?_
  refine tr_s .iadd 1 143 [some (.ref 1000), some (.ref (a1 + 1000)), some (.int x2), some (.int x3)] [.int ((46 + (8 * x2)) + x3), .ref (a1 + 1000)] h rfl rfl rfl ?_
  refine tr_s (.aload_n 0) 1 144 [some (.ref 1000), some (.ref (a1 + 1000)), some (.int x2), some (.int x3)] [.ref 1000, .int ((46 + (8 * x2)) + x3), .ref (a1 + 1000)] h rfl rfl rfl ?_
  refine tr_s (.iload_n 2) 1 145 [some (.ref 1000), some (.ref (a1 + 1000)), some (.int x2), some (.int x3)] [.int x2, .ref 1000, .int ((46 + (8 * x2)) + x3), .ref (a1 + 1000)] h rfl rfl rfl ?_
  refine tr_s (.iload_n 3) 1 146 [some (.ref 1000), some (.ref (a1 + 1000)), some (.int x2), some (.int x3)] [.int x3, .int x2, .ref 1000, .int ((46 + (8 * x2)) + x3), .ref (a1 + 1000)] h rfl rfl rfl ?_
  exact tr_callx (.invokevirtual 223) 223 0 2 0 m_X8_optionAt [.ref 1000, .int x2, .int x3] [.int ((46 + (8 * x2)) + x3), .ref (a1 + 1000)] E hx rfl rfl rfl rfl rfl rfl rfl rfl rfl (tr_cok rfl (Or.inr ⟨_, _, rfl, tr_rc (hh_rd (hh_obj hL (k := 0) rfl).1) (by decide)⟩)) rfl cx hr
theorem sg_L_seen_133 {g : tr_g} {d : Nat} {h : ev_AH} {r : ev_O × ev_AH} {a1 j0 : Nat} {x2 x3 v0 : Int32} {h1 h2 : ev_AH} {l0 : List Int32} (hL : hh_L h) (c_0 : tr_L g d m_X8_optionAt 0 [some (.ref 1000), some (.int x2), some (.int x3)] [] h (.inl (some (.int v0)), h1)) (e0 : (46 + (8 * x2)) + x3 = Int32.ofNat j0) (m0 : h1.1[a1]? = some (.inl (0, l0))) (z0 : l0.length < 2147483648) (b0 : j0 < l0.length) (eh0 : h2 = ev_wr h1 (a1 + 1000) (.inl (0, l0.set j0 v0))) (hLs0 : hh_L h2) (k : tr_L g (d + 1) m_L_seen 128 [some (.ref 1000), some (.ref (a1 + 1000)), some (.int x2), some (.int (x3 + 1))] [] h2 r) : tr_L g (d + 1) m_L_seen 133 [some (.ref 1000), some (.ref (a1 + 1000)), some (.int x2), some (.int x3)] [] h r := by
  refine tr_s (.aload_n 1) 1 134 [some (.ref 1000), some (.ref (a1 + 1000)), some (.int x2), some (.int x3)] [.ref (a1 + 1000)] h rfl rfl rfl ?_
  refine tr_bi 46 46 (by decide) rfl ?_
  refine tr_bi 8 8 (by decide) rfl ?_
  refine tr_s (.iload_n 2) 1 139 [some (.ref 1000), some (.ref (a1 + 1000)), some (.int x2), some (.int x3)] [.int x2, .int 8, .int 46, .ref (a1 + 1000)] h rfl rfl rfl ?_
  refine tr_s .imul 1 140 [some (.ref 1000), some (.ref (a1 + 1000)), some (.int x2), some (.int x3)] [.int (8 * x2), .int 46, .ref (a1 + 1000)] h rfl rfl rfl ?_
  refine tr_s .iadd 1 141 [some (.ref 1000), some (.ref (a1 + 1000)), some (.int x2), some (.int x3)] [.int (46 + (8 * x2)), .ref (a1 + 1000)] h rfl rfl rfl ?_
  refine tr_s (.iload_n 3) 1 142 [some (.ref 1000), some (.ref (a1 + 1000)), some (.int x2), some (.int x3)] [.int x3, .int (46 + (8 * x2)), .ref (a1 + 1000)] h rfl rfl rfl ?_
  refine tr_s .iadd 1 143 [some (.ref 1000), some (.ref (a1 + 1000)), some (.int x2), some (.int x3)] [.int ((46 + (8 * x2)) + x3), .ref (a1 + 1000)] h rfl rfl rfl ?_
  refine tr_s (.aload_n 0) 1 144 [some (.ref 1000), some (.ref (a1 + 1000)), some (.int x2), some (.int x3)] [.ref 1000, .int ((46 + (8 * x2)) + x3), .ref (a1 + 1000)] h rfl rfl rfl ?_
  refine tr_s (.iload_n 2) 1 145 [some (.ref 1000), some (.ref (a1 + 1000)), some (.int x2), some (.int x3)] [.int x2, .ref 1000, .int ((46 + (8 * x2)) + x3), .ref (a1 + 1000)] h rfl rfl rfl ?_
  refine tr_s (.iload_n 3) 1 146 [some (.ref 1000), some (.ref (a1 + 1000)), some (.int x2), some (.int x3)] [.int x3, .int x2, .ref 1000, .int ((46 + (8 * x2)) + x3), .ref (a1 + 1000)] h rfl rfl rfl ?_
  refine tr_call (.invokevirtual 223) 223 0 2 0 m_X8_optionAt [.ref 1000, .int x2, .int x3] [.int ((46 + (8 * x2)) + x3), .ref (a1 + 1000)] (some (.int v0)) h1 rfl rfl rfl rfl rfl rfl rfl rfl rfl (tr_cok rfl (Or.inr ⟨_, _, rfl, tr_rc (hh_rd (hh_obj hL (k := 0) rfl).1) (by decide)⟩)) c_0 ?_
  have hL0 := c_0.2
  refine tr_ias (a1 + 1000) j0 ((46 + (8 * x2)) + x3) v0 l0 rfl (by omega) (by rw [Nat.add_sub_cancel]; exact m0) e0 b0 z0 ?_
  rw [← eh0]
  refine tr_inc 3 1 x3 1 (by decide) rfl rfl rfl ?_
  refine tr_goto (-25) 128 rfl rfl rfl ?_
  exact k
theorem sg_L_seen_156 {g : tr_g} {d : Nat} {h : ev_AH} {r : ev_O × ev_AH} {a1 : Nat} {x2 : Int32} {w3 : Option Value} (hL : hh_L h) (k : tr_L g d m_L_seen 90 [some (.ref 1000), some (.ref (a1 + 1000)), some (.int (x2 + 1)), w3] [] h r) : tr_L g d m_L_seen 156 [some (.ref 1000), some (.ref (a1 + 1000)), some (.int x2), w3] [] h r := by
  refine tr_inc 2 1 x2 1 (by decide) rfl rfl rfl ?_
  refine tr_goto (-69) 90 rfl rfl rfl ?_
  exact k
theorem sg_L_seen_162 {g : tr_g} {d : Nat} {h : ev_AH} {r : ev_O × ev_AH} {a1 : Nat} {w2 w3 : Option Value} (hL : hh_L h) (k : tr_L g d m_L_seen 164 [some (.ref 1000), some (.ref (a1 + 1000)), some (.int 0), w3] [] h r) : tr_L g d m_L_seen 162 [some (.ref 1000), some (.ref (a1 + 1000)), w2, w3] [] h r := by
  refine tr_ic 0 0 (by decide) rfl ?_
  refine tr_st (.istore_n 2) 1 2 0 (.int 0) rfl rfl rfl rfl rfl rfl rfl ?_
  exact k
theorem sg_L_seen_164 {g : tr_g} {d : Nat} {h : ev_AH} {r : ev_O × ev_AH} {a1 : Nat} {x2 : Int32} {w3 : Option Value} (hL : hh_L h) (t : 10 ≤ x2 → tr_L g d m_L_seen 187 [some (.ref 1000), some (.ref (a1 + 1000)), some (.int x2), w3] [] h r) (f : x2 < 10 → tr_L g d m_L_seen 170 [some (.ref 1000), some (.ref (a1 + 1000)), some (.int x2), w3] [] h r) : tr_L g d m_L_seen 164 [some (.ref 1000), some (.ref (a1 + 1000)), some (.int x2), w3] [] h r := by
  refine tr_s (.iload_n 2) 1 165 [some (.ref 1000), some (.ref (a1 + 1000)), some (.int x2), w3] [.int x2] h rfl rfl rfl ?_
  refine tr_bi 10 10 (by decide) rfl ?_
  exact tr_if2 .ge 20 187 x2 10 rfl rfl rfl (fun hc => t ((tr_ge hc).1 rfl)) (fun hc => f ((tr_ge hc).2 rfl))
theorem sg_L_seen_170 {g : tr_g} {d : Nat} {h : ev_AH} {r : ev_O × ev_AH} {a1 j0 : Nat} {x2 v0 : Int32} {w3 : Option Value} {h1 h2 : ev_AH} {l0 : List Int32} (hL : hh_L h) (c_0 : tr_L g d m_L_verdictAt 0 [some (.ref 1000), some (.int x2), none] [] h (.inl (some (.int v0)), h1)) (e0 : 104 + x2 = Int32.ofNat j0) (m0 : h1.1[a1]? = some (.inl (0, l0))) (z0 : l0.length < 2147483648) (b0 : j0 < l0.length) (eh0 : h2 = ev_wr h1 (a1 + 1000) (.inl (0, l0.set j0 v0))) (hLs0 : hh_L h2) (k : tr_L g (d + 1) m_L_seen 164 [some (.ref 1000), some (.ref (a1 + 1000)), some (.int (x2 + 1)), w3] [] h2 r) : tr_L g (d + 1) m_L_seen 170 [some (.ref 1000), some (.ref (a1 + 1000)), some (.int x2), w3] [] h r := by
  refine tr_s (.aload_n 1) 1 171 [some (.ref 1000), some (.ref (a1 + 1000)), some (.int x2), w3] [.ref (a1 + 1000)] h rfl rfl rfl ?_
  refine tr_bi 104 104 (by decide) rfl ?_
  refine tr_s (.iload_n 2) 1 174 [some (.ref 1000), some (.ref (a1 + 1000)), some (.int x2), w3] [.int x2, .int 104, .ref (a1 + 1000)] h rfl rfl rfl ?_
  refine tr_s .iadd 1 175 [some (.ref 1000), some (.ref (a1 + 1000)), some (.int x2), w3] [.int (104 + x2), .ref (a1 + 1000)] h rfl rfl rfl ?_
  refine tr_s (.aload_n 0) 1 176 [some (.ref 1000), some (.ref (a1 + 1000)), some (.int x2), w3] [.ref 1000, .int (104 + x2), .ref (a1 + 1000)] h rfl rfl rfl ?_
  refine tr_s (.iload_n 2) 1 177 [some (.ref 1000), some (.ref (a1 + 1000)), some (.int x2), w3] [.int x2, .ref 1000, .int (104 + x2), .ref (a1 + 1000)] h rfl rfl rfl ?_
  refine tr_call (.invokestatic 227) 227 8 2 0 m_L_verdictAt [.ref 1000, .int x2] [.int (104 + x2), .ref (a1 + 1000)] (some (.int v0)) h1 rfl rfl rfl rfl rfl rfl rfl rfl rfl (tr_cok rfl (Or.inl rfl)) c_0 ?_
  have hL0 := c_0.2
  refine tr_ias (a1 + 1000) j0 (104 + x2) v0 l0 rfl (by omega) (by rw [Nat.add_sub_cancel]; exact m0) e0 b0 z0 ?_
  rw [← eh0]
  refine tr_inc 2 1 x2 1 (by decide) rfl rfl rfl ?_
  refine tr_goto (-20) 164 rfl rfl rfl ?_
  exact k
theorem sg_L_seen_187 {g : tr_g} {d : Nat} {h : ev_AH} {r : ev_O × ev_AH} {w0 w2 w3 : Option Value} {a1 : Nat} (hL : hh_L h) (hr : r = (.inl (some (.ref (a1 + 1000))), h)) : tr_L g d m_L_seen 187 [w0, some (.ref (a1 + 1000)), w2, w3] [] h r := by
  refine tr_s (.aload_n 1) 1 188 [w0, some (.ref (a1 + 1000)), w2, w3] [.ref (a1 + 1000)] h rfl rfl rfl ?_
  exact tl_ret hL .areturn 1 (some (.ref (a1 + 1000))) rfl rfl rfl rfl hr
theorem sx_L_verdictAt_0_2_3 {g : tr_g} {d : Nat} {h : ev_AH} {r : ev_O × ev_AH} {x1 v0 : Int32} {h1 hx : ev_AH} (hL : hh_L h) (cx : tr_L g d m_X8_verdictAt 0 [some (.ref 1000), some (.int x1)] [] h (.inr 3, hx)) (hr : r = (.inl (some (.int (-900001))), hx)) : tr_L g (d + 1) m_L_verdictAt 0 [some (.ref 1000), some (.int x1), none] [] h r := by
  refine tr_s (.aload_n 0) 1 1 [some (.ref 1000), some (.int x1), none] [.ref 1000] h rfl rfl rfl ?_
  refine tr_s (.iload_n 1) 1 2 [some (.ref 1000), some (.int x1), none] [.int x1, .ref 1000] h rfl rfl rfl ?_
  refine tr_callh (.invokevirtual 82) 82 0 1 0 m_X8_verdictAt [.ref 1000, .int x1] [] 3 7 2 hx rfl rfl rfl rfl rfl rfl rfl rfl rfl (tr_cok rfl (Or.inr ⟨_, _, rfl, tr_rc (hh_rd (hh_obj hL (k := 0) rfl).1) (by decide)⟩)) rfl rfl cx ?_
  refine tr_s (.ldc 17) 2 9 _ [.int (-900001)] hx rfl rfl rfl ?_
  exact tl_ret cx.2 .ireturn 1 (some (.int (-900001))) rfl rfl rfl rfl hr
theorem sg_L_verdictAt_0 {g : tr_g} {d : Nat} {h : ev_AH} {r : ev_O × ev_AH} {x1 v0 : Int32} {h1 : ev_AH} (hL : hh_L h) (c_0 : tr_L g d m_X8_verdictAt 0 [some (.ref 1000), some (.int x1)] [] h (.inl (some (.int v0)), h1)) (hr : r = (.inl (some (.int v0)), h1)) : tr_L g (d + 1) m_L_verdictAt 0 [some (.ref 1000), some (.int x1), none] [] h r := by
  refine tr_s (.aload_n 0) 1 1 [some (.ref 1000), some (.int x1), none] [.ref 1000] h rfl rfl rfl ?_
  refine tr_s (.iload_n 1) 1 2 [some (.ref 1000), some (.int x1), none] [.int x1, .ref 1000] h rfl rfl rfl ?_
  refine tr_call (.invokevirtual 82) 82 0 1 0 m_X8_verdictAt [.ref 1000, .int x1] [] (some (.int v0)) h1 rfl rfl rfl rfl rfl rfl rfl rfl rfl (tr_cok rfl (Or.inr ⟨_, _, rfl, tr_rc (hh_rd (hh_obj hL (k := 0) rfl).1) (by decide)⟩)) c_0 ?_
  have hL0 := c_0.2
  exact tl_ret hL0 .ireturn 1 (some (.int v0)) rfl rfl rfl rfl hr
theorem sg_L_areAlike_0 {g : tr_g} {d : Nat} {h : ev_AH} {r : ev_O × ev_AH} {a0 a1 : Nat} (hL : hh_L h) (k : tr_L g d m_L_areAlike 2 [some (.ref (a0 + 1000)), some (.ref (a1 + 1000)), some (.int 0)] [] h r) : tr_L g d m_L_areAlike 0 [some (.ref (a0 + 1000)), some (.ref (a1 + 1000)), none] [] h r := by
  refine tr_ic 0 0 (by decide) rfl ?_
  refine tr_st (.istore_n 2) 1 2 0 (.int 0) rfl rfl rfl rfl rfl rfl rfl ?_
  exact k
theorem sg_L_areAlike_2 {g : tr_g} {d : Nat} {h : ev_AH} {r : ev_O × ev_AH} {a0 a1 : Nat} {x2 : Int32} {l0 : List Int32} (hL : hh_L h) (m0 : h.1[a0]? = some (.inl (0, l0))) (z0 : l0.length < 2147483648) (t : (Int32.ofNat l0.length) ≤ x2 → tr_L g d m_L_areAlike 25 [some (.ref (a0 + 1000)), some (.ref (a1 + 1000)), some (.int x2)] [] h r) (f : x2 < (Int32.ofNat l0.length) → tr_L g d m_L_areAlike 8 [some (.ref (a0 + 1000)), some (.ref (a1 + 1000)), some (.int x2)] [] h r) : tr_L g d m_L_areAlike 2 [some (.ref (a0 + 1000)), some (.ref (a1 + 1000)), some (.int x2)] [] h r := by
  refine tr_s (.iload_n 2) 1 3 [some (.ref (a0 + 1000)), some (.ref (a1 + 1000)), some (.int x2)] [.int x2] h rfl rfl rfl ?_
  refine tr_s (.aload_n 0) 1 4 [some (.ref (a0 + 1000)), some (.ref (a1 + 1000)), some (.int x2)] [.ref (a0 + 1000), .int x2] h rfl rfl rfl ?_
  refine tr_alen _ 0 l0 rfl (hh_rd m0) (by decide) ?_
  exact tr_if2 .ge 20 25 x2 (Int32.ofNat l0.length) rfl rfl rfl (fun hc => t ((tr_ge hc).1 rfl)) (fun hc => f ((tr_ge hc).2 rfl))
theorem sg_L_areAlike_8 {g : tr_g} {d : Nat} {h : ev_AH} {r : ev_O × ev_AH} {a0 a1 j0 j1 : Nat} {x2 : Int32} {l0 l1 : List Int32} (hL : hh_L h) (e0 : x2 = Int32.ofNat j0) (m0 : h.1[a0]? = some (.inl (0, l0))) (z0 : l0.length < 2147483648) (b0 : j0 < l0.length) (e1 : x2 = Int32.ofNat j1) (m1 : h.1[a1]? = some (.inl (0, l1))) (z1 : l1.length < 2147483648) (b1 : j1 < l1.length) (t : (l0.getD j0 0) = (l1.getD j1 0) → tr_L g d m_L_areAlike 19 [some (.ref (a0 + 1000)), some (.ref (a1 + 1000)), some (.int x2)] [] h r) (f : (l0.getD j0 0) ≠ (l1.getD j1 0) → tr_L g d m_L_areAlike 17 [some (.ref (a0 + 1000)), some (.ref (a1 + 1000)), some (.int x2)] [] h r) : tr_L g d m_L_areAlike 8 [some (.ref (a0 + 1000)), some (.ref (a1 + 1000)), some (.int x2)] [] h r := by
  refine tr_s (.aload_n 0) 1 9 [some (.ref (a0 + 1000)), some (.ref (a1 + 1000)), some (.int x2)] [.ref (a0 + 1000)] h rfl rfl rfl ?_
  refine tr_s (.iload_n 2) 1 10 [some (.ref (a0 + 1000)), some (.ref (a1 + 1000)), some (.int x2)] [.int x2, .ref (a0 + 1000)] h rfl rfl rfl ?_
  refine tr_ald .iaload 0 _ j0 x2 l0 (Or.inl ⟨rfl, rfl⟩) rfl (hh_rd m0) e0 b0 z0 ?_
  refine tr_s (.aload_n 1) 1 12 [some (.ref (a0 + 1000)), some (.ref (a1 + 1000)), some (.int x2)] [.ref (a1 + 1000), .int (l0.getD j0 0)] h rfl rfl rfl ?_
  refine tr_s (.iload_n 2) 1 13 [some (.ref (a0 + 1000)), some (.ref (a1 + 1000)), some (.int x2)] [.int x2, .ref (a1 + 1000), .int (l0.getD j0 0)] h rfl rfl rfl ?_
  refine tr_ald .iaload 0 _ j1 x2 l1 (Or.inl ⟨rfl, rfl⟩) rfl (hh_rd m1) e1 b1 z1 ?_
  exact tr_if2 .eq 5 19 (l0.getD j0 0) (l1.getD j1 0) rfl rfl rfl (fun hc => t ((tr_eq hc).1 rfl)) (fun hc => f ((tr_eq hc).2 rfl))
theorem sg_L_areAlike_17 {g : tr_g} {d : Nat} {h : ev_AH} {r : ev_O × ev_AH} {w0 w1 w2 : Option Value} (hL : hh_L h) (hr : r = (.inl (some (.int 0)), h)) : tr_L g d m_L_areAlike 17 [w0, w1, w2] [] h r := by
  refine tr_ic 0 0 (by decide) rfl ?_
  exact tl_ret hL .ireturn 1 (some (.int 0)) rfl rfl rfl rfl hr
theorem sg_L_areAlike_19 {g : tr_g} {d : Nat} {h : ev_AH} {r : ev_O × ev_AH} {a0 a1 : Nat} {x2 : Int32} (hL : hh_L h) (k : tr_L g d m_L_areAlike 2 [some (.ref (a0 + 1000)), some (.ref (a1 + 1000)), some (.int (x2 + 1))] [] h r) : tr_L g d m_L_areAlike 19 [some (.ref (a0 + 1000)), some (.ref (a1 + 1000)), some (.int x2)] [] h r := by
  refine tr_inc 2 1 x2 1 (by decide) rfl rfl rfl ?_
  refine tr_goto (-20) 2 rfl rfl rfl ?_
  exact k
theorem sg_L_areAlike_25 {g : tr_g} {d : Nat} {h : ev_AH} {r : ev_O × ev_AH} {w0 w1 w2 : Option Value} (hL : hh_L h) (hr : r = (.inl (some (.int 1)), h)) : tr_L g d m_L_areAlike 25 [w0, w1, w2] [] h r := by
  refine tr_ic 1 1 (by decide) rfl ?_
  exact tl_ret hL .ireturn 1 (some (.int 1)) rfl rfl rfl rfl hr
set_option maxRecDepth 20000 in
theorem sg_L_isWell_0 {g : tr_g} {d : Nat} {h : ev_AH} {r : ev_O × ev_AH} {h1 : ev_AH} {v0 : Int32} (hL : hh_L h) (c_0 : tr_L g d m_X8_catCount 0 [some (.ref 1000)] [] h (.inl (some (.int v0)), h1)) (k : tr_L g (d + 1) m_L_isWell 9 [some (.ref 1000), some (.int 0), some (.int v0), some (.int 0), none, none, none, none] [] h1 r) : tr_L g (d + 1) m_L_isWell 0 [some (.ref 1000), none, none, none, none, none, none, none] [] h r := by
  refine tr_ic 0 0 (by decide) rfl ?_
  refine tr_st (.istore_n 1) 1 1 0 (.int 0) rfl rfl rfl rfl rfl rfl rfl ?_
  refine tr_s (.aload_n 0) 1 3 [some (.ref 1000), some (.int 0), none, none, none, none, none, none] [.ref 1000] h rfl rfl rfl ?_
  refine tr_call (.invokevirtual 192) 192 0 0 0 m_X8_catCount [.ref 1000] [] (some (.int v0)) h1 rfl rfl rfl rfl rfl rfl rfl rfl rfl (tr_cok rfl (Or.inr ⟨_, _, rfl, tr_rc (hh_rd (hh_obj hL (k := 0) rfl).1) (by decide)⟩)) c_0 ?_
  have hL0 := c_0.2
  refine tr_st (.istore_n 2) 1 2 0 (.int v0) rfl rfl rfl rfl rfl rfl rfl ?_
  refine tr_ic 0 0 (by decide) rfl ?_
  refine tr_st (.istore_n 3) 1 3 0 (.int 0) rfl rfl rfl rfl rfl rfl rfl ?_
  exact k
set_option maxRecDepth 20000 in
theorem sg_L_isWell_9 {g : tr_g} {d : Nat} {h : ev_AH} {r : ev_O × ev_AH} {x1 x2 x3 : Int32} {w4 w5 w6 w7 : Option Value} (hL : hh_L h) (t : x2 ≤ x3 → tr_L g d m_L_isWell 118 [some (.ref 1000), some (.int x1), some (.int x2), some (.int x3), w4, w5, w6, w7] [] h r) (f : x3 < x2 → tr_L g d m_L_isWell 14 [some (.ref 1000), some (.int x1), some (.int x2), some (.int x3), w4, w5, w6, w7] [] h r) : tr_L g d m_L_isWell 9 [some (.ref 1000), some (.int x1), some (.int x2), some (.int x3), w4, w5, w6, w7] [] h r := by
  refine tr_s (.iload_n 3) 1 10 [some (.ref 1000), some (.int x1), some (.int x2), some (.int x3), w4, w5, w6, w7] [.int x3] h rfl rfl rfl ?_
  refine tr_s (.iload_n 2) 1 11 [some (.ref 1000), some (.int x1), some (.int x2), some (.int x3), w4, w5, w6, w7] [.int x2, .int x3] h rfl rfl rfl ?_
  exact tr_if2 .ge 107 118 x3 x2 rfl rfl rfl (fun hc => t ((tr_ge hc).1 rfl)) (fun hc => f ((tr_ge hc).2 rfl))
set_option maxRecDepth 20000 in
theorem sg_L_isWell_14 {g : tr_g} {d : Nat} {h : ev_AH} {r : ev_O × ev_AH} {x1 x2 x3 : Int32} {w4 w5 w6 w7 : Option Value} (hL : hh_L h) (k : tr_L g d m_L_isWell 20 [some (.ref 1000), some (.int x1), some (.int x2), some (.int x3), some (.int 0), some (.int 0), w6, w7] [] h r) : tr_L g d m_L_isWell 14 [some (.ref 1000), some (.int x1), some (.int x2), some (.int x3), w4, w5, w6, w7] [] h r := by
  refine tr_ic 0 0 (by decide) rfl ?_
  refine tr_st (.istore 4) 2 4 0 (.int 0) rfl rfl rfl rfl rfl rfl rfl ?_
  refine tr_ic 0 0 (by decide) rfl ?_
  refine tr_st (.istore 5) 2 5 0 (.int 0) rfl rfl rfl rfl rfl rfl rfl ?_
  exact k
set_option maxRecDepth 20000 in
theorem sg_L_isWell_20 {g : tr_g} {d : Nat} {h : ev_AH} {r : ev_O × ev_AH} {x1 x2 x3 x4 x5 : Int32} {w6 w7 : Option Value} (hL : hh_L h) (t : 4 ≤ x5 → tr_L g d m_L_isWell 68 [some (.ref 1000), some (.int x1), some (.int x2), some (.int x3), some (.int x4), some (.int x5), w6, w7] [] h r) (f : x5 < 4 → tr_L g d m_L_isWell 26 [some (.ref 1000), some (.int x1), some (.int x2), some (.int x3), some (.int x4), some (.int x5), w6, w7] [] h r) : tr_L g d m_L_isWell 20 [some (.ref 1000), some (.int x1), some (.int x2), some (.int x3), some (.int x4), some (.int x5), w6, w7] [] h r := by
  refine tr_s (.iload 5) 2 22 [some (.ref 1000), some (.int x1), some (.int x2), some (.int x3), some (.int x4), some (.int x5), w6, w7] [.int x5] h rfl rfl rfl ?_
  refine tr_ic 4 4 (by decide) rfl ?_
  exact tr_if2 .ge 45 68 x5 4 rfl rfl rfl (fun hc => t ((tr_ge hc).1 rfl)) (fun hc => f ((tr_ge hc).2 rfl))
set_option maxRecDepth 20000 in
theorem sx_L_isWell_26_33 {g : tr_g} {d : Nat} {h : ev_AH} {r : ev_O × ev_AH} {x1 x2 x3 x4 x5 v0 : Int32} {w6 w7 : Option Value} {h1 hx : ev_AH} {E : Nat} (hL : hh_L h) (cx : tr_L g d m_X8_optionAt 0 [some (.ref 1000), some (.int x3), some (.int x5)] [] h (.inr E, hx)) (hr : r = (.inr E, hx)) : tr_L g (d + 1) m_L_isWell 26 [some (.ref 1000), some (.int x1), some (.int x2), some (.int x3), some (.int x4), some (.int x5), w6, w7] [] h r := by
  refine tr_s (.iload 4) 2 28 [some (.ref 1000), some (.int x1), some (.int x2), some (.int x3), some (.int x4), some (.int x5), w6, w7] [.int x4] h rfl rfl rfl ?_
  refine tr_ic 1 1 (by decide) rfl ?_
  refine tr_s (.aload_n 0) 1 30 [some (.ref 1000), some (.int x1), some (.int x2), some (.int x3), some (.int x4), some (.int x5), w6, w7] [.ref 1000, .int 1, .int x4] h rfl rfl rfl ?_
  refine tr_s (.iload_n 3) 1 31 [some (.ref 1000), some (.int x1), some (.int x2), some (.int x3), some (.int x4), some (.int x5), w6, w7] [.int x3, .ref 1000, .int 1, .int x4] h rfl rfl rfl ?_
  refine tr_s (.iload 5) 2 33 [some (.ref 1000), some (.int x1), some (.int x2), some (.int x3), some (.int x4), some (.int x5), w6, w7] [.int x5, .int x3, .ref 1000, .int 1, .int x4] h rfl rfl rfl ?_
  exact tr_callx (.invokevirtual 223) 223 0 2 0 m_X8_optionAt [.ref 1000, .int x3, .int x5] [.int 1, .int x4] E hx rfl rfl rfl rfl rfl rfl rfl rfl rfl (tr_cok rfl (Or.inr ⟨_, _, rfl, tr_rc (hh_rd (hh_obj hL (k := 0) rfl).1) (by decide)⟩)) rfl cx hr
set_option maxRecDepth 20000 in
theorem sx_L_isWell_26_49 {g : tr_g} {d : Nat} {h : ev_AH} {r : ev_O × ev_AH} {x1 x2 x3 x4 x5 v0 v1 : Int32} {w6 w7 : Option Value} {h1 h2 hx : ev_AH} {E : Nat} (hL : hh_L h) (c_0 : tr_L g d m_X8_optionAt 0 [some (.ref 1000), some (.int x3), some (.int x5)] [] h (.inl (some (.int v0)), h1)) (cx : tr_L g d m_X8_optionAt 0 [some (.ref 1000), some (.int x3), some (.int x5)] [] h1 (.inr E, hx)) (hr : r = (.inr E, hx)) : tr_L g (d + 1) m_L_isWell 26 [some (.ref 1000), some (.int x1), some (.int x2), some (.int x3), some (.int x4), some (.int x5), w6, w7] [] h r := by
  refine tr_s (.iload 4) 2 28 [some (.ref 1000), some (.int x1), some (.int x2), some (.int x3), some (.int x4), some (.int x5), w6, w7] [.int x4] h rfl rfl rfl ?_
  refine tr_ic 1 1 (by decide) rfl ?_
  refine tr_s (.aload_n 0) 1 30 [some (.ref 1000), some (.int x1), some (.int x2), some (.int x3), some (.int x4), some (.int x5), w6, w7] [.ref 1000, .int 1, .int x4] h rfl rfl rfl ?_
  refine tr_s (.iload_n 3) 1 31 [some (.ref 1000), some (.int x1), some (.int x2), some (.int x3), some (.int x4), some (.int x5), w6, w7] [.int x3, .ref 1000, .int 1, .int x4] h rfl rfl rfl ?_
  refine tr_s (.iload 5) 2 33 [some (.ref 1000), some (.int x1), some (.int x2), some (.int x3), some (.int x4), some (.int x5), w6, w7] [.int x5, .int x3, .ref 1000, .int 1, .int x4] h rfl rfl rfl ?_
  refine tr_call (.invokevirtual 223) 223 0 2 0 m_X8_optionAt [.ref 1000, .int x3, .int x5] [.int 1, .int x4] (some (.int v0)) h1 rfl rfl rfl rfl rfl rfl rfl rfl rfl (tr_cok rfl (Or.inr ⟨_, _, rfl, tr_rc (hh_rd (hh_obj hL (k := 0) rfl).1) (by decide)⟩)) c_0 ?_
  have hL0 := c_0.2
  refine tr_bi 97 97 (by decide) rfl ?_
  refine tr_s .isub 1 39 [some (.ref 1000), some (.int x1), some (.int x2), some (.int x3), some (.int x4), some (.int x5), w6, w7] [.int (v0 - 97), .int 1, .int x4] h1 rfl rfl rfl ?_
  refine tr_s .ishl 1 40 [some (.ref 1000), some (.int x1), some (.int x2), some (.int x3), some (.int x4), some (.int x5), w6, w7] [.int (1 <<< ((v0 - 97) &&& 31)), .int x4] h1 rfl rfl rfl ?_
  refine tr_s .ior 1 41 [some (.ref 1000), some (.int x1), some (.int x2), some (.int x3), some (.int x4), some (.int x5), w6, w7] [.int (x4 ||| (1 <<< ((v0 - 97) &&& 31)))] h1 rfl rfl rfl ?_
  refine tr_st (.istore 4) 2 4 0 (.int (x4 ||| (1 <<< ((v0 - 97) &&& 31)))) rfl rfl rfl rfl rfl rfl rfl ?_
  refine tr_s (.aload_n 0) 1 44 [some (.ref 1000), some (.int x1), some (.int x2), some (.int x3), some (.int (x4 ||| (1 <<< ((v0 - 97) &&& 31)))), some (.int x5), w6, w7] [.ref 1000] h1 rfl rfl rfl ?_
  refine tr_s (.iload_n 3) 1 45 [some (.ref 1000), some (.int x1), some (.int x2), some (.int x3), some (.int (x4 ||| (1 <<< ((v0 - 97) &&& 31)))), some (.int x5), w6, w7] [.int x3, .ref 1000] h1 rfl rfl rfl ?_
  refine tr_s (.aload_n 0) 1 46 [some (.ref 1000), some (.int x1), some (.int x2), some (.int x3), some (.int (x4 ||| (1 <<< ((v0 - 97) &&& 31)))), some (.int x5), w6, w7] [.ref 1000, .int x3, .ref 1000] h1 rfl rfl rfl ?_
  refine tr_s (.iload_n 3) 1 47 [some (.ref 1000), some (.int x1), some (.int x2), some (.int x3), some (.int (x4 ||| (1 <<< ((v0 - 97) &&& 31)))), some (.int x5), w6, w7] [.int x3, .ref 1000, .int x3, .ref 1000] h1 rfl rfl rfl ?_
  refine tr_s (.iload 5) 2 49 [some (.ref 1000), some (.int x1), some (.int x2), some (.int x3), some (.int (x4 ||| (1 <<< ((v0 - 97) &&& 31)))), some (.int x5), w6, w7] [.int x5, .int x3, .ref 1000, .int x3, .ref 1000] h1 rfl rfl rfl ?_
  exact tr_callx (.invokevirtual 223) 223 0 2 0 m_X8_optionAt [.ref 1000, .int x3, .int x5] [.int x3, .ref 1000] E hx rfl rfl rfl rfl rfl rfl rfl rfl rfl (tr_cok rfl (Or.inr ⟨_, _, rfl, tr_rc (hh_rd (hh_obj hL0 (k := 0) rfl).1) (by decide)⟩)) rfl cx hr
set_option maxRecDepth 20000 in
theorem sx_L_isWell_26_52 {g : tr_g} {d : Nat} {h : ev_AH} {r : ev_O × ev_AH} {x1 x2 x3 x4 x5 v0 v1 v2 : Int32} {w6 w7 : Option Value} {h1 h2 h3 hx : ev_AH} {E : Nat} (hL : hh_L h) (c_0 : tr_L g d m_X8_optionAt 0 [some (.ref 1000), some (.int x3), some (.int x5)] [] h (.inl (some (.int v0)), h1)) (c_1 : tr_L g d m_X8_optionAt 0 [some (.ref 1000), some (.int x3), some (.int x5)] [] h1 (.inl (some (.int v1)), h2)) (cx : tr_L g d m_X8_placeOf 0 [some (.ref 1000), some (.int x3), some (.int v1)] [] h2 (.inr E, hx)) (hr : r = (.inr E, hx)) : tr_L g (d + 1) m_L_isWell 26 [some (.ref 1000), some (.int x1), some (.int x2), some (.int x3), some (.int x4), some (.int x5), w6, w7] [] h r := by
  refine tr_s (.iload 4) 2 28 [some (.ref 1000), some (.int x1), some (.int x2), some (.int x3), some (.int x4), some (.int x5), w6, w7] [.int x4] h rfl rfl rfl ?_
  refine tr_ic 1 1 (by decide) rfl ?_
  refine tr_s (.aload_n 0) 1 30 [some (.ref 1000), some (.int x1), some (.int x2), some (.int x3), some (.int x4), some (.int x5), w6, w7] [.ref 1000, .int 1, .int x4] h rfl rfl rfl ?_
  refine tr_s (.iload_n 3) 1 31 [some (.ref 1000), some (.int x1), some (.int x2), some (.int x3), some (.int x4), some (.int x5), w6, w7] [.int x3, .ref 1000, .int 1, .int x4] h rfl rfl rfl ?_
  refine tr_s (.iload 5) 2 33 [some (.ref 1000), some (.int x1), some (.int x2), some (.int x3), some (.int x4), some (.int x5), w6, w7] [.int x5, .int x3, .ref 1000, .int 1, .int x4] h rfl rfl rfl ?_
  refine tr_call (.invokevirtual 223) 223 0 2 0 m_X8_optionAt [.ref 1000, .int x3, .int x5] [.int 1, .int x4] (some (.int v0)) h1 rfl rfl rfl rfl rfl rfl rfl rfl rfl (tr_cok rfl (Or.inr ⟨_, _, rfl, tr_rc (hh_rd (hh_obj hL (k := 0) rfl).1) (by decide)⟩)) c_0 ?_
  have hL0 := c_0.2
  refine tr_bi 97 97 (by decide) rfl ?_
  refine tr_s .isub 1 39 [some (.ref 1000), some (.int x1), some (.int x2), some (.int x3), some (.int x4), some (.int x5), w6, w7] [.int (v0 - 97), .int 1, .int x4] h1 rfl rfl rfl ?_
  refine tr_s .ishl 1 40 [some (.ref 1000), some (.int x1), some (.int x2), some (.int x3), some (.int x4), some (.int x5), w6, w7] [.int (1 <<< ((v0 - 97) &&& 31)), .int x4] h1 rfl rfl rfl ?_
  refine tr_s .ior 1 41 [some (.ref 1000), some (.int x1), some (.int x2), some (.int x3), some (.int x4), some (.int x5), w6, w7] [.int (x4 ||| (1 <<< ((v0 - 97) &&& 31)))] h1 rfl rfl rfl ?_
  refine tr_st (.istore 4) 2 4 0 (.int (x4 ||| (1 <<< ((v0 - 97) &&& 31)))) rfl rfl rfl rfl rfl rfl rfl ?_
  refine tr_s (.aload_n 0) 1 44 [some (.ref 1000), some (.int x1), some (.int x2), some (.int x3), some (.int (x4 ||| (1 <<< ((v0 - 97) &&& 31)))), some (.int x5), w6, w7] [.ref 1000] h1 rfl rfl rfl ?_
  refine tr_s (.iload_n 3) 1 45 [some (.ref 1000), some (.int x1), some (.int x2), some (.int x3), some (.int (x4 ||| (1 <<< ((v0 - 97) &&& 31)))), some (.int x5), w6, w7] [.int x3, .ref 1000] h1 rfl rfl rfl ?_
  refine tr_s (.aload_n 0) 1 46 [some (.ref 1000), some (.int x1), some (.int x2), some (.int x3), some (.int (x4 ||| (1 <<< ((v0 - 97) &&& 31)))), some (.int x5), w6, w7] [.ref 1000, .int x3, .ref 1000] h1 rfl rfl rfl ?_
  refine tr_s (.iload_n 3) 1 47 [some (.ref 1000), some (.int x1), some (.int x2), some (.int x3), some (.int (x4 ||| (1 <<< ((v0 - 97) &&& 31)))), some (.int x5), w6, w7] [.int x3, .ref 1000, .int x3, .ref 1000] h1 rfl rfl rfl ?_
  refine tr_s (.iload 5) 2 49 [some (.ref 1000), some (.int x1), some (.int x2), some (.int x3), some (.int (x4 ||| (1 <<< ((v0 - 97) &&& 31)))), some (.int x5), w6, w7] [.int x5, .int x3, .ref 1000, .int x3, .ref 1000] h1 rfl rfl rfl ?_
  refine tr_call (.invokevirtual 223) 223 0 2 0 m_X8_optionAt [.ref 1000, .int x3, .int x5] [.int x3, .ref 1000] (some (.int v1)) h2 rfl rfl rfl rfl rfl rfl rfl rfl rfl (tr_cok rfl (Or.inr ⟨_, _, rfl, tr_rc (hh_rd (hh_obj hL0 (k := 0) rfl).1) (by decide)⟩)) c_1 ?_
  have hL1 := c_1.2
  exact tr_callx (.invokevirtual 230) 230 0 2 0 m_X8_placeOf [.ref 1000, .int x3, .int v1] [] E hx rfl rfl rfl rfl rfl rfl rfl rfl rfl (tr_cok rfl (Or.inr ⟨_, _, rfl, tr_rc (hh_rd (hh_obj hL1 (k := 0) rfl).1) (by decide)⟩)) rfl cx hr
set_option maxRecDepth 20000 in
theorem sg_L_isWell_26 {g : tr_g} {d : Nat} {h : ev_AH} {r : ev_O × ev_AH} {x1 x2 x3 x4 x5 v0 v1 v2 : Int32} {w6 w7 : Option Value} {h1 h2 h3 : ev_AH} (hL : hh_L h) (c_0 : tr_L g d m_X8_optionAt 0 [some (.ref 1000), some (.int x3), some (.int x5)] [] h (.inl (some (.int v0)), h1)) (c_1 : tr_L g d m_X8_optionAt 0 [some (.ref 1000), some (.int x3), some (.int x5)] [] h1 (.inl (some (.int v1)), h2)) (c_2 : tr_L g d m_X8_placeOf 0 [some (.ref 1000), some (.int x3), some (.int v1)] [] h2 (.inl (some (.int v2)), h3)) (t : v2 = x5 → tr_L g (d + 1) m_L_isWell 62 [some (.ref 1000), some (.int x1), some (.int x2), some (.int x3), some (.int (x4 ||| (1 <<< ((v0 - 97) &&& 31)))), some (.int x5), w6, w7] [] h3 r) (f : v2 ≠ x5 → tr_L g (d + 1) m_L_isWell 60 [some (.ref 1000), some (.int x1), some (.int x2), some (.int x3), some (.int (x4 ||| (1 <<< ((v0 - 97) &&& 31)))), some (.int x5), w6, w7] [] h3 r) : tr_L g (d + 1) m_L_isWell 26 [some (.ref 1000), some (.int x1), some (.int x2), some (.int x3), some (.int x4), some (.int x5), w6, w7] [] h r := by
  refine tr_s (.iload 4) 2 28 [some (.ref 1000), some (.int x1), some (.int x2), some (.int x3), some (.int x4), some (.int x5), w6, w7] [.int x4] h rfl rfl rfl ?_
  refine tr_ic 1 1 (by decide) rfl ?_
  refine tr_s (.aload_n 0) 1 30 [some (.ref 1000), some (.int x1), some (.int x2), some (.int x3), some (.int x4), some (.int x5), w6, w7] [.ref 1000, .int 1, .int x4] h rfl rfl rfl ?_
  refine tr_s (.iload_n 3) 1 31 [some (.ref 1000), some (.int x1), some (.int x2), some (.int x3), some (.int x4), some (.int x5), w6, w7] [.int x3, .ref 1000, .int 1, .int x4] h rfl rfl rfl ?_
  refine tr_s (.iload 5) 2 33 [some (.ref 1000), some (.int x1), some (.int x2), some (.int x3), some (.int x4), some (.int x5), w6, w7] [.int x5, .int x3, .ref 1000, .int 1, .int x4] h rfl rfl rfl ?_
  refine tr_call (.invokevirtual 223) 223 0 2 0 m_X8_optionAt [.ref 1000, .int x3, .int x5] [.int 1, .int x4] (some (.int v0)) h1 rfl rfl rfl rfl rfl rfl rfl rfl rfl (tr_cok rfl (Or.inr ⟨_, _, rfl, tr_rc (hh_rd (hh_obj hL (k := 0) rfl).1) (by decide)⟩)) c_0 ?_
  have hL0 := c_0.2
  refine tr_bi 97 97 (by decide) rfl ?_
  refine tr_s .isub 1 39 [some (.ref 1000), some (.int x1), some (.int x2), some (.int x3), some (.int x4), some (.int x5), w6, w7] [.int (v0 - 97), .int 1, .int x4] h1 rfl rfl rfl ?_
  refine tr_s .ishl 1 40 [some (.ref 1000), some (.int x1), some (.int x2), some (.int x3), some (.int x4), some (.int x5), w6, w7] [.int (1 <<< ((v0 - 97) &&& 31)), .int x4] h1 rfl rfl rfl ?_
  refine tr_s .ior 1 41 [some (.ref 1000), some (.int x1), some (.int x2), some (.int x3), some (.int x4), some (.int x5), w6, w7] [.int (x4 ||| (1 <<< ((v0 - 97) &&& 31)))] h1 rfl rfl rfl ?_
  refine tr_st (.istore 4) 2 4 0 (.int (x4 ||| (1 <<< ((v0 - 97) &&& 31)))) rfl rfl rfl rfl rfl rfl rfl ?_
  refine tr_s (.aload_n 0) 1 44 [some (.ref 1000), some (.int x1), some (.int x2), some (.int x3), some (.int (x4 ||| (1 <<< ((v0 - 97) &&& 31)))), some (.int x5), w6, w7] [.ref 1000] h1 rfl rfl rfl ?_
  refine tr_s (.iload_n 3) 1 45 [some (.ref 1000), some (.int x1), some (.int x2), some (.int x3), some (.int (x4 ||| (1 <<< ((v0 - 97) &&& 31)))), some (.int x5), w6, w7] [.int x3, .ref 1000] h1 rfl rfl rfl ?_
  refine tr_s (.aload_n 0) 1 46 [some (.ref 1000), some (.int x1), some (.int x2), some (.int x3), some (.int (x4 ||| (1 <<< ((v0 - 97) &&& 31)))), some (.int x5), w6, w7] [.ref 1000, .int x3, .ref 1000] h1 rfl rfl rfl ?_
  refine tr_s (.iload_n 3) 1 47 [some (.ref 1000), some (.int x1), some (.int x2), some (.int x3), some (.int (x4 ||| (1 <<< ((v0 - 97) &&& 31)))), some (.int x5), w6, w7] [.int x3, .ref 1000, .int x3, .ref 1000] h1 rfl rfl rfl ?_
  refine tr_s (.iload 5) 2 49 [some (.ref 1000), some (.int x1), some (.int x2), some (.int x3), some (.int (x4 ||| (1 <<< ((v0 - 97) &&& 31)))), some (.int x5), w6, w7] [.int x5, .int x3, .ref 1000, .int x3, .ref 1000] h1 rfl rfl rfl ?_
  refine tr_call (.invokevirtual 223) 223 0 2 0 m_X8_optionAt [.ref 1000, .int x3, .int x5] [.int x3, .ref 1000] (some (.int v1)) h2 rfl rfl rfl rfl rfl rfl rfl rfl rfl (tr_cok rfl (Or.inr ⟨_, _, rfl, tr_rc (hh_rd (hh_obj hL0 (k := 0) rfl).1) (by decide)⟩)) c_1 ?_
  have hL1 := c_1.2
  refine tr_call (.invokevirtual 230) 230 0 2 0 m_X8_placeOf [.ref 1000, .int x3, .int v1] [] (some (.int v2)) h3 rfl rfl rfl rfl rfl rfl rfl rfl rfl (tr_cok rfl (Or.inr ⟨_, _, rfl, tr_rc (hh_rd (hh_obj hL1 (k := 0) rfl).1) (by decide)⟩)) c_2 ?_
  have hL2 := c_2.2
  refine tr_s (.iload 5) 2 57 [some (.ref 1000), some (.int x1), some (.int x2), some (.int x3), some (.int (x4 ||| (1 <<< ((v0 - 97) &&& 31)))), some (.int x5), w6, w7] [.int x5, .int v2] h3 rfl rfl rfl ?_
  exact tr_if2 .eq 5 62 v2 x5 rfl rfl rfl (fun hc => t ((tr_eq hc).1 rfl)) (fun hc => f ((tr_eq hc).2 rfl))
set_option maxRecDepth 20000 in
theorem sg_L_isWell_60 {g : tr_g} {d : Nat} {h : ev_AH} {r : ev_O × ev_AH} {w0 w1 w2 w3 w4 w5 w6 w7 : Option Value} (hL : hh_L h) (hr : r = (.inl (some (.int 0)), h)) : tr_L g d m_L_isWell 60 [w0, w1, w2, w3, w4, w5, w6, w7] [] h r := by
  refine tr_ic 0 0 (by decide) rfl ?_
  exact tl_ret hL .ireturn 1 (some (.int 0)) rfl rfl rfl rfl hr
set_option maxRecDepth 20000 in
theorem sg_L_isWell_62 {g : tr_g} {d : Nat} {h : ev_AH} {r : ev_O × ev_AH} {x1 x2 x3 x4 x5 : Int32} {w6 w7 : Option Value} (hL : hh_L h) (k : tr_L g d m_L_isWell 20 [some (.ref 1000), some (.int x1), some (.int x2), some (.int x3), some (.int x4), some (.int (x5 + 1)), w6, w7] [] h r) : tr_L g d m_L_isWell 62 [some (.ref 1000), some (.int x1), some (.int x2), some (.int x3), some (.int x4), some (.int x5), w6, w7] [] h r := by
  refine tr_inc 5 1 x5 1 (by decide) rfl rfl rfl ?_
  refine tr_goto (-45) 20 rfl rfl rfl ?_
  exact k
set_option maxRecDepth 20000 in
theorem sx_L_isWell_68_71 {g : tr_g} {d : Nat} {h : ev_AH} {r : ev_O × ev_AH} {x1 x2 x3 x4 v0 : Int32} {w5 w6 w7 : Option Value} {h1 hx : ev_AH} {E : Nat} (hL : hh_L h) (cx : tr_L g d m_X8_heardBy 0 [some (.ref 1000), some (.int x3)] [] h (.inr E, hx)) (hr : r = (.inr E, hx)) : tr_L g (d + 1) m_L_isWell 68 [some (.ref 1000), some (.int x1), some (.int x2), some (.int x3), some (.int x4), w5, w6, w7] [] h r := by
  refine tr_s (.iload_n 1) 1 69 [some (.ref 1000), some (.int x1), some (.int x2), some (.int x3), some (.int x4), w5, w6, w7] [.int x1] h rfl rfl rfl ?_
  refine tr_s (.aload_n 0) 1 70 [some (.ref 1000), some (.int x1), some (.int x2), some (.int x3), some (.int x4), w5, w6, w7] [.ref 1000, .int x1] h rfl rfl rfl ?_
  refine tr_s (.iload_n 3) 1 71 [some (.ref 1000), some (.int x1), some (.int x2), some (.int x3), some (.int x4), w5, w6, w7] [.int x3, .ref 1000, .int x1] h rfl rfl rfl ?_
  exact tr_callx (.invokevirtual 220) 220 0 1 0 m_X8_heardBy [.ref 1000, .int x3] [.int x1] E hx rfl rfl rfl rfl rfl rfl rfl rfl rfl (tr_cok rfl (Or.inr ⟨_, _, rfl, tr_rc (hh_rd (hh_obj hL (k := 0) rfl).1) (by decide)⟩)) rfl cx hr
set_option maxRecDepth 20000 in
theorem sg_L_isWell_68 {g : tr_g} {d : Nat} {h : ev_AH} {r : ev_O × ev_AH} {x1 x2 x3 x4 v0 : Int32} {w5 w6 w7 : Option Value} {h1 : ev_AH} (hL : hh_L h) (c_0 : tr_L g d m_X8_heardBy 0 [some (.ref 1000), some (.int x3)] [] h (.inl (some (.int v0)), h1)) (t : x4 ≠ 15 → tr_L g (d + 1) m_L_isWell 110 [some (.ref 1000), some (.int (x1 + v0)), some (.int x2), some (.int x3), some (.int x4), w5, w6, w7] [] h1 r) (f : x4 = 15 → tr_L g (d + 1) m_L_isWell 83 [some (.ref 1000), some (.int (x1 + v0)), some (.int x2), some (.int x3), some (.int x4), w5, w6, w7] [] h1 r) : tr_L g (d + 1) m_L_isWell 68 [some (.ref 1000), some (.int x1), some (.int x2), some (.int x3), some (.int x4), w5, w6, w7] [] h r := by
  refine tr_s (.iload_n 1) 1 69 [some (.ref 1000), some (.int x1), some (.int x2), some (.int x3), some (.int x4), w5, w6, w7] [.int x1] h rfl rfl rfl ?_
  refine tr_s (.aload_n 0) 1 70 [some (.ref 1000), some (.int x1), some (.int x2), some (.int x3), some (.int x4), w5, w6, w7] [.ref 1000, .int x1] h rfl rfl rfl ?_
  refine tr_s (.iload_n 3) 1 71 [some (.ref 1000), some (.int x1), some (.int x2), some (.int x3), some (.int x4), w5, w6, w7] [.int x3, .ref 1000, .int x1] h rfl rfl rfl ?_
  refine tr_call (.invokevirtual 220) 220 0 1 0 m_X8_heardBy [.ref 1000, .int x3] [.int x1] (some (.int v0)) h1 rfl rfl rfl rfl rfl rfl rfl rfl rfl (tr_cok rfl (Or.inr ⟨_, _, rfl, tr_rc (hh_rd (hh_obj hL (k := 0) rfl).1) (by decide)⟩)) c_0 ?_
  have hL0 := c_0.2
  refine tr_s .iadd 1 75 [some (.ref 1000), some (.int x1), some (.int x2), some (.int x3), some (.int x4), w5, w6, w7] [.int (x1 + v0)] h1 rfl rfl rfl ?_
  refine tr_st (.istore_n 1) 1 1 0 (.int (x1 + v0)) rfl rfl rfl rfl rfl rfl rfl ?_
  refine tr_s (.iload 4) 2 78 [some (.ref 1000), some (.int (x1 + v0)), some (.int x2), some (.int x3), some (.int x4), w5, w6, w7] [.int x4] h1 rfl rfl rfl ?_
  refine tr_bi 15 15 (by decide) rfl ?_
  exact tr_if2 .ne 30 110 x4 15 rfl rfl rfl (fun hc => t ((tr_ne hc).1 rfl)) (fun hc => f ((tr_ne hc).2 rfl))
set_option maxRecDepth 20000 in
theorem sx_L_isWell_83_86 {g : tr_g} {d : Nat} {h : ev_AH} {r : ev_O × ev_AH} {x1 x2 x3 v0 : Int32} {w4 w5 w6 w7 : Option Value} {h1 hx : ev_AH} {E : Nat} (hL : hh_L h) (cx : tr_L g d m_X8_cellOf 0 [some (.ref 1000), some (.int x3)] [] h (.inr E, hx)) (hr : r = (.inr E, hx)) : tr_L g (d + 1) m_L_isWell 83 [some (.ref 1000), some (.int x1), some (.int x2), some (.int x3), w4, w5, w6, w7] [] h r := by
  refine tr_s (.aload_n 0) 1 84 [some (.ref 1000), some (.int x1), some (.int x2), some (.int x3), w4, w5, w6, w7] [.ref 1000] h rfl rfl rfl ?_
  refine tr_s (.aload_n 0) 1 85 [some (.ref 1000), some (.int x1), some (.int x2), some (.int x3), w4, w5, w6, w7] [.ref 1000, .ref 1000] h rfl rfl rfl ?_
  refine tr_s (.iload_n 3) 1 86 [some (.ref 1000), some (.int x1), some (.int x2), some (.int x3), w4, w5, w6, w7] [.int x3, .ref 1000, .ref 1000] h rfl rfl rfl ?_
  exact tr_callx (.invokevirtual 217) 217 0 1 0 m_X8_cellOf [.ref 1000, .int x3] [.ref 1000] E hx rfl rfl rfl rfl rfl rfl rfl rfl rfl (tr_cok rfl (Or.inr ⟨_, _, rfl, tr_rc (hh_rd (hh_obj hL (k := 0) rfl).1) (by decide)⟩)) rfl cx hr
set_option maxRecDepth 20000 in
theorem sg_L_isWell_83 {g : tr_g} {d : Nat} {h : ev_AH} {r : ev_O × ev_AH} {x1 x2 x3 v0 v1 : Int32} {w4 w5 w6 w7 : Option Value} {h1 h2 : ev_AH} (hL : hh_L h) (c_0 : tr_L g d m_X8_cellOf 0 [some (.ref 1000), some (.int x3)] [] h (.inl (some (.int v0)), h1)) (c_1 : tr_L g d m_L_catIn 0 [some (.ref 1000), some (.int v0), none] [] h1 (.inl (some (.int v1)), h2)) (t : v1 ≠ x3 → tr_L g (d + 1) m_L_isWell 110 [some (.ref 1000), some (.int x1), some (.int x2), some (.int x3), w4, w5, w6, w7] [] h2 r) (f : v1 = x3 → tr_L g (d + 1) m_L_isWell 96 [some (.ref 1000), some (.int x1), some (.int x2), some (.int x3), w4, w5, w6, w7] [] h2 r) : tr_L g (d + 1) m_L_isWell 83 [some (.ref 1000), some (.int x1), some (.int x2), some (.int x3), w4, w5, w6, w7] [] h r := by
  refine tr_s (.aload_n 0) 1 84 [some (.ref 1000), some (.int x1), some (.int x2), some (.int x3), w4, w5, w6, w7] [.ref 1000] h rfl rfl rfl ?_
  refine tr_s (.aload_n 0) 1 85 [some (.ref 1000), some (.int x1), some (.int x2), some (.int x3), w4, w5, w6, w7] [.ref 1000, .ref 1000] h rfl rfl rfl ?_
  refine tr_s (.iload_n 3) 1 86 [some (.ref 1000), some (.int x1), some (.int x2), some (.int x3), w4, w5, w6, w7] [.int x3, .ref 1000, .ref 1000] h rfl rfl rfl ?_
  refine tr_call (.invokevirtual 217) 217 0 1 0 m_X8_cellOf [.ref 1000, .int x3] [.ref 1000] (some (.int v0)) h1 rfl rfl rfl rfl rfl rfl rfl rfl rfl (tr_cok rfl (Or.inr ⟨_, _, rfl, tr_rc (hh_rd (hh_obj hL (k := 0) rfl).1) (by decide)⟩)) c_0 ?_
  have hL0 := c_0.2
  refine tr_call (.invokestatic 233) 233 8 2 0 m_L_catIn [.ref 1000, .int v0] [] (some (.int v1)) h2 rfl rfl rfl rfl rfl rfl rfl rfl rfl (tr_cok rfl (Or.inl rfl)) c_1 ?_
  have hL1 := c_1.2
  refine tr_s (.iload_n 3) 1 93 [some (.ref 1000), some (.int x1), some (.int x2), some (.int x3), w4, w5, w6, w7] [.int x3, .int v1] h2 rfl rfl rfl ?_
  exact tr_if2 .ne 17 110 v1 x3 rfl rfl rfl (fun hc => t ((tr_ne hc).1 rfl)) (fun hc => f ((tr_ne hc).2 rfl))
set_option maxRecDepth 20000 in
theorem sx_L_isWell_96_99 {g : tr_g} {d : Nat} {h : ev_AH} {r : ev_O × ev_AH} {x1 x2 x3 v0 : Int32} {w4 w5 w6 w7 : Option Value} {h1 hx : ev_AH} {E : Nat} (hL : hh_L h) (cx : tr_L g d m_X8_cellOf 0 [some (.ref 1000), some (.int x3)] [] h (.inr E, hx)) (hr : r = (.inr E, hx)) : tr_L g (d + 1) m_L_isWell 96 [some (.ref 1000), some (.int x1), some (.int x2), some (.int x3), w4, w5, w6, w7] [] h r := by
  refine tr_s (.aload_n 0) 1 97 [some (.ref 1000), some (.int x1), some (.int x2), some (.int x3), w4, w5, w6, w7] [.ref 1000] h rfl rfl rfl ?_
  refine tr_s (.aload_n 0) 1 98 [some (.ref 1000), some (.int x1), some (.int x2), some (.int x3), w4, w5, w6, w7] [.ref 1000, .ref 1000] h rfl rfl rfl ?_
  refine tr_s (.iload_n 3) 1 99 [some (.ref 1000), some (.int x1), some (.int x2), some (.int x3), w4, w5, w6, w7] [.int x3, .ref 1000, .ref 1000] h rfl rfl rfl ?_
  exact tr_callx (.invokevirtual 217) 217 0 1 0 m_X8_cellOf [.ref 1000, .int x3] [.ref 1000] E hx rfl rfl rfl rfl rfl rfl rfl rfl rfl (tr_cok rfl (Or.inr ⟨_, _, rfl, tr_rc (hh_rd (hh_obj hL (k := 0) rfl).1) (by decide)⟩)) rfl cx hr
set_option maxRecDepth 20000 in
theorem sx_L_isWell_96_102 {g : tr_g} {d : Nat} {h : ev_AH} {r : ev_O × ev_AH} {x1 x2 x3 v0 v1 : Int32} {w4 w5 w6 w7 : Option Value} {h1 h2 hx : ev_AH} {E : Nat} (hL : hh_L h) (c_0 : tr_L g d m_X8_cellOf 0 [some (.ref 1000), some (.int x3)] [] h (.inl (some (.int v0)), h1)) (cx : tr_L g d m_X8_contentOf 0 [some (.ref 1000), some (.int v0)] [] h1 (.inr E, hx)) (hr : r = (.inr E, hx)) : tr_L g (d + 1) m_L_isWell 96 [some (.ref 1000), some (.int x1), some (.int x2), some (.int x3), w4, w5, w6, w7] [] h r := by
  refine tr_s (.aload_n 0) 1 97 [some (.ref 1000), some (.int x1), some (.int x2), some (.int x3), w4, w5, w6, w7] [.ref 1000] h rfl rfl rfl ?_
  refine tr_s (.aload_n 0) 1 98 [some (.ref 1000), some (.int x1), some (.int x2), some (.int x3), w4, w5, w6, w7] [.ref 1000, .ref 1000] h rfl rfl rfl ?_
  refine tr_s (.iload_n 3) 1 99 [some (.ref 1000), some (.int x1), some (.int x2), some (.int x3), w4, w5, w6, w7] [.int x3, .ref 1000, .ref 1000] h rfl rfl rfl ?_
  refine tr_call (.invokevirtual 217) 217 0 1 0 m_X8_cellOf [.ref 1000, .int x3] [.ref 1000] (some (.int v0)) h1 rfl rfl rfl rfl rfl rfl rfl rfl rfl (tr_cok rfl (Or.inr ⟨_, _, rfl, tr_rc (hh_rd (hh_obj hL (k := 0) rfl).1) (by decide)⟩)) c_0 ?_
  have hL0 := c_0.2
  exact tr_callx (.invokevirtual 214) 214 0 1 0 m_X8_contentOf [.ref 1000, .int v0] [] E hx rfl rfl rfl rfl rfl rfl rfl rfl rfl (tr_cok rfl (Or.inr ⟨_, _, rfl, tr_rc (hh_rd (hh_obj hL0 (k := 0) rfl).1) (by decide)⟩)) rfl cx hr
set_option maxRecDepth 20000 in
theorem sg_L_isWell_96 {g : tr_g} {d : Nat} {h : ev_AH} {r : ev_O × ev_AH} {x1 x2 x3 v0 v1 : Int32} {w4 w5 w6 w7 : Option Value} {h1 h2 : ev_AH} (hL : hh_L h) (c_0 : tr_L g d m_X8_cellOf 0 [some (.ref 1000), some (.int x3)] [] h (.inl (some (.int v0)), h1)) (c_1 : tr_L g d m_X8_contentOf 0 [some (.ref 1000), some (.int v0)] [] h1 (.inl (some (.int v1)), h2)) (t : v1 = 99 → tr_L g (d + 1) m_L_isWell 112 [some (.ref 1000), some (.int x1), some (.int x2), some (.int x3), w4, w5, w6, w7] [] h2 r) (f : v1 ≠ 99 → tr_L g (d + 1) m_L_isWell 110 [some (.ref 1000), some (.int x1), some (.int x2), some (.int x3), w4, w5, w6, w7] [] h2 r) : tr_L g (d + 1) m_L_isWell 96 [some (.ref 1000), some (.int x1), some (.int x2), some (.int x3), w4, w5, w6, w7] [] h r := by
  refine tr_s (.aload_n 0) 1 97 [some (.ref 1000), some (.int x1), some (.int x2), some (.int x3), w4, w5, w6, w7] [.ref 1000] h rfl rfl rfl ?_
  refine tr_s (.aload_n 0) 1 98 [some (.ref 1000), some (.int x1), some (.int x2), some (.int x3), w4, w5, w6, w7] [.ref 1000, .ref 1000] h rfl rfl rfl ?_
  refine tr_s (.iload_n 3) 1 99 [some (.ref 1000), some (.int x1), some (.int x2), some (.int x3), w4, w5, w6, w7] [.int x3, .ref 1000, .ref 1000] h rfl rfl rfl ?_
  refine tr_call (.invokevirtual 217) 217 0 1 0 m_X8_cellOf [.ref 1000, .int x3] [.ref 1000] (some (.int v0)) h1 rfl rfl rfl rfl rfl rfl rfl rfl rfl (tr_cok rfl (Or.inr ⟨_, _, rfl, tr_rc (hh_rd (hh_obj hL (k := 0) rfl).1) (by decide)⟩)) c_0 ?_
  have hL0 := c_0.2
  refine tr_call (.invokevirtual 214) 214 0 1 0 m_X8_contentOf [.ref 1000, .int v0] [] (some (.int v1)) h2 rfl rfl rfl rfl rfl rfl rfl rfl rfl (tr_cok rfl (Or.inr ⟨_, _, rfl, tr_rc (hh_rd (hh_obj hL0 (k := 0) rfl).1) (by decide)⟩)) c_1 ?_
  have hL1 := c_1.2
  refine tr_bi 99 99 (by decide) rfl ?_
  exact tr_if2 .eq 5 112 v1 99 rfl rfl rfl (fun hc => t ((tr_eq hc).1 rfl)) (fun hc => f ((tr_eq hc).2 rfl))
set_option maxRecDepth 20000 in
theorem sg_L_isWell_110 {g : tr_g} {d : Nat} {h : ev_AH} {r : ev_O × ev_AH} {w0 w1 w2 w3 w4 w5 w6 w7 : Option Value} (hL : hh_L h) (hr : r = (.inl (some (.int 0)), h)) : tr_L g d m_L_isWell 110 [w0, w1, w2, w3, w4, w5, w6, w7] [] h r := by
  refine tr_ic 0 0 (by decide) rfl ?_
  exact tl_ret hL .ireturn 1 (some (.int 0)) rfl rfl rfl rfl hr
set_option maxRecDepth 20000 in
theorem sg_L_isWell_112 {g : tr_g} {d : Nat} {h : ev_AH} {r : ev_O × ev_AH} {x1 x2 x3 : Int32} {w4 w5 w6 w7 : Option Value} (hL : hh_L h) (k : tr_L g d m_L_isWell 9 [some (.ref 1000), some (.int x1), some (.int x2), some (.int (x3 + 1)), w4, w5, w6, w7] [] h r) : tr_L g d m_L_isWell 112 [some (.ref 1000), some (.int x1), some (.int x2), some (.int x3), w4, w5, w6, w7] [] h r := by
  refine tr_inc 3 1 x3 1 (by decide) rfl rfl rfl ?_
  refine tr_goto (-106) 9 rfl rfl rfl ?_
  exact k
set_option maxRecDepth 20000 in
theorem sg_L_isWell_118 {g : tr_g} {d : Nat} {h : ev_AH} {r : ev_O × ev_AH} {x1 x2 : Int32} {w3 w4 w5 w6 w7 : Option Value} (hL : hh_L h) (k : tr_L g d m_L_isWell 120 [some (.ref 1000), some (.int x1), some (.int x2), some (.int 0), w4, w5, w6, w7] [] h r) : tr_L g d m_L_isWell 118 [some (.ref 1000), some (.int x1), some (.int x2), w3, w4, w5, w6, w7] [] h r := by
  refine tr_ic 0 0 (by decide) rfl ?_
  refine tr_st (.istore_n 3) 1 3 0 (.int 0) rfl rfl rfl rfl rfl rfl rfl ?_
  exact k
set_option maxRecDepth 20000 in
theorem sg_L_isWell_120 {g : tr_g} {d : Nat} {h : ev_AH} {r : ev_O × ev_AH} {x1 x2 x3 : Int32} {w4 w5 w6 w7 : Option Value} (hL : hh_L h) (t : 24 ≤ x3 → tr_L g d m_L_isWell 323 [some (.ref 1000), some (.int x1), some (.int x2), some (.int x3), w4, w5, w6, w7] [] h r) (f : x3 < 24 → tr_L g d m_L_isWell 126 [some (.ref 1000), some (.int x1), some (.int x2), some (.int x3), w4, w5, w6, w7] [] h r) : tr_L g d m_L_isWell 120 [some (.ref 1000), some (.int x1), some (.int x2), some (.int x3), w4, w5, w6, w7] [] h r := by
  refine tr_s (.iload_n 3) 1 121 [some (.ref 1000), some (.int x1), some (.int x2), some (.int x3), w4, w5, w6, w7] [.int x3] h rfl rfl rfl ?_
  refine tr_bi 24 24 (by decide) rfl ?_
  exact tr_if2 .ge 200 323 x3 24 rfl rfl rfl (fun hc => t ((tr_ge hc).1 rfl)) (fun hc => f ((tr_ge hc).2 rfl))
set_option maxRecDepth 20000 in
theorem sg_L_isWell_126 {g : tr_g} {d : Nat} {h : ev_AH} {r : ev_O × ev_AH} {x1 x2 x3 v0 v1 v2 : Int32} {w4 w5 w6 w7 : Option Value} {h1 h2 h3 : ev_AH} (hL : hh_L h) (c_0 : tr_L g d m_L_rayEnd 0 [some (.ref 1000), some (.int x3), none] [] h (.inl (some (.int v0)), h1)) (c_1 : tr_L g d m_L_rayCat 0 [some (.ref 1000), some (.int x3), none] [] h1 (.inl (some (.int v1)), h2)) (c_2 : tr_L g d m_L_rayEndByJoining 0 [some (.ref 1000), some (.int x3), none] [] h2 (.inl (some (.int v2)), h3)) (t : v0 ≠ v2 → tr_L g (d + 1) m_L_isWell 240 [some (.ref 1000), some (.int x1), some (.int x2), some (.int x3), some (.int v0), some (.int v1), w6, w7] [] h3 r) (f : v0 = v2 → tr_L g (d + 1) m_L_isWell 150 [some (.ref 1000), some (.int x1), some (.int x2), some (.int x3), some (.int v0), some (.int v1), w6, w7] [] h3 r) : tr_L g (d + 1) m_L_isWell 126 [some (.ref 1000), some (.int x1), some (.int x2), some (.int x3), w4, w5, w6, w7] [] h r := by
  refine tr_s (.aload_n 0) 1 127 [some (.ref 1000), some (.int x1), some (.int x2), some (.int x3), w4, w5, w6, w7] [.ref 1000] h rfl rfl rfl ?_
  refine tr_s (.iload_n 3) 1 128 [some (.ref 1000), some (.int x1), some (.int x2), some (.int x3), w4, w5, w6, w7] [.int x3, .ref 1000] h rfl rfl rfl ?_
  refine tr_call (.invokestatic 235) 235 8 2 0 m_L_rayEnd [.ref 1000, .int x3] [] (some (.int v0)) h1 rfl rfl rfl rfl rfl rfl rfl rfl rfl (tr_cok rfl (Or.inl rfl)) c_0 ?_
  have hL0 := c_0.2
  refine tr_st (.istore 4) 2 4 0 (.int v0) rfl rfl rfl rfl rfl rfl rfl ?_
  refine tr_s (.aload_n 0) 1 134 [some (.ref 1000), some (.int x1), some (.int x2), some (.int x3), some (.int v0), w5, w6, w7] [.ref 1000] h1 rfl rfl rfl ?_
  refine tr_s (.iload_n 3) 1 135 [some (.ref 1000), some (.int x1), some (.int x2), some (.int x3), some (.int v0), w5, w6, w7] [.int x3, .ref 1000] h1 rfl rfl rfl ?_
  refine tr_call (.invokestatic 237) 237 8 2 0 m_L_rayCat [.ref 1000, .int x3] [] (some (.int v1)) h2 rfl rfl rfl rfl rfl rfl rfl rfl rfl (tr_cok rfl (Or.inl rfl)) c_1 ?_
  have hL1 := c_1.2
  refine tr_st (.istore 5) 2 5 0 (.int v1) rfl rfl rfl rfl rfl rfl rfl ?_
  refine tr_s (.iload 4) 2 142 [some (.ref 1000), some (.int x1), some (.int x2), some (.int x3), some (.int v0), some (.int v1), w6, w7] [.int v0] h2 rfl rfl rfl ?_
  refine tr_s (.aload_n 0) 1 143 [some (.ref 1000), some (.int x1), some (.int x2), some (.int x3), some (.int v0), some (.int v1), w6, w7] [.ref 1000, .int v0] h2 rfl rfl rfl ?_
  refine tr_s (.iload_n 3) 1 144 [some (.ref 1000), some (.int x1), some (.int x2), some (.int x3), some (.int v0), some (.int v1), w6, w7] [.int x3, .ref 1000, .int v0] h2 rfl rfl rfl ?_
  refine tr_call (.invokestatic 239) 239 8 2 0 m_L_rayEndByJoining [.ref 1000, .int x3] [.int v0] (some (.int v2)) h3 rfl rfl rfl rfl rfl rfl rfl rfl rfl (tr_cok rfl (Or.inl rfl)) c_2 ?_
  have hL2 := c_2.2
  exact tr_if2 .ne 93 240 v0 v2 rfl rfl rfl (fun hc => t ((tr_ne hc).1 rfl)) (fun hc => f ((tr_ne hc).2 rfl))
set_option maxRecDepth 20000 in
theorem sg_L_isWell_150 {g : tr_g} {d : Nat} {h : ev_AH} {r : ev_O × ev_AH} {x1 x2 x3 x4 x5 : Int32} {w6 w7 : Option Value} (hL : hh_L h) (t : x4 < 0 → tr_L g d m_L_isWell 159 [some (.ref 1000), some (.int x1), some (.int x2), some (.int x3), some (.int x4), some (.int x5), w6, w7] [] h r) (f : 0 ≤ x4 → tr_L g d m_L_isWell 155 [some (.ref 1000), some (.int x1), some (.int x2), some (.int x3), some (.int x4), some (.int x5), w6, w7] [] h r) : tr_L g d m_L_isWell 150 [some (.ref 1000), some (.int x1), some (.int x2), some (.int x3), some (.int x4), some (.int x5), w6, w7] [] h r := by
  refine tr_s (.iload 4) 2 152 [some (.ref 1000), some (.int x1), some (.int x2), some (.int x3), some (.int x4), some (.int x5), w6, w7] [.int x4] h rfl rfl rfl ?_
  exact tr_if1 .lt 7 159 x4 rfl rfl rfl (fun hc => t ((tr_lt hc).1 rfl)) (fun hc => f ((tr_lt hc).2 rfl))
set_option maxRecDepth 20000 in
theorem sg_L_isWell_155 {g : tr_g} {d : Nat} {h : ev_AH} {r : ev_O × ev_AH} {x1 x2 x3 x4 x5 : Int32} {w6 w7 : Option Value} (hL : hh_L h) (t : x5 < 0 → tr_L g d m_L_isWell 169 [some (.ref 1000), some (.int x1), some (.int x2), some (.int x3), some (.int x4), some (.int x5), w6, w7] [.int 1] h r) (f : 0 ≤ x5 → tr_L g d m_L_isWell 165 [some (.ref 1000), some (.int x1), some (.int x2), some (.int x3), some (.int x4), some (.int x5), w6, w7] [.int 1] h r) : tr_L g d m_L_isWell 155 [some (.ref 1000), some (.int x1), some (.int x2), some (.int x3), some (.int x4), some (.int x5), w6, w7] [] h r := by
  refine tr_ic 1 1 (by decide) rfl ?_
  refine tr_goto 4 160 rfl rfl rfl ?_
  refine tr_s (.iload 5) 2 162 [some (.ref 1000), some (.int x1), some (.int x2), some (.int x3), some (.int x4), some (.int x5), w6, w7] [.int x5, .int 1] h rfl rfl rfl ?_
  exact tr_if1 .lt 7 169 x5 rfl rfl rfl (fun hc => t ((tr_lt hc).1 rfl)) (fun hc => f ((tr_lt hc).2 rfl))
set_option maxRecDepth 20000 in
theorem sg_L_isWell_159 {g : tr_g} {d : Nat} {h : ev_AH} {r : ev_O × ev_AH} {x1 x2 x3 x4 x5 : Int32} {w6 w7 : Option Value} (hL : hh_L h) (t : x5 < 0 → tr_L g d m_L_isWell 169 [some (.ref 1000), some (.int x1), some (.int x2), some (.int x3), some (.int x4), some (.int x5), w6, w7] [.int 0] h r) (f : 0 ≤ x5 → tr_L g d m_L_isWell 165 [some (.ref 1000), some (.int x1), some (.int x2), some (.int x3), some (.int x4), some (.int x5), w6, w7] [.int 0] h r) : tr_L g d m_L_isWell 159 [some (.ref 1000), some (.int x1), some (.int x2), some (.int x3), some (.int x4), some (.int x5), w6, w7] [] h r := by
  refine tr_ic 0 0 (by decide) rfl ?_
  refine tr_s (.iload 5) 2 162 [some (.ref 1000), some (.int x1), some (.int x2), some (.int x3), some (.int x4), some (.int x5), w6, w7] [.int x5, .int 0] h rfl rfl rfl ?_
  exact tr_if1 .lt 7 169 x5 rfl rfl rfl (fun hc => t ((tr_lt hc).1 rfl)) (fun hc => f ((tr_lt hc).2 rfl))
set_option maxRecDepth 20000 in
theorem sg_L_isWell_165 {g : tr_g} {d : Nat} {h : ev_AH} {r : ev_O × ev_AH} {x1 x2 x3 x4 x5 s0 : Int32} {w6 w7 : Option Value} (hL : hh_L h) (t : s0 = 1 → tr_L g d m_L_isWell 240 [some (.ref 1000), some (.int x1), some (.int x2), some (.int x3), some (.int x4), some (.int x5), w6, w7] [] h r) (f : s0 ≠ 1 → tr_L g d m_L_isWell 173 [some (.ref 1000), some (.int x1), some (.int x2), some (.int x3), some (.int x4), some (.int x5), w6, w7] [] h r) : tr_L g d m_L_isWell 165 [some (.ref 1000), some (.int x1), some (.int x2), some (.int x3), some (.int x4), some (.int x5), w6, w7] [.int s0] h r := by
  refine tr_ic 1 1 (by decide) rfl ?_
  refine tr_goto 4 170 rfl rfl rfl ?_
  exact tr_if2 .eq 70 240 s0 1 rfl rfl rfl (fun hc => t ((tr_eq hc).1 rfl)) (fun hc => f ((tr_eq hc).2 rfl))
set_option maxRecDepth 20000 in
theorem sg_L_isWell_169 {g : tr_g} {d : Nat} {h : ev_AH} {r : ev_O × ev_AH} {x1 x2 x3 x4 x5 s0 : Int32} {w6 w7 : Option Value} (hL : hh_L h) (t : s0 = 0 → tr_L g d m_L_isWell 240 [some (.ref 1000), some (.int x1), some (.int x2), some (.int x3), some (.int x4), some (.int x5), w6, w7] [] h r) (f : s0 ≠ 0 → tr_L g d m_L_isWell 173 [some (.ref 1000), some (.int x1), some (.int x2), some (.int x3), some (.int x4), some (.int x5), w6, w7] [] h r) : tr_L g d m_L_isWell 169 [some (.ref 1000), some (.int x1), some (.int x2), some (.int x3), some (.int x4), some (.int x5), w6, w7] [.int s0] h r := by
  refine tr_ic 0 0 (by decide) rfl ?_
  exact tr_if2 .eq 70 240 s0 0 rfl rfl rfl (fun hc => t ((tr_eq hc).1 rfl)) (fun hc => f ((tr_eq hc).2 rfl))
set_option maxRecDepth 20000 in
theorem sg_L_isWell_173 {g : tr_g} {d : Nat} {h : ev_AH} {r : ev_O × ev_AH} {x1 x2 x3 x4 x5 : Int32} {w6 w7 : Option Value} (hL : hh_L h) (t : x4 < 0 → tr_L g d m_L_isWell 216 [some (.ref 1000), some (.int x1), some (.int x2), some (.int x3), some (.int x4), some (.int x5), w6, w7] [] h r) (f : 0 ≤ x4 → tr_L g d m_L_isWell 178 [some (.ref 1000), some (.int x1), some (.int x2), some (.int x3), some (.int x4), some (.int x5), w6, w7] [] h r) : tr_L g d m_L_isWell 173 [some (.ref 1000), some (.int x1), some (.int x2), some (.int x3), some (.int x4), some (.int x5), w6, w7] [] h r := by
  refine tr_s (.iload 4) 2 175 [some (.ref 1000), some (.int x1), some (.int x2), some (.int x3), some (.int x4), some (.int x5), w6, w7] [.int x4] h rfl rfl rfl ?_
  exact tr_if1 .lt 41 216 x4 rfl rfl rfl (fun hc => t ((tr_lt hc).1 rfl)) (fun hc => f ((tr_lt hc).2 rfl))
set_option maxRecDepth 20000 in
theorem sg_L_isWell_178 {g : tr_g} {d : Nat} {h : ev_AH} {r : ev_O × ev_AH} {x1 x2 x3 x4 x5 v0 : Int32} {w6 w7 : Option Value} {h1 : ev_AH} (hL : hh_L h) (c_0 : tr_L g d m_L_rayEnd 0 [some (.ref 1000), some (.int x4), none] [] h (.inl (some (.int v0)), h1)) (t : v0 ≠ x3 → tr_L g (d + 1) m_L_isWell 240 [some (.ref 1000), some (.int x1), some (.int x2), some (.int x3), some (.int x4), some (.int x5), w6, w7] [] h1 r) (f : v0 = x3 → tr_L g (d + 1) m_L_isWell 188 [some (.ref 1000), some (.int x1), some (.int x2), some (.int x3), some (.int x4), some (.int x5), w6, w7] [] h1 r) : tr_L g (d + 1) m_L_isWell 178 [some (.ref 1000), some (.int x1), some (.int x2), some (.int x3), some (.int x4), some (.int x5), w6, w7] [] h r := by
  refine tr_s (.aload_n 0) 1 179 [some (.ref 1000), some (.int x1), some (.int x2), some (.int x3), some (.int x4), some (.int x5), w6, w7] [.ref 1000] h rfl rfl rfl ?_
  refine tr_s (.iload 4) 2 181 [some (.ref 1000), some (.int x1), some (.int x2), some (.int x3), some (.int x4), some (.int x5), w6, w7] [.int x4, .ref 1000] h rfl rfl rfl ?_
  refine tr_call (.invokestatic 235) 235 8 2 0 m_L_rayEnd [.ref 1000, .int x4] [] (some (.int v0)) h1 rfl rfl rfl rfl rfl rfl rfl rfl rfl (tr_cok rfl (Or.inl rfl)) c_0 ?_
  have hL0 := c_0.2
  refine tr_s (.iload_n 3) 1 185 [some (.ref 1000), some (.int x1), some (.int x2), some (.int x3), some (.int x4), some (.int x5), w6, w7] [.int x3, .int v0] h1 rfl rfl rfl ?_
  exact tr_if2 .ne 55 240 v0 x3 rfl rfl rfl (fun hc => t ((tr_ne hc).1 rfl)) (fun hc => f ((tr_ne hc).2 rfl))
set_option maxRecDepth 20000 in
theorem sx_L_isWell_188_191 {g : tr_g} {d : Nat} {h : ev_AH} {r : ev_O × ev_AH} {x1 x2 x3 x4 x5 v0 : Int32} {w6 w7 : Option Value} {h1 hx : ev_AH} {E : Nat} (hL : hh_L h) (cx : tr_L g d m_X8_rayLength 0 [some (.ref 1000), some (.int x4)] [] h (.inr E, hx)) (hr : r = (.inr E, hx)) : tr_L g (d + 1) m_L_isWell 188 [some (.ref 1000), some (.int x1), some (.int x2), some (.int x3), some (.int x4), some (.int x5), w6, w7] [] h r := by
  refine tr_s (.aload_n 0) 1 189 [some (.ref 1000), some (.int x1), some (.int x2), some (.int x3), some (.int x4), some (.int x5), w6, w7] [.ref 1000] h rfl rfl rfl ?_
  refine tr_s (.iload 4) 2 191 [some (.ref 1000), some (.int x1), some (.int x2), some (.int x3), some (.int x4), some (.int x5), w6, w7] [.int x4, .ref 1000] h rfl rfl rfl ?_
  exact tr_callx (.invokevirtual 241) 241 0 1 0 m_X8_rayLength [.ref 1000, .int x4] [] E hx rfl rfl rfl rfl rfl rfl rfl rfl rfl (tr_cok rfl (Or.inr ⟨_, _, rfl, tr_rc (hh_rd (hh_obj hL (k := 0) rfl).1) (by decide)⟩)) rfl cx hr
set_option maxRecDepth 20000 in
theorem sx_L_isWell_188_196 {g : tr_g} {d : Nat} {h : ev_AH} {r : ev_O × ev_AH} {x1 x2 x3 x4 x5 v0 v1 : Int32} {w6 w7 : Option Value} {h1 h2 hx : ev_AH} {E : Nat} (hL : hh_L h) (c_0 : tr_L g d m_X8_rayLength 0 [some (.ref 1000), some (.int x4)] [] h (.inl (some (.int v0)), h1)) (cx : tr_L g d m_X8_rayLength 0 [some (.ref 1000), some (.int x3)] [] h1 (.inr E, hx)) (hr : r = (.inr E, hx)) : tr_L g (d + 1) m_L_isWell 188 [some (.ref 1000), some (.int x1), some (.int x2), some (.int x3), some (.int x4), some (.int x5), w6, w7] [] h r := by
  refine tr_s (.aload_n 0) 1 189 [some (.ref 1000), some (.int x1), some (.int x2), some (.int x3), some (.int x4), some (.int x5), w6, w7] [.ref 1000] h rfl rfl rfl ?_
  refine tr_s (.iload 4) 2 191 [some (.ref 1000), some (.int x1), some (.int x2), some (.int x3), some (.int x4), some (.int x5), w6, w7] [.int x4, .ref 1000] h rfl rfl rfl ?_
  refine tr_call (.invokevirtual 241) 241 0 1 0 m_X8_rayLength [.ref 1000, .int x4] [] (some (.int v0)) h1 rfl rfl rfl rfl rfl rfl rfl rfl rfl (tr_cok rfl (Or.inr ⟨_, _, rfl, tr_rc (hh_rd (hh_obj hL (k := 0) rfl).1) (by decide)⟩)) c_0 ?_
  have hL0 := c_0.2
  refine tr_s (.aload_n 0) 1 195 [some (.ref 1000), some (.int x1), some (.int x2), some (.int x3), some (.int x4), some (.int x5), w6, w7] [.ref 1000, .int v0] h1 rfl rfl rfl ?_
  refine tr_s (.iload_n 3) 1 196 [some (.ref 1000), some (.int x1), some (.int x2), some (.int x3), some (.int x4), some (.int x5), w6, w7] [.int x3, .ref 1000, .int v0] h1 rfl rfl rfl ?_
  exact tr_callx (.invokevirtual 241) 241 0 1 0 m_X8_rayLength [.ref 1000, .int x3] [.int v0] E hx rfl rfl rfl rfl rfl rfl rfl rfl rfl (tr_cok rfl (Or.inr ⟨_, _, rfl, tr_rc (hh_rd (hh_obj hL0 (k := 0) rfl).1) (by decide)⟩)) rfl cx hr
set_option maxRecDepth 20000 in
theorem sg_L_isWell_188 {g : tr_g} {d : Nat} {h : ev_AH} {r : ev_O × ev_AH} {x1 x2 x3 x4 x5 v0 v1 : Int32} {w6 w7 : Option Value} {h1 h2 : ev_AH} (hL : hh_L h) (c_0 : tr_L g d m_X8_rayLength 0 [some (.ref 1000), some (.int x4)] [] h (.inl (some (.int v0)), h1)) (c_1 : tr_L g d m_X8_rayLength 0 [some (.ref 1000), some (.int x3)] [] h1 (.inl (some (.int v1)), h2)) (t : v0 ≠ v1 → tr_L g (d + 1) m_L_isWell 240 [some (.ref 1000), some (.int x1), some (.int x2), some (.int x3), some (.int x4), some (.int x5), w6, w7] [] h2 r) (f : v0 = v1 → tr_L g (d + 1) m_L_isWell 202 [some (.ref 1000), some (.int x1), some (.int x2), some (.int x3), some (.int x4), some (.int x5), w6, w7] [] h2 r) : tr_L g (d + 1) m_L_isWell 188 [some (.ref 1000), some (.int x1), some (.int x2), some (.int x3), some (.int x4), some (.int x5), w6, w7] [] h r := by
  refine tr_s (.aload_n 0) 1 189 [some (.ref 1000), some (.int x1), some (.int x2), some (.int x3), some (.int x4), some (.int x5), w6, w7] [.ref 1000] h rfl rfl rfl ?_
  refine tr_s (.iload 4) 2 191 [some (.ref 1000), some (.int x1), some (.int x2), some (.int x3), some (.int x4), some (.int x5), w6, w7] [.int x4, .ref 1000] h rfl rfl rfl ?_
  refine tr_call (.invokevirtual 241) 241 0 1 0 m_X8_rayLength [.ref 1000, .int x4] [] (some (.int v0)) h1 rfl rfl rfl rfl rfl rfl rfl rfl rfl (tr_cok rfl (Or.inr ⟨_, _, rfl, tr_rc (hh_rd (hh_obj hL (k := 0) rfl).1) (by decide)⟩)) c_0 ?_
  have hL0 := c_0.2
  refine tr_s (.aload_n 0) 1 195 [some (.ref 1000), some (.int x1), some (.int x2), some (.int x3), some (.int x4), some (.int x5), w6, w7] [.ref 1000, .int v0] h1 rfl rfl rfl ?_
  refine tr_s (.iload_n 3) 1 196 [some (.ref 1000), some (.int x1), some (.int x2), some (.int x3), some (.int x4), some (.int x5), w6, w7] [.int x3, .ref 1000, .int v0] h1 rfl rfl rfl ?_
  refine tr_call (.invokevirtual 241) 241 0 1 0 m_X8_rayLength [.ref 1000, .int x3] [.int v0] (some (.int v1)) h2 rfl rfl rfl rfl rfl rfl rfl rfl rfl (tr_cok rfl (Or.inr ⟨_, _, rfl, tr_rc (hh_rd (hh_obj hL0 (k := 0) rfl).1) (by decide)⟩)) c_1 ?_
  have hL1 := c_1.2
  exact tr_if2 .ne 41 240 v0 v1 rfl rfl rfl (fun hc => t ((tr_ne hc).1 rfl)) (fun hc => f ((tr_ne hc).2 rfl))
set_option maxRecDepth 20000 in
theorem sx_L_isWell_202_205 {g : tr_g} {d : Nat} {h : ev_AH} {r : ev_O × ev_AH} {x1 x2 x3 x4 x5 v0 : Int32} {w6 w7 : Option Value} {h1 hx : ev_AH} {E : Nat} (hL : hh_L h) (cx : tr_L g d m_X8_rayBounces 0 [some (.ref 1000), some (.int x4)] [] h (.inr E, hx)) (hr : r = (.inr E, hx)) : tr_L g (d + 1) m_L_isWell 202 [some (.ref 1000), some (.int x1), some (.int x2), some (.int x3), some (.int x4), some (.int x5), w6, w7] [] h r := by
  refine tr_s (.aload_n 0) 1 203 [some (.ref 1000), some (.int x1), some (.int x2), some (.int x3), some (.int x4), some (.int x5), w6, w7] [.ref 1000] h rfl rfl rfl ?_
  refine tr_s (.iload 4) 2 205 [some (.ref 1000), some (.int x1), some (.int x2), some (.int x3), some (.int x4), some (.int x5), w6, w7] [.int x4, .ref 1000] h rfl rfl rfl ?_
  exact tr_callx (.invokevirtual 244) 244 0 1 0 m_X8_rayBounces [.ref 1000, .int x4] [] E hx rfl rfl rfl rfl rfl rfl rfl rfl rfl (tr_cok rfl (Or.inr ⟨_, _, rfl, tr_rc (hh_rd (hh_obj hL (k := 0) rfl).1) (by decide)⟩)) rfl cx hr
set_option maxRecDepth 20000 in
theorem sx_L_isWell_202_210 {g : tr_g} {d : Nat} {h : ev_AH} {r : ev_O × ev_AH} {x1 x2 x3 x4 x5 v0 v1 : Int32} {w6 w7 : Option Value} {h1 h2 hx : ev_AH} {E : Nat} (hL : hh_L h) (c_0 : tr_L g d m_X8_rayBounces 0 [some (.ref 1000), some (.int x4)] [] h (.inl (some (.int v0)), h1)) (cx : tr_L g d m_X8_rayBounces 0 [some (.ref 1000), some (.int x3)] [] h1 (.inr E, hx)) (hr : r = (.inr E, hx)) : tr_L g (d + 1) m_L_isWell 202 [some (.ref 1000), some (.int x1), some (.int x2), some (.int x3), some (.int x4), some (.int x5), w6, w7] [] h r := by
  refine tr_s (.aload_n 0) 1 203 [some (.ref 1000), some (.int x1), some (.int x2), some (.int x3), some (.int x4), some (.int x5), w6, w7] [.ref 1000] h rfl rfl rfl ?_
  refine tr_s (.iload 4) 2 205 [some (.ref 1000), some (.int x1), some (.int x2), some (.int x3), some (.int x4), some (.int x5), w6, w7] [.int x4, .ref 1000] h rfl rfl rfl ?_
  refine tr_call (.invokevirtual 244) 244 0 1 0 m_X8_rayBounces [.ref 1000, .int x4] [] (some (.int v0)) h1 rfl rfl rfl rfl rfl rfl rfl rfl rfl (tr_cok rfl (Or.inr ⟨_, _, rfl, tr_rc (hh_rd (hh_obj hL (k := 0) rfl).1) (by decide)⟩)) c_0 ?_
  have hL0 := c_0.2
  refine tr_s (.aload_n 0) 1 209 [some (.ref 1000), some (.int x1), some (.int x2), some (.int x3), some (.int x4), some (.int x5), w6, w7] [.ref 1000, .int v0] h1 rfl rfl rfl ?_
  refine tr_s (.iload_n 3) 1 210 [some (.ref 1000), some (.int x1), some (.int x2), some (.int x3), some (.int x4), some (.int x5), w6, w7] [.int x3, .ref 1000, .int v0] h1 rfl rfl rfl ?_
  exact tr_callx (.invokevirtual 244) 244 0 1 0 m_X8_rayBounces [.ref 1000, .int x3] [.int v0] E hx rfl rfl rfl rfl rfl rfl rfl rfl rfl (tr_cok rfl (Or.inr ⟨_, _, rfl, tr_rc (hh_rd (hh_obj hL0 (k := 0) rfl).1) (by decide)⟩)) rfl cx hr
set_option maxRecDepth 20000 in
theorem sg_L_isWell_202 {g : tr_g} {d : Nat} {h : ev_AH} {r : ev_O × ev_AH} {x1 x2 x3 x4 x5 v0 v1 : Int32} {w6 w7 : Option Value} {h1 h2 : ev_AH} (hL : hh_L h) (c_0 : tr_L g d m_X8_rayBounces 0 [some (.ref 1000), some (.int x4)] [] h (.inl (some (.int v0)), h1)) (c_1 : tr_L g d m_X8_rayBounces 0 [some (.ref 1000), some (.int x3)] [] h1 (.inl (some (.int v1)), h2)) (t : v0 ≠ v1 → tr_L g (d + 1) m_L_isWell 240 [some (.ref 1000), some (.int x1), some (.int x2), some (.int x3), some (.int x4), some (.int x5), w6, w7] [] h2 r) (f : v0 = v1 → tr_L g (d + 1) m_L_isWell 216 [some (.ref 1000), some (.int x1), some (.int x2), some (.int x3), some (.int x4), some (.int x5), w6, w7] [] h2 r) : tr_L g (d + 1) m_L_isWell 202 [some (.ref 1000), some (.int x1), some (.int x2), some (.int x3), some (.int x4), some (.int x5), w6, w7] [] h r := by
  refine tr_s (.aload_n 0) 1 203 [some (.ref 1000), some (.int x1), some (.int x2), some (.int x3), some (.int x4), some (.int x5), w6, w7] [.ref 1000] h rfl rfl rfl ?_
  refine tr_s (.iload 4) 2 205 [some (.ref 1000), some (.int x1), some (.int x2), some (.int x3), some (.int x4), some (.int x5), w6, w7] [.int x4, .ref 1000] h rfl rfl rfl ?_
  refine tr_call (.invokevirtual 244) 244 0 1 0 m_X8_rayBounces [.ref 1000, .int x4] [] (some (.int v0)) h1 rfl rfl rfl rfl rfl rfl rfl rfl rfl (tr_cok rfl (Or.inr ⟨_, _, rfl, tr_rc (hh_rd (hh_obj hL (k := 0) rfl).1) (by decide)⟩)) c_0 ?_
  have hL0 := c_0.2
  refine tr_s (.aload_n 0) 1 209 [some (.ref 1000), some (.int x1), some (.int x2), some (.int x3), some (.int x4), some (.int x5), w6, w7] [.ref 1000, .int v0] h1 rfl rfl rfl ?_
  refine tr_s (.iload_n 3) 1 210 [some (.ref 1000), some (.int x1), some (.int x2), some (.int x3), some (.int x4), some (.int x5), w6, w7] [.int x3, .ref 1000, .int v0] h1 rfl rfl rfl ?_
  refine tr_call (.invokevirtual 244) 244 0 1 0 m_X8_rayBounces [.ref 1000, .int x3] [.int v0] (some (.int v1)) h2 rfl rfl rfl rfl rfl rfl rfl rfl rfl (tr_cok rfl (Or.inr ⟨_, _, rfl, tr_rc (hh_rd (hh_obj hL0 (k := 0) rfl).1) (by decide)⟩)) c_1 ?_
  have hL1 := c_1.2
  exact tr_if2 .ne 27 240 v0 v1 rfl rfl rfl (fun hc => t ((tr_ne hc).1 rfl)) (fun hc => f ((tr_ne hc).2 rfl))
set_option maxRecDepth 20000 in
theorem sg_L_isWell_216 {g : tr_g} {d : Nat} {h : ev_AH} {r : ev_O × ev_AH} {x1 x2 x3 x4 x5 : Int32} {w6 w7 : Option Value} (hL : hh_L h) (t : 0 ≤ x4 → tr_L g d m_L_isWell 228 [some (.ref 1000), some (.int x1), some (.int x2), some (.int x3), some (.int x4), some (.int x5), w6, w7] [] h r) (f : x4 < 0 → tr_L g d m_L_isWell 221 [some (.ref 1000), some (.int x1), some (.int x2), some (.int x3), some (.int x4), some (.int x5), w6, w7] [] h r) : tr_L g d m_L_isWell 216 [some (.ref 1000), some (.int x1), some (.int x2), some (.int x3), some (.int x4), some (.int x5), w6, w7] [] h r := by
  refine tr_s (.iload 4) 2 218 [some (.ref 1000), some (.int x1), some (.int x2), some (.int x3), some (.int x4), some (.int x5), w6, w7] [.int x4] h rfl rfl rfl ?_
  exact tr_if1 .ge 10 228 x4 rfl rfl rfl (fun hc => t ((tr_ge hc).1 rfl)) (fun hc => f ((tr_ge hc).2 rfl))
set_option maxRecDepth 20000 in
theorem sg_L_isWell_221 {g : tr_g} {d : Nat} {h : ev_AH} {r : ev_O × ev_AH} {x1 x2 x3 x4 x5 : Int32} {w6 w7 : Option Value} (hL : hh_L h) (t : x4 ≠ (-900002) → tr_L g d m_L_isWell 240 [some (.ref 1000), some (.int x1), some (.int x2), some (.int x3), some (.int x4), some (.int x5), w6, w7] [] h r) (f : x4 = (-900002) → tr_L g d m_L_isWell 228 [some (.ref 1000), some (.int x1), some (.int x2), some (.int x3), some (.int x4), some (.int x5), w6, w7] [] h r) : tr_L g d m_L_isWell 221 [some (.ref 1000), some (.int x1), some (.int x2), some (.int x3), some (.int x4), some (.int x5), w6, w7] [] h r := by
  refine tr_s (.iload 4) 2 223 [some (.ref 1000), some (.int x1), some (.int x2), some (.int x3), some (.int x4), some (.int x5), w6, w7] [.int x4] h rfl rfl rfl ?_
  refine tr_s (.ldc 20) 2 225 [some (.ref 1000), some (.int x1), some (.int x2), some (.int x3), some (.int x4), some (.int x5), w6, w7] [.int (-900002), .int x4] h rfl rfl rfl ?_
  exact tr_if2 .ne 15 240 x4 (-900002) rfl rfl rfl (fun hc => t ((tr_ne hc).1 rfl)) (fun hc => f ((tr_ne hc).2 rfl))
set_option maxRecDepth 20000 in
theorem sg_L_isWell_228 {g : tr_g} {d : Nat} {h : ev_AH} {r : ev_O × ev_AH} {x1 x2 x3 x5 : Int32} {w4 w6 w7 : Option Value} (hL : hh_L h) (t : 0 ≤ x5 → tr_L g d m_L_isWell 242 [some (.ref 1000), some (.int x1), some (.int x2), some (.int x3), w4, some (.int x5), w6, w7] [] h r) (f : x5 < 0 → tr_L g d m_L_isWell 233 [some (.ref 1000), some (.int x1), some (.int x2), some (.int x3), w4, some (.int x5), w6, w7] [] h r) : tr_L g d m_L_isWell 228 [some (.ref 1000), some (.int x1), some (.int x2), some (.int x3), w4, some (.int x5), w6, w7] [] h r := by
  refine tr_s (.iload 5) 2 230 [some (.ref 1000), some (.int x1), some (.int x2), some (.int x3), w4, some (.int x5), w6, w7] [.int x5] h rfl rfl rfl ?_
  exact tr_if1 .ge 12 242 x5 rfl rfl rfl (fun hc => t ((tr_ge hc).1 rfl)) (fun hc => f ((tr_ge hc).2 rfl))
set_option maxRecDepth 20000 in
theorem sg_L_isWell_233 {g : tr_g} {d : Nat} {h : ev_AH} {r : ev_O × ev_AH} {x1 x2 x3 x5 : Int32} {w4 w6 w7 : Option Value} (hL : hh_L h) (t : x5 = (-900002) → tr_L g d m_L_isWell 242 [some (.ref 1000), some (.int x1), some (.int x2), some (.int x3), w4, some (.int x5), w6, w7] [] h r) (f : x5 ≠ (-900002) → tr_L g d m_L_isWell 240 [some (.ref 1000), some (.int x1), some (.int x2), some (.int x3), w4, some (.int x5), w6, w7] [] h r) : tr_L g d m_L_isWell 233 [some (.ref 1000), some (.int x1), some (.int x2), some (.int x3), w4, some (.int x5), w6, w7] [] h r := by
  refine tr_s (.iload 5) 2 235 [some (.ref 1000), some (.int x1), some (.int x2), some (.int x3), w4, some (.int x5), w6, w7] [.int x5] h rfl rfl rfl ?_
  refine tr_s (.ldc 20) 2 237 [some (.ref 1000), some (.int x1), some (.int x2), some (.int x3), w4, some (.int x5), w6, w7] [.int (-900002), .int x5] h rfl rfl rfl ?_
  exact tr_if2 .eq 5 242 x5 (-900002) rfl rfl rfl (fun hc => t ((tr_eq hc).1 rfl)) (fun hc => f ((tr_eq hc).2 rfl))
set_option maxRecDepth 20000 in
theorem sg_L_isWell_240 {g : tr_g} {d : Nat} {h : ev_AH} {r : ev_O × ev_AH} {w0 w1 w2 w3 w4 w5 w6 w7 : Option Value} (hL : hh_L h) (hr : r = (.inl (some (.int 0)), h)) : tr_L g d m_L_isWell 240 [w0, w1, w2, w3, w4, w5, w6, w7] [] h r := by
  refine tr_ic 0 0 (by decide) rfl ?_
  exact tl_ret hL .ireturn 1 (some (.int 0)) rfl rfl rfl rfl hr
set_option maxRecDepth 20000 in
theorem sg_L_isWell_242 {g : tr_g} {d : Nat} {h : ev_AH} {r : ev_O × ev_AH} {x1 x2 x3 x5 : Int32} {w4 w6 w7 : Option Value} (hL : hh_L h) (k : tr_L g d m_L_isWell 245 [some (.ref 1000), some (.int x1), some (.int x2), some (.int x3), w4, some (.int x5), some (.int 0), w7] [] h r) : tr_L g d m_L_isWell 242 [some (.ref 1000), some (.int x1), some (.int x2), some (.int x3), w4, some (.int x5), w6, w7] [] h r := by
  refine tr_ic 0 0 (by decide) rfl ?_
  refine tr_st (.istore 6) 2 6 0 (.int 0) rfl rfl rfl rfl rfl rfl rfl ?_
  exact k
set_option maxRecDepth 20000 in
theorem sg_L_isWell_245 {g : tr_g} {d : Nat} {h : ev_AH} {r : ev_O × ev_AH} {x1 x2 x3 x5 x6 : Int32} {w4 w7 : Option Value} (hL : hh_L h) (t : x2 ≤ x6 → tr_L g d m_L_isWell 317 [some (.ref 1000), some (.int x1), some (.int x2), some (.int x3), w4, some (.int x5), some (.int x6), w7] [] h r) (f : x6 < x2 → tr_L g d m_L_isWell 251 [some (.ref 1000), some (.int x1), some (.int x2), some (.int x3), w4, some (.int x5), some (.int x6), w7] [] h r) : tr_L g d m_L_isWell 245 [some (.ref 1000), some (.int x1), some (.int x2), some (.int x3), w4, some (.int x5), some (.int x6), w7] [] h r := by
  refine tr_s (.iload 6) 2 247 [some (.ref 1000), some (.int x1), some (.int x2), some (.int x3), w4, some (.int x5), some (.int x6), w7] [.int x6] h rfl rfl rfl ?_
  refine tr_s (.iload_n 2) 1 248 [some (.ref 1000), some (.int x1), some (.int x2), some (.int x3), w4, some (.int x5), some (.int x6), w7] [.int x2, .int x6] h rfl rfl rfl ?_
  exact tr_if2 .ge 69 317 x6 x2 rfl rfl rfl (fun hc => t ((tr_ge hc).1 rfl)) (fun hc => f ((tr_ge hc).2 rfl))
set_option maxRecDepth 20000 in
theorem sg_L_isWell_251 {g : tr_g} {d : Nat} {h : ev_AH} {r : ev_O × ev_AH} {x1 x2 x3 x5 x6 v0 v1 : Int32} {w4 w7 : Option Value} {h1 h2 : ev_AH} (hL : hh_L h) (c_0 : tr_L g d m_L_leastEffort 0 [some (.ref 1000), some (.int x3), some (.int x6), none] [] h (.inl (some (.int v0)), h1)) (c_1 : tr_L g d m_L_leastEffortByRounds 0 [some (.ref 1000), some (.int x3), some (.int x6), none] [] h1 (.inl (some (.int v1)), h2)) (t : v0 ≠ v1 → tr_L g (d + 1) m_L_isWell 309 [some (.ref 1000), some (.int x1), some (.int x2), some (.int x3), w4, some (.int x5), some (.int x6), some (.int v0)] [] h2 r) (f : v0 = v1 → tr_L g (d + 1) m_L_isWell 272 [some (.ref 1000), some (.int x1), some (.int x2), some (.int x3), w4, some (.int x5), some (.int x6), some (.int v0)] [] h2 r) : tr_L g (d + 1) m_L_isWell 251 [some (.ref 1000), some (.int x1), some (.int x2), some (.int x3), w4, some (.int x5), some (.int x6), w7] [] h r := by
  refine tr_s (.aload_n 0) 1 252 [some (.ref 1000), some (.int x1), some (.int x2), some (.int x3), w4, some (.int x5), some (.int x6), w7] [.ref 1000] h rfl rfl rfl ?_
  refine tr_s (.iload_n 3) 1 253 [some (.ref 1000), some (.int x1), some (.int x2), some (.int x3), w4, some (.int x5), some (.int x6), w7] [.int x3, .ref 1000] h rfl rfl rfl ?_
  refine tr_s (.iload 6) 2 255 [some (.ref 1000), some (.int x1), some (.int x2), some (.int x3), w4, some (.int x5), some (.int x6), w7] [.int x6, .int x3, .ref 1000] h rfl rfl rfl ?_
  refine tr_call (.invokestatic 247) 247 8 3 0 m_L_leastEffort [.ref 1000, .int x3, .int x6] [] (some (.int v0)) h1 rfl rfl rfl rfl rfl rfl rfl rfl rfl (tr_cok rfl (Or.inl rfl)) c_0 ?_
  have hL0 := c_0.2
  refine tr_st (.istore 7) 2 7 0 (.int v0) rfl rfl rfl rfl rfl rfl rfl ?_
  refine tr_s (.iload 7) 2 262 [some (.ref 1000), some (.int x1), some (.int x2), some (.int x3), w4, some (.int x5), some (.int x6), some (.int v0)] [.int v0] h1 rfl rfl rfl ?_
  refine tr_s (.aload_n 0) 1 263 [some (.ref 1000), some (.int x1), some (.int x2), some (.int x3), w4, some (.int x5), some (.int x6), some (.int v0)] [.ref 1000, .int v0] h1 rfl rfl rfl ?_
  refine tr_s (.iload_n 3) 1 264 [some (.ref 1000), some (.int x1), some (.int x2), some (.int x3), w4, some (.int x5), some (.int x6), some (.int v0)] [.int x3, .ref 1000, .int v0] h1 rfl rfl rfl ?_
  refine tr_s (.iload 6) 2 266 [some (.ref 1000), some (.int x1), some (.int x2), some (.int x3), w4, some (.int x5), some (.int x6), some (.int v0)] [.int x6, .int x3, .ref 1000, .int v0] h1 rfl rfl rfl ?_
  refine tr_call (.invokestatic 249) 249 8 3 0 m_L_leastEffortByRounds [.ref 1000, .int x3, .int x6] [.int v0] (some (.int v1)) h2 rfl rfl rfl rfl rfl rfl rfl rfl rfl (tr_cok rfl (Or.inl rfl)) c_1 ?_
  have hL1 := c_1.2
  exact tr_if2 .ne 40 309 v0 v1 rfl rfl rfl (fun hc => t ((tr_ne hc).1 rfl)) (fun hc => f ((tr_ne hc).2 rfl))
set_option maxRecDepth 20000 in
theorem sg_L_isWell_272 {g : tr_g} {d : Nat} {h : ev_AH} {r : ev_O × ev_AH} {x1 x2 x3 x5 x6 x7 : Int32} {w4 : Option Value} (hL : hh_L h) (t : x5 ≠ x6 → tr_L g d m_L_isWell 283 [some (.ref 1000), some (.int x1), some (.int x2), some (.int x3), w4, some (.int x5), some (.int x6), some (.int x7)] [] h r) (f : x5 = x6 → tr_L g d m_L_isWell 279 [some (.ref 1000), some (.int x1), some (.int x2), some (.int x3), w4, some (.int x5), some (.int x6), some (.int x7)] [] h r) : tr_L g d m_L_isWell 272 [some (.ref 1000), some (.int x1), some (.int x2), some (.int x3), w4, some (.int x5), some (.int x6), some (.int x7)] [] h r := by
  refine tr_s (.iload 5) 2 274 [some (.ref 1000), some (.int x1), some (.int x2), some (.int x3), w4, some (.int x5), some (.int x6), some (.int x7)] [.int x5] h rfl rfl rfl ?_
  refine tr_s (.iload 6) 2 276 [some (.ref 1000), some (.int x1), some (.int x2), some (.int x3), w4, some (.int x5), some (.int x6), some (.int x7)] [.int x6, .int x5] h rfl rfl rfl ?_
  exact tr_if2 .ne 7 283 x5 x6 rfl rfl rfl (fun hc => t ((tr_ne hc).1 rfl)) (fun hc => f ((tr_ne hc).2 rfl))
set_option maxRecDepth 20000 in
theorem sg_L_isWell_279 {g : tr_g} {d : Nat} {h : ev_AH} {r : ev_O × ev_AH} {x1 x2 x3 x5 x6 x7 : Int32} {w4 : Option Value} (hL : hh_L h) (t : x7 ≠ 0 → tr_L g d m_L_isWell 293 [some (.ref 1000), some (.int x1), some (.int x2), some (.int x3), w4, some (.int x5), some (.int x6), some (.int x7)] [.int 1] h r) (f : x7 = 0 → tr_L g d m_L_isWell 289 [some (.ref 1000), some (.int x1), some (.int x2), some (.int x3), w4, some (.int x5), some (.int x6), some (.int x7)] [.int 1] h r) : tr_L g d m_L_isWell 279 [some (.ref 1000), some (.int x1), some (.int x2), some (.int x3), w4, some (.int x5), some (.int x6), some (.int x7)] [] h r := by
  refine tr_ic 1 1 (by decide) rfl ?_
  refine tr_goto 4 284 rfl rfl rfl ?_
  refine tr_s (.iload 7) 2 286 [some (.ref 1000), some (.int x1), some (.int x2), some (.int x3), w4, some (.int x5), some (.int x6), some (.int x7)] [.int x7, .int 1] h rfl rfl rfl ?_
  exact tr_if1 .ne 7 293 x7 rfl rfl rfl (fun hc => t ((tr_ne hc).1 rfl)) (fun hc => f ((tr_ne hc).2 rfl))
set_option maxRecDepth 20000 in
theorem sg_L_isWell_283 {g : tr_g} {d : Nat} {h : ev_AH} {r : ev_O × ev_AH} {x1 x2 x3 x5 x6 x7 : Int32} {w4 : Option Value} (hL : hh_L h) (t : x7 ≠ 0 → tr_L g d m_L_isWell 293 [some (.ref 1000), some (.int x1), some (.int x2), some (.int x3), w4, some (.int x5), some (.int x6), some (.int x7)] [.int 0] h r) (f : x7 = 0 → tr_L g d m_L_isWell 289 [some (.ref 1000), some (.int x1), some (.int x2), some (.int x3), w4, some (.int x5), some (.int x6), some (.int x7)] [.int 0] h r) : tr_L g d m_L_isWell 283 [some (.ref 1000), some (.int x1), some (.int x2), some (.int x3), w4, some (.int x5), some (.int x6), some (.int x7)] [] h r := by
  refine tr_ic 0 0 (by decide) rfl ?_
  refine tr_s (.iload 7) 2 286 [some (.ref 1000), some (.int x1), some (.int x2), some (.int x3), w4, some (.int x5), some (.int x6), some (.int x7)] [.int x7, .int 0] h rfl rfl rfl ?_
  exact tr_if1 .ne 7 293 x7 rfl rfl rfl (fun hc => t ((tr_ne hc).1 rfl)) (fun hc => f ((tr_ne hc).2 rfl))
set_option maxRecDepth 20000 in
theorem sg_L_isWell_289 {g : tr_g} {d : Nat} {h : ev_AH} {r : ev_O × ev_AH} {x1 x2 x3 x5 x6 x7 s0 : Int32} {w4 : Option Value} (hL : hh_L h) (t : s0 ≠ 1 → tr_L g d m_L_isWell 309 [some (.ref 1000), some (.int x1), some (.int x2), some (.int x3), w4, some (.int x5), some (.int x6), some (.int x7)] [] h r) (f : s0 = 1 → tr_L g d m_L_isWell 297 [some (.ref 1000), some (.int x1), some (.int x2), some (.int x3), w4, some (.int x5), some (.int x6), some (.int x7)] [] h r) : tr_L g d m_L_isWell 289 [some (.ref 1000), some (.int x1), some (.int x2), some (.int x3), w4, some (.int x5), some (.int x6), some (.int x7)] [.int s0] h r := by
  refine tr_ic 1 1 (by decide) rfl ?_
  refine tr_goto 4 294 rfl rfl rfl ?_
  exact tr_if2 .ne 15 309 s0 1 rfl rfl rfl (fun hc => t ((tr_ne hc).1 rfl)) (fun hc => f ((tr_ne hc).2 rfl))
set_option maxRecDepth 20000 in
theorem sg_L_isWell_293 {g : tr_g} {d : Nat} {h : ev_AH} {r : ev_O × ev_AH} {x1 x2 x3 x5 x6 x7 s0 : Int32} {w4 : Option Value} (hL : hh_L h) (t : s0 ≠ 0 → tr_L g d m_L_isWell 309 [some (.ref 1000), some (.int x1), some (.int x2), some (.int x3), w4, some (.int x5), some (.int x6), some (.int x7)] [] h r) (f : s0 = 0 → tr_L g d m_L_isWell 297 [some (.ref 1000), some (.int x1), some (.int x2), some (.int x3), w4, some (.int x5), some (.int x6), some (.int x7)] [] h r) : tr_L g d m_L_isWell 293 [some (.ref 1000), some (.int x1), some (.int x2), some (.int x3), w4, some (.int x5), some (.int x6), some (.int x7)] [.int s0] h r := by
  refine tr_ic 0 0 (by decide) rfl ?_
  exact tr_if2 .ne 15 309 s0 0 rfl rfl rfl (fun hc => t ((tr_ne hc).1 rfl)) (fun hc => f ((tr_ne hc).2 rfl))
set_option maxRecDepth 20000 in
theorem sg_L_isWell_297 {g : tr_g} {d : Nat} {h : ev_AH} {r : ev_O × ev_AH} {x1 x2 x3 x5 x6 x7 : Int32} {w4 : Option Value} (hL : hh_L h) (t : 0 ≤ x7 → tr_L g d m_L_isWell 311 [some (.ref 1000), some (.int x1), some (.int x2), some (.int x3), w4, some (.int x5), some (.int x6), some (.int x7)] [] h r) (f : x7 < 0 → tr_L g d m_L_isWell 302 [some (.ref 1000), some (.int x1), some (.int x2), some (.int x3), w4, some (.int x5), some (.int x6), some (.int x7)] [] h r) : tr_L g d m_L_isWell 297 [some (.ref 1000), some (.int x1), some (.int x2), some (.int x3), w4, some (.int x5), some (.int x6), some (.int x7)] [] h r := by
  refine tr_s (.iload 7) 2 299 [some (.ref 1000), some (.int x1), some (.int x2), some (.int x3), w4, some (.int x5), some (.int x6), some (.int x7)] [.int x7] h rfl rfl rfl ?_
  exact tr_if1 .ge 12 311 x7 rfl rfl rfl (fun hc => t ((tr_ge hc).1 rfl)) (fun hc => f ((tr_ge hc).2 rfl))
set_option maxRecDepth 20000 in
theorem sg_L_isWell_302 {g : tr_g} {d : Nat} {h : ev_AH} {r : ev_O × ev_AH} {x1 x2 x3 x5 x6 x7 : Int32} {w4 : Option Value} (hL : hh_L h) (t : x7 = (-900003) → tr_L g d m_L_isWell 311 [some (.ref 1000), some (.int x1), some (.int x2), some (.int x3), w4, some (.int x5), some (.int x6), some (.int x7)] [] h r) (f : x7 ≠ (-900003) → tr_L g d m_L_isWell 309 [some (.ref 1000), some (.int x1), some (.int x2), some (.int x3), w4, some (.int x5), some (.int x6), some (.int x7)] [] h r) : tr_L g d m_L_isWell 302 [some (.ref 1000), some (.int x1), some (.int x2), some (.int x3), w4, some (.int x5), some (.int x6), some (.int x7)] [] h r := by
  refine tr_s (.iload 7) 2 304 [some (.ref 1000), some (.int x1), some (.int x2), some (.int x3), w4, some (.int x5), some (.int x6), some (.int x7)] [.int x7] h rfl rfl rfl ?_
  refine tr_s (.ldc 23) 2 306 [some (.ref 1000), some (.int x1), some (.int x2), some (.int x3), w4, some (.int x5), some (.int x6), some (.int x7)] [.int (-900003), .int x7] h rfl rfl rfl ?_
  exact tr_if2 .eq 5 311 x7 (-900003) rfl rfl rfl (fun hc => t ((tr_eq hc).1 rfl)) (fun hc => f ((tr_eq hc).2 rfl))
set_option maxRecDepth 20000 in
theorem sg_L_isWell_309 {g : tr_g} {d : Nat} {h : ev_AH} {r : ev_O × ev_AH} {w0 w1 w2 w3 w4 w5 w6 w7 : Option Value} (hL : hh_L h) (hr : r = (.inl (some (.int 0)), h)) : tr_L g d m_L_isWell 309 [w0, w1, w2, w3, w4, w5, w6, w7] [] h r := by
  refine tr_ic 0 0 (by decide) rfl ?_
  exact tl_ret hL .ireturn 1 (some (.int 0)) rfl rfl rfl rfl hr
set_option maxRecDepth 20000 in
theorem sg_L_isWell_311 {g : tr_g} {d : Nat} {h : ev_AH} {r : ev_O × ev_AH} {x1 x2 x3 x5 x6 : Int32} {w4 w7 : Option Value} (hL : hh_L h) (k : tr_L g d m_L_isWell 245 [some (.ref 1000), some (.int x1), some (.int x2), some (.int x3), w4, some (.int x5), some (.int (x6 + 1)), w7] [] h r) : tr_L g d m_L_isWell 311 [some (.ref 1000), some (.int x1), some (.int x2), some (.int x3), w4, some (.int x5), some (.int x6), w7] [] h r := by
  refine tr_inc 6 1 x6 1 (by decide) rfl rfl rfl ?_
  refine tr_goto (-69) 245 rfl rfl rfl ?_
  exact k
set_option maxRecDepth 20000 in
theorem sg_L_isWell_317 {g : tr_g} {d : Nat} {h : ev_AH} {r : ev_O × ev_AH} {x1 x2 x3 : Int32} {w4 w5 w6 w7 : Option Value} (hL : hh_L h) (k : tr_L g d m_L_isWell 120 [some (.ref 1000), some (.int x1), some (.int x2), some (.int (x3 + 1)), w4, w5, w6, w7] [] h r) : tr_L g d m_L_isWell 317 [some (.ref 1000), some (.int x1), some (.int x2), some (.int x3), w4, w5, w6, w7] [] h r := by
  refine tr_inc 3 1 x3 1 (by decide) rfl rfl rfl ?_
  refine tr_goto (-200) 120 rfl rfl rfl ?_
  exact k
set_option maxRecDepth 20000 in
theorem sg_L_isWell_323 {g : tr_g} {d : Nat} {h : ev_AH} {r : ev_O × ev_AH} {x1 x2 : Int32} {w3 w4 w5 w6 w7 : Option Value} (hL : hh_L h) (k : tr_L g d m_L_isWell 326 [some (.ref 1000), some (.int x1), some (.int x2), some (.int 97), w4, w5, w6, w7] [] h r) : tr_L g d m_L_isWell 323 [some (.ref 1000), some (.int x1), some (.int x2), w3, w4, w5, w6, w7] [] h r := by
  refine tr_bi 97 97 (by decide) rfl ?_
  refine tr_st (.istore_n 3) 1 3 0 (.int 97) rfl rfl rfl rfl rfl rfl rfl ?_
  exact k
set_option maxRecDepth 20000 in
theorem sg_L_isWell_326 {g : tr_g} {d : Nat} {h : ev_AH} {r : ev_O × ev_AH} {x1 x2 x3 : Int32} {w4 w5 w6 w7 : Option Value} (hL : hh_L h) (t : 100 < x3 → tr_L g d m_L_isWell 489 [some (.ref 1000), some (.int x1), some (.int x2), some (.int x3), w4, w5, w6, w7] [] h r) (f : x3 ≤ 100 → tr_L g d m_L_isWell 332 [some (.ref 1000), some (.int x1), some (.int x2), some (.int x3), w4, w5, w6, w7] [] h r) : tr_L g d m_L_isWell 326 [some (.ref 1000), some (.int x1), some (.int x2), some (.int x3), w4, w5, w6, w7] [] h r := by
  refine tr_s (.iload_n 3) 1 327 [some (.ref 1000), some (.int x1), some (.int x2), some (.int x3), w4, w5, w6, w7] [.int x3] h rfl rfl rfl ?_
  refine tr_bi 100 100 (by decide) rfl ?_
  exact tr_if2 .gt 160 489 x3 100 rfl rfl rfl (fun hc => t ((tr_gt hc).1 rfl)) (fun hc => f ((tr_gt hc).2 rfl))
set_option maxRecDepth 20000 in
theorem sg_L_isWell_332 {g : tr_g} {d : Nat} {h : ev_AH} {r : ev_O × ev_AH} {x1 x2 x3 : Int32} {w4 w5 w6 w7 : Option Value} (hL : hh_L h) (k : tr_L g d m_L_isWell 339 [some (.ref 1000), some (.int x1), some (.int x2), some (.int x3), some (.int 1), some (.int 97), w6, w7] [] h r) : tr_L g d m_L_isWell 332 [some (.ref 1000), some (.int x1), some (.int x2), some (.int x3), w4, w5, w6, w7] [] h r := by
  refine tr_ic 1 1 (by decide) rfl ?_
  refine tr_st (.istore 4) 2 4 0 (.int 1) rfl rfl rfl rfl rfl rfl rfl ?_
  refine tr_bi 97 97 (by decide) rfl ?_
  refine tr_st (.istore 5) 2 5 0 (.int 97) rfl rfl rfl rfl rfl rfl rfl ?_
  exact k
set_option maxRecDepth 20000 in
theorem sg_L_isWell_339 {g : tr_g} {d : Nat} {h : ev_AH} {r : ev_O × ev_AH} {x1 x2 x3 x4 x5 : Int32} {w6 w7 : Option Value} (hL : hh_L h) (t : 100 < x5 → tr_L g d m_L_isWell 454 [some (.ref 1000), some (.int x1), some (.int x2), some (.int x3), some (.int x4), some (.int x5), w6, w7] [] h r) (f : x5 ≤ 100 → tr_L g d m_L_isWell 346 [some (.ref 1000), some (.int x1), some (.int x2), some (.int x3), some (.int x4), some (.int x5), w6, w7] [] h r) : tr_L g d m_L_isWell 339 [some (.ref 1000), some (.int x1), some (.int x2), some (.int x3), some (.int x4), some (.int x5), w6, w7] [] h r := by
  refine tr_s (.iload 5) 2 341 [some (.ref 1000), some (.int x1), some (.int x2), some (.int x3), some (.int x4), some (.int x5), w6, w7] [.int x5] h rfl rfl rfl ?_
  refine tr_bi 100 100 (by decide) rfl ?_
  exact tr_if2 .gt 111 454 x5 100 rfl rfl rfl (fun hc => t ((tr_gt hc).1 rfl)) (fun hc => f ((tr_gt hc).2 rfl))
set_option maxRecDepth 20000 in
theorem sg_L_isWell_346 {g : tr_g} {d : Nat} {h : ev_AH} {r : ev_O × ev_AH} {x1 x2 x3 x4 x5 : Int32} {w6 w7 : Option Value} (hL : hh_L h) (t : x3 = x5 → tr_L g d m_L_isWell 444 [some (.ref 1000), some (.int x1), some (.int x2), some (.int x3), some (.int x4), some (.int x5), w6, w7] [] h r) (f : x3 ≠ x5 → tr_L g d m_L_isWell 352 [some (.ref 1000), some (.int x1), some (.int x2), some (.int x3), some (.int x4), some (.int x5), w6, w7] [] h r) : tr_L g d m_L_isWell 346 [some (.ref 1000), some (.int x1), some (.int x2), some (.int x3), some (.int x4), some (.int x5), w6, w7] [] h r := by
  refine tr_s (.iload_n 3) 1 347 [some (.ref 1000), some (.int x1), some (.int x2), some (.int x3), some (.int x4), some (.int x5), w6, w7] [.int x3] h rfl rfl rfl ?_
  refine tr_s (.iload 5) 2 349 [some (.ref 1000), some (.int x1), some (.int x2), some (.int x3), some (.int x4), some (.int x5), w6, w7] [.int x5, .int x3] h rfl rfl rfl ?_
  exact tr_if2 .eq 95 444 x3 x5 rfl rfl rfl (fun hc => t ((tr_eq hc).1 rfl)) (fun hc => f ((tr_eq hc).2 rfl))
set_option maxRecDepth 20000 in
theorem sx_L_isWell_352_365 {g : tr_g} {d : Nat} {h : ev_AH} {r : ev_O × ev_AH} {x1 x2 x3 x4 x5 v0 v1 : Int32} {w6 w7 : Option Value} {h1 h2 hx : ev_AH} {E : Nat} (hL : hh_L h) (c_0 : tr_L g d m_L_likes 0 [some (.ref 1000), some (.int x3), some (.int x5), none, none] [] h (.inl (some (.int v0)), h1)) (cx : tr_L g d m_X8_strengthOf 0 [some (.ref 1000), some (.int x3), some (.int x5)] [] h1 (.inr E, hx)) (hr : r = (.inr E, hx)) : tr_L g (d + 1) m_L_isWell 352 [some (.ref 1000), some (.int x1), some (.int x2), some (.int x3), some (.int x4), some (.int x5), w6, w7] [] h r := by
  refine tr_s (.aload_n 0) 1 353 [some (.ref 1000), some (.int x1), some (.int x2), some (.int x3), some (.int x4), some (.int x5), w6, w7] [.ref 1000] h rfl rfl rfl ?_
  refine tr_s (.iload_n 3) 1 354 [some (.ref 1000), some (.int x1), some (.int x2), some (.int x3), some (.int x4), some (.int x5), w6, w7] [.int x3, .ref 1000] h rfl rfl rfl ?_
  refine tr_s (.iload 5) 2 356 [some (.ref 1000), some (.int x1), some (.int x2), some (.int x3), some (.int x4), some (.int x5), w6, w7] [.int x5, .int x3, .ref 1000] h rfl rfl rfl ?_
  refine tr_call (.invokestatic 251) 251 2 3 0 m_L_likes [.ref 1000, .int x3, .int x5] [] (some (.int v0)) h1 rfl rfl rfl rfl rfl rfl rfl rfl rfl (tr_cok rfl (Or.inl rfl)) c_0 ?_
  have hL0 := c_0.2
  refine tr_st (.istore 6) 2 6 0 (.int v0) rfl rfl rfl rfl rfl rfl rfl ?_
  refine tr_s (.aload_n 0) 1 362 [some (.ref 1000), some (.int x1), some (.int x2), some (.int x3), some (.int x4), some (.int x5), some (.int v0), w7] [.ref 1000] h1 rfl rfl rfl ?_
  refine tr_s (.iload_n 3) 1 363 [some (.ref 1000), some (.int x1), some (.int x2), some (.int x3), some (.int x4), some (.int x5), some (.int v0), w7] [.int x3, .ref 1000] h1 rfl rfl rfl ?_
  refine tr_s (.iload 5) 2 365 [some (.ref 1000), some (.int x1), some (.int x2), some (.int x3), some (.int x4), some (.int x5), some (.int v0), w7] [.int x5, .int x3, .ref 1000] h1 rfl rfl rfl ?_
  exact tr_callx (.invokevirtual 255) 255 0 2 0 m_X8_strengthOf [.ref 1000, .int x3, .int x5] [] E hx rfl rfl rfl rfl rfl rfl rfl rfl rfl (tr_cok rfl (Or.inr ⟨_, _, rfl, tr_rc (hh_rd (hh_obj hL0 (k := 0) rfl).1) (by decide)⟩)) rfl cx hr
set_option maxRecDepth 20000 in
theorem sg_L_isWell_352 {g : tr_g} {d : Nat} {h : ev_AH} {r : ev_O × ev_AH} {x1 x2 x3 x4 x5 v0 v1 : Int32} {w6 w7 : Option Value} {h1 h2 : ev_AH} (hL : hh_L h) (c_0 : tr_L g d m_L_likes 0 [some (.ref 1000), some (.int x3), some (.int x5), none, none] [] h (.inl (some (.int v0)), h1)) (c_1 : tr_L g d m_X8_strengthOf 0 [some (.ref 1000), some (.int x3), some (.int x5)] [] h1 (.inl (some (.int v1)), h2)) (t : (2 * v0) ≤ x2 → tr_L g (d + 1) m_L_isWell 384 [some (.ref 1000), some (.int x1), some (.int x2), some (.int x3), some (.int x4), some (.int x5), some (.int v0), some (.int v1)] [.int x4] h2 r) (f : x2 < (2 * v0) → tr_L g (d + 1) m_L_isWell 380 [some (.ref 1000), some (.int x1), some (.int x2), some (.int x3), some (.int x4), some (.int x5), some (.int v0), some (.int v1)] [.int x4] h2 r) : tr_L g (d + 1) m_L_isWell 352 [some (.ref 1000), some (.int x1), some (.int x2), some (.int x3), some (.int x4), some (.int x5), w6, w7] [] h r := by
  refine tr_s (.aload_n 0) 1 353 [some (.ref 1000), some (.int x1), some (.int x2), some (.int x3), some (.int x4), some (.int x5), w6, w7] [.ref 1000] h rfl rfl rfl ?_
  refine tr_s (.iload_n 3) 1 354 [some (.ref 1000), some (.int x1), some (.int x2), some (.int x3), some (.int x4), some (.int x5), w6, w7] [.int x3, .ref 1000] h rfl rfl rfl ?_
  refine tr_s (.iload 5) 2 356 [some (.ref 1000), some (.int x1), some (.int x2), some (.int x3), some (.int x4), some (.int x5), w6, w7] [.int x5, .int x3, .ref 1000] h rfl rfl rfl ?_
  refine tr_call (.invokestatic 251) 251 2 3 0 m_L_likes [.ref 1000, .int x3, .int x5] [] (some (.int v0)) h1 rfl rfl rfl rfl rfl rfl rfl rfl rfl (tr_cok rfl (Or.inl rfl)) c_0 ?_
  have hL0 := c_0.2
  refine tr_st (.istore 6) 2 6 0 (.int v0) rfl rfl rfl rfl rfl rfl rfl ?_
  refine tr_s (.aload_n 0) 1 362 [some (.ref 1000), some (.int x1), some (.int x2), some (.int x3), some (.int x4), some (.int x5), some (.int v0), w7] [.ref 1000] h1 rfl rfl rfl ?_
  refine tr_s (.iload_n 3) 1 363 [some (.ref 1000), some (.int x1), some (.int x2), some (.int x3), some (.int x4), some (.int x5), some (.int v0), w7] [.int x3, .ref 1000] h1 rfl rfl rfl ?_
  refine tr_s (.iload 5) 2 365 [some (.ref 1000), some (.int x1), some (.int x2), some (.int x3), some (.int x4), some (.int x5), some (.int v0), w7] [.int x5, .int x3, .ref 1000] h1 rfl rfl rfl ?_
  refine tr_call (.invokevirtual 255) 255 0 2 0 m_X8_strengthOf [.ref 1000, .int x3, .int x5] [] (some (.int v1)) h2 rfl rfl rfl rfl rfl rfl rfl rfl rfl (tr_cok rfl (Or.inr ⟨_, _, rfl, tr_rc (hh_rd (hh_obj hL0 (k := 0) rfl).1) (by decide)⟩)) c_1 ?_
  have hL1 := c_1.2
  refine tr_st (.istore 7) 2 7 0 (.int v1) rfl rfl rfl rfl rfl rfl rfl ?_
  refine tr_s (.iload 4) 2 372 [some (.ref 1000), some (.int x1), some (.int x2), some (.int x3), some (.int x4), some (.int x5), some (.int v0), some (.int v1)] [.int x4] h2 rfl rfl rfl ?_
  refine tr_ic 2 2 (by decide) rfl ?_
  refine tr_s (.iload 6) 2 375 [some (.ref 1000), some (.int x1), some (.int x2), some (.int x3), some (.int x4), some (.int x5), some (.int v0), some (.int v1)] [.int v0, .int 2, .int x4] h2 rfl rfl rfl ?_
  refine tr_s .imul 1 376 [some (.ref 1000), some (.int x1), some (.int x2), some (.int x3), some (.int x4), some (.int x5), some (.int v0), some (.int v1)] [.int (2 * v0), .int x4] h2 rfl rfl rfl ?_
  refine tr_s (.iload_n 2) 1 377 [some (.ref 1000), some (.int x1), some (.int x2), some (.int x3), some (.int x4), some (.int x5), some (.int v0), some (.int v1)] [.int x2, .int (2 * v0), .int x4] h2 rfl rfl rfl ?_
  exact tr_if2 .le 7 384 (2 * v0) x2 rfl rfl rfl (fun hc => t ((tr_le hc).1 rfl)) (fun hc => f ((tr_le hc).2 rfl))
set_option maxRecDepth 20000 in
theorem sx_L_isWell_380_392 {g : tr_g} {d : Nat} {h : ev_AH} {r : ev_O × ev_AH} {x1 x2 x3 x5 x6 x7 s0 v0 : Int32} {w4 : Option Value} {h1 hx : ev_AH} {E : Nat} (hL : hh_L h) (cx : tr_L g d m_X8_prefer 0 [some (.ref 1000), some (.int x3), some (.int x5)] [] h (.inr E, hx)) (hr : r = (.inr E, hx)) : tr_L g (d + 1) m_L_isWell 380 [some (.ref 1000), some (.int x1), some (.int x2), some (.int x3), w4, some (.int x5), some (.int x6), some (.int x7)] [.int s0] h r := by
  refine tr_ic 1 1 (by decide) rfl ?_
  refine tr_goto 4 385 rfl rfl rfl ?_
  refine tr_s .iand 1 386 [some (.ref 1000), some (.int x1), some (.int x2), some (.int x3), w4, some (.int x5), some (.int x6), some (.int x7)] [.int (s0 &&& 1)] h rfl rfl rfl ?_
  refine tr_st (.istore 4) 2 4 0 (.int (s0 &&& 1)) rfl rfl rfl rfl rfl rfl rfl ?_
  refine tr_s (.aload_n 0) 1 389 [some (.ref 1000), some (.int x1), some (.int x2), some (.int x3), some (.int (s0 &&& 1)), some (.int x5), some (.int x6), some (.int x7)] [.ref 1000] h rfl rfl rfl ?_
  refine tr_s (.iload_n 3) 1 390 [some (.ref 1000), some (.int x1), some (.int x2), some (.int x3), some (.int (s0 &&& 1)), some (.int x5), some (.int x6), some (.int x7)] [.int x3, .ref 1000] h rfl rfl rfl ?_
  refine tr_s (.iload 5) 2 392 [some (.ref 1000), some (.int x1), some (.int x2), some (.int x3), some (.int (s0 &&& 1)), some (.int x5), some (.int x6), some (.int x7)] [.int x5, .int x3, .ref 1000] h rfl rfl rfl ?_
  exact tr_callx (.invokevirtual 259) 259 0 2 0 m_X8_prefer [.ref 1000, .int x3, .int x5] [] E hx rfl rfl rfl rfl rfl rfl rfl rfl rfl (tr_cok rfl (Or.inr ⟨_, _, rfl, tr_rc (hh_rd (hh_obj hL (k := 0) rfl).1) (by decide)⟩)) rfl cx hr
set_option maxRecDepth 20000 in
theorem sg_L_isWell_380 {g : tr_g} {d : Nat} {h : ev_AH} {r : ev_O × ev_AH} {x1 x2 x3 x5 x6 x7 s0 v0 : Int32} {w4 : Option Value} {h1 : ev_AH} (hL : hh_L h) (c_0 : tr_L g d m_X8_prefer 0 [some (.ref 1000), some (.int x3), some (.int x5)] [] h (.inl (some (.int v0)), h1)) (t : v0 ≠ x6 → tr_L g (d + 1) m_L_isWell 442 [some (.ref 1000), some (.int x1), some (.int x2), some (.int x3), some (.int (s0 &&& 1)), some (.int x5), some (.int x6), some (.int x7)] [] h1 r) (f : v0 = x6 → tr_L g (d + 1) m_L_isWell 400 [some (.ref 1000), some (.int x1), some (.int x2), some (.int x3), some (.int (s0 &&& 1)), some (.int x5), some (.int x6), some (.int x7)] [] h1 r) : tr_L g (d + 1) m_L_isWell 380 [some (.ref 1000), some (.int x1), some (.int x2), some (.int x3), w4, some (.int x5), some (.int x6), some (.int x7)] [.int s0] h r := by
  refine tr_ic 1 1 (by decide) rfl ?_
  refine tr_goto 4 385 rfl rfl rfl ?_
  refine tr_s .iand 1 386 [some (.ref 1000), some (.int x1), some (.int x2), some (.int x3), w4, some (.int x5), some (.int x6), some (.int x7)] [.int (s0 &&& 1)] h rfl rfl rfl ?_
  refine tr_st (.istore 4) 2 4 0 (.int (s0 &&& 1)) rfl rfl rfl rfl rfl rfl rfl ?_
  refine tr_s (.aload_n 0) 1 389 [some (.ref 1000), some (.int x1), some (.int x2), some (.int x3), some (.int (s0 &&& 1)), some (.int x5), some (.int x6), some (.int x7)] [.ref 1000] h rfl rfl rfl ?_
  refine tr_s (.iload_n 3) 1 390 [some (.ref 1000), some (.int x1), some (.int x2), some (.int x3), some (.int (s0 &&& 1)), some (.int x5), some (.int x6), some (.int x7)] [.int x3, .ref 1000] h rfl rfl rfl ?_
  refine tr_s (.iload 5) 2 392 [some (.ref 1000), some (.int x1), some (.int x2), some (.int x3), some (.int (s0 &&& 1)), some (.int x5), some (.int x6), some (.int x7)] [.int x5, .int x3, .ref 1000] h rfl rfl rfl ?_
  refine tr_call (.invokevirtual 259) 259 0 2 0 m_X8_prefer [.ref 1000, .int x3, .int x5] [] (some (.int v0)) h1 rfl rfl rfl rfl rfl rfl rfl rfl rfl (tr_cok rfl (Or.inr ⟨_, _, rfl, tr_rc (hh_rd (hh_obj hL (k := 0) rfl).1) (by decide)⟩)) c_0 ?_
  have hL0 := c_0.2
  refine tr_s (.iload 6) 2 397 [some (.ref 1000), some (.int x1), some (.int x2), some (.int x3), some (.int (s0 &&& 1)), some (.int x5), some (.int x6), some (.int x7)] [.int x6, .int v0] h1 rfl rfl rfl ?_
  exact tr_if2 .ne 45 442 v0 x6 rfl rfl rfl (fun hc => t ((tr_ne hc).1 rfl)) (fun hc => f ((tr_ne hc).2 rfl))
set_option maxRecDepth 20000 in
theorem sx_L_isWell_384_392 {g : tr_g} {d : Nat} {h : ev_AH} {r : ev_O × ev_AH} {x1 x2 x3 x5 x6 x7 s0 v0 : Int32} {w4 : Option Value} {h1 hx : ev_AH} {E : Nat} (hL : hh_L h) (cx : tr_L g d m_X8_prefer 0 [some (.ref 1000), some (.int x3), some (.int x5)] [] h (.inr E, hx)) (hr : r = (.inr E, hx)) : tr_L g (d + 1) m_L_isWell 384 [some (.ref 1000), some (.int x1), some (.int x2), some (.int x3), w4, some (.int x5), some (.int x6), some (.int x7)] [.int s0] h r := by
  refine tr_ic 0 0 (by decide) rfl ?_
  refine tr_s .iand 1 386 [some (.ref 1000), some (.int x1), some (.int x2), some (.int x3), w4, some (.int x5), some (.int x6), some (.int x7)] [.int (s0 &&& 0)] h rfl rfl rfl ?_
  refine tr_st (.istore 4) 2 4 0 (.int (s0 &&& 0)) rfl rfl rfl rfl rfl rfl rfl ?_
  refine tr_s (.aload_n 0) 1 389 [some (.ref 1000), some (.int x1), some (.int x2), some (.int x3), some (.int (s0 &&& 0)), some (.int x5), some (.int x6), some (.int x7)] [.ref 1000] h rfl rfl rfl ?_
  refine tr_s (.iload_n 3) 1 390 [some (.ref 1000), some (.int x1), some (.int x2), some (.int x3), some (.int (s0 &&& 0)), some (.int x5), some (.int x6), some (.int x7)] [.int x3, .ref 1000] h rfl rfl rfl ?_
  refine tr_s (.iload 5) 2 392 [some (.ref 1000), some (.int x1), some (.int x2), some (.int x3), some (.int (s0 &&& 0)), some (.int x5), some (.int x6), some (.int x7)] [.int x5, .int x3, .ref 1000] h rfl rfl rfl ?_
  exact tr_callx (.invokevirtual 259) 259 0 2 0 m_X8_prefer [.ref 1000, .int x3, .int x5] [] E hx rfl rfl rfl rfl rfl rfl rfl rfl rfl (tr_cok rfl (Or.inr ⟨_, _, rfl, tr_rc (hh_rd (hh_obj hL (k := 0) rfl).1) (by decide)⟩)) rfl cx hr
set_option maxRecDepth 20000 in
theorem sg_L_isWell_384 {g : tr_g} {d : Nat} {h : ev_AH} {r : ev_O × ev_AH} {x1 x2 x3 x5 x6 x7 s0 v0 : Int32} {w4 : Option Value} {h1 : ev_AH} (hL : hh_L h) (c_0 : tr_L g d m_X8_prefer 0 [some (.ref 1000), some (.int x3), some (.int x5)] [] h (.inl (some (.int v0)), h1)) (t : v0 ≠ x6 → tr_L g (d + 1) m_L_isWell 442 [some (.ref 1000), some (.int x1), some (.int x2), some (.int x3), some (.int (s0 &&& 0)), some (.int x5), some (.int x6), some (.int x7)] [] h1 r) (f : v0 = x6 → tr_L g (d + 1) m_L_isWell 400 [some (.ref 1000), some (.int x1), some (.int x2), some (.int x3), some (.int (s0 &&& 0)), some (.int x5), some (.int x6), some (.int x7)] [] h1 r) : tr_L g (d + 1) m_L_isWell 384 [some (.ref 1000), some (.int x1), some (.int x2), some (.int x3), w4, some (.int x5), some (.int x6), some (.int x7)] [.int s0] h r := by
  refine tr_ic 0 0 (by decide) rfl ?_
  refine tr_s .iand 1 386 [some (.ref 1000), some (.int x1), some (.int x2), some (.int x3), w4, some (.int x5), some (.int x6), some (.int x7)] [.int (s0 &&& 0)] h rfl rfl rfl ?_
  refine tr_st (.istore 4) 2 4 0 (.int (s0 &&& 0)) rfl rfl rfl rfl rfl rfl rfl ?_
  refine tr_s (.aload_n 0) 1 389 [some (.ref 1000), some (.int x1), some (.int x2), some (.int x3), some (.int (s0 &&& 0)), some (.int x5), some (.int x6), some (.int x7)] [.ref 1000] h rfl rfl rfl ?_
  refine tr_s (.iload_n 3) 1 390 [some (.ref 1000), some (.int x1), some (.int x2), some (.int x3), some (.int (s0 &&& 0)), some (.int x5), some (.int x6), some (.int x7)] [.int x3, .ref 1000] h rfl rfl rfl ?_
  refine tr_s (.iload 5) 2 392 [some (.ref 1000), some (.int x1), some (.int x2), some (.int x3), some (.int (s0 &&& 0)), some (.int x5), some (.int x6), some (.int x7)] [.int x5, .int x3, .ref 1000] h rfl rfl rfl ?_
  refine tr_call (.invokevirtual 259) 259 0 2 0 m_X8_prefer [.ref 1000, .int x3, .int x5] [] (some (.int v0)) h1 rfl rfl rfl rfl rfl rfl rfl rfl rfl (tr_cok rfl (Or.inr ⟨_, _, rfl, tr_rc (hh_rd (hh_obj hL (k := 0) rfl).1) (by decide)⟩)) c_0 ?_
  have hL0 := c_0.2
  refine tr_s (.iload 6) 2 397 [some (.ref 1000), some (.int x1), some (.int x2), some (.int x3), some (.int (s0 &&& 0)), some (.int x5), some (.int x6), some (.int x7)] [.int x6, .int v0] h1 rfl rfl rfl ?_
  exact tr_if2 .ne 45 442 v0 x6 rfl rfl rfl (fun hc => t ((tr_ne hc).1 rfl)) (fun hc => f ((tr_ne hc).2 rfl))
set_option maxRecDepth 20000 in
theorem sx_L_isWell_400_406 {g : tr_g} {d : Nat} {h : ev_AH} {r : ev_O × ev_AH} {x1 x2 x3 x4 x5 x6 x7 v0 : Int32} {h1 hx : ev_AH} {E : Nat} (hL : hh_L h) (cx : tr_L g d m_X8_prefer 0 [some (.ref 1000), some (.int x5), some (.int x3)] [] h (.inr E, hx)) (hr : r = (.inr E, hx)) : tr_L g (d + 1) m_L_isWell 400 [some (.ref 1000), some (.int x1), some (.int x2), some (.int x3), some (.int x4), some (.int x5), some (.int x6), some (.int x7)] [] h r := by
  refine tr_s (.iload 6) 2 402 [some (.ref 1000), some (.int x1), some (.int x2), some (.int x3), some (.int x4), some (.int x5), some (.int x6), some (.int x7)] [.int x6] h rfl rfl rfl ?_
  refine tr_s (.aload_n 0) 1 403 [some (.ref 1000), some (.int x1), some (.int x2), some (.int x3), some (.int x4), some (.int x5), some (.int x6), some (.int x7)] [.ref 1000, .int x6] h rfl rfl rfl ?_
  refine tr_s (.iload 5) 2 405 [some (.ref 1000), some (.int x1), some (.int x2), some (.int x3), some (.int x4), some (.int x5), some (.int x6), some (.int x7)] [.int x5, .ref 1000, .int x6] h rfl rfl rfl ?_
  refine tr_s (.iload_n 3) 1 406 [some (.ref 1000), some (.int x1), some (.int x2), some (.int x3), some (.int x4), some (.int x5), some (.int x6), some (.int x7)] [.int x3, .int x5, .ref 1000, .int x6] h rfl rfl rfl ?_
  exact tr_callx (.invokevirtual 259) 259 0 2 0 m_X8_prefer [.ref 1000, .int x5, .int x3] [.int x6] E hx rfl rfl rfl rfl rfl rfl rfl rfl rfl (tr_cok rfl (Or.inr ⟨_, _, rfl, tr_rc (hh_rd (hh_obj hL (k := 0) rfl).1) (by decide)⟩)) rfl cx hr
set_option maxRecDepth 20000 in
theorem sg_L_isWell_400 {g : tr_g} {d : Nat} {h : ev_AH} {r : ev_O × ev_AH} {x1 x2 x3 x4 x5 x6 x7 v0 : Int32} {h1 : ev_AH} (hL : hh_L h) (c_0 : tr_L g d m_X8_prefer 0 [some (.ref 1000), some (.int x5), some (.int x3)] [] h (.inl (some (.int v0)), h1)) (t : (x6 + v0) ≠ x2 → tr_L g (d + 1) m_L_isWell 442 [some (.ref 1000), some (.int x1), some (.int x2), some (.int x3), some (.int x4), some (.int x5), some (.int x6), some (.int x7)] [] h1 r) (f : (x6 + v0) = x2 → tr_L g (d + 1) m_L_isWell 414 [some (.ref 1000), some (.int x1), some (.int x2), some (.int x3), some (.int x4), some (.int x5), some (.int x6), some (.int x7)] [] h1 r) : tr_L g (d + 1) m_L_isWell 400 [some (.ref 1000), some (.int x1), some (.int x2), some (.int x3), some (.int x4), some (.int x5), some (.int x6), some (.int x7)] [] h r := by
  refine tr_s (.iload 6) 2 402 [some (.ref 1000), some (.int x1), some (.int x2), some (.int x3), some (.int x4), some (.int x5), some (.int x6), some (.int x7)] [.int x6] h rfl rfl rfl ?_
  refine tr_s (.aload_n 0) 1 403 [some (.ref 1000), some (.int x1), some (.int x2), some (.int x3), some (.int x4), some (.int x5), some (.int x6), some (.int x7)] [.ref 1000, .int x6] h rfl rfl rfl ?_
  refine tr_s (.iload 5) 2 405 [some (.ref 1000), some (.int x1), some (.int x2), some (.int x3), some (.int x4), some (.int x5), some (.int x6), some (.int x7)] [.int x5, .ref 1000, .int x6] h rfl rfl rfl ?_
  refine tr_s (.iload_n 3) 1 406 [some (.ref 1000), some (.int x1), some (.int x2), some (.int x3), some (.int x4), some (.int x5), some (.int x6), some (.int x7)] [.int x3, .int x5, .ref 1000, .int x6] h rfl rfl rfl ?_
  refine tr_call (.invokevirtual 259) 259 0 2 0 m_X8_prefer [.ref 1000, .int x5, .int x3] [.int x6] (some (.int v0)) h1 rfl rfl rfl rfl rfl rfl rfl rfl rfl (tr_cok rfl (Or.inr ⟨_, _, rfl, tr_rc (hh_rd (hh_obj hL (k := 0) rfl).1) (by decide)⟩)) c_0 ?_
  have hL0 := c_0.2
  refine tr_s .iadd 1 410 [some (.ref 1000), some (.int x1), some (.int x2), some (.int x3), some (.int x4), some (.int x5), some (.int x6), some (.int x7)] [.int (x6 + v0)] h1 rfl rfl rfl ?_
  refine tr_s (.iload_n 2) 1 411 [some (.ref 1000), some (.int x1), some (.int x2), some (.int x3), some (.int x4), some (.int x5), some (.int x6), some (.int x7)] [.int x2, .int (x6 + v0)] h1 rfl rfl rfl ?_
  exact tr_if2 .ne 31 442 (x6 + v0) x2 rfl rfl rfl (fun hc => t ((tr_ne hc).1 rfl)) (fun hc => f ((tr_ne hc).2 rfl))
set_option maxRecDepth 20000 in
theorem sx_L_isWell_414_420 {g : tr_g} {d : Nat} {h : ev_AH} {r : ev_O × ev_AH} {x1 x2 x3 x4 x5 x6 x7 v0 : Int32} {h1 hx : ev_AH} {E : Nat} (hL : hh_L h) (cx : tr_L g d m_X8_strengthByTrying 0 [some (.ref 1000), some (.int x3), some (.int x5)] [] h (.inr E, hx)) (hr : r = (.inr E, hx)) : tr_L g (d + 1) m_L_isWell 414 [some (.ref 1000), some (.int x1), some (.int x2), some (.int x3), some (.int x4), some (.int x5), some (.int x6), some (.int x7)] [] h r := by
  refine tr_s (.iload 7) 2 416 [some (.ref 1000), some (.int x1), some (.int x2), some (.int x3), some (.int x4), some (.int x5), some (.int x6), some (.int x7)] [.int x7] h rfl rfl rfl ?_
  refine tr_s (.aload_n 0) 1 417 [some (.ref 1000), some (.int x1), some (.int x2), some (.int x3), some (.int x4), some (.int x5), some (.int x6), some (.int x7)] [.ref 1000, .int x7] h rfl rfl rfl ?_
  refine tr_s (.iload_n 3) 1 418 [some (.ref 1000), some (.int x1), some (.int x2), some (.int x3), some (.int x4), some (.int x5), some (.int x6), some (.int x7)] [.int x3, .ref 1000, .int x7] h rfl rfl rfl ?_
  refine tr_s (.iload 5) 2 420 [some (.ref 1000), some (.int x1), some (.int x2), some (.int x3), some (.int x4), some (.int x5), some (.int x6), some (.int x7)] [.int x5, .int x3, .ref 1000, .int x7] h rfl rfl rfl ?_
  exact tr_callx (.invokevirtual 262) 262 0 2 0 m_X8_strengthByTrying [.ref 1000, .int x3, .int x5] [.int x7] E hx rfl rfl rfl rfl rfl rfl rfl rfl rfl (tr_cok rfl (Or.inr ⟨_, _, rfl, tr_rc (hh_rd (hh_obj hL (k := 0) rfl).1) (by decide)⟩)) rfl cx hr
set_option maxRecDepth 20000 in
theorem sg_L_isWell_414 {g : tr_g} {d : Nat} {h : ev_AH} {r : ev_O × ev_AH} {x1 x2 x3 x4 x5 x6 x7 v0 : Int32} {h1 : ev_AH} (hL : hh_L h) (c_0 : tr_L g d m_X8_strengthByTrying 0 [some (.ref 1000), some (.int x3), some (.int x5)] [] h (.inl (some (.int v0)), h1)) (t : x7 ≠ v0 → tr_L g (d + 1) m_L_isWell 442 [some (.ref 1000), some (.int x1), some (.int x2), some (.int x3), some (.int x4), some (.int x5), some (.int x6), some (.int x7)] [] h1 r) (f : x7 = v0 → tr_L g (d + 1) m_L_isWell 426 [some (.ref 1000), some (.int x1), some (.int x2), some (.int x3), some (.int x4), some (.int x5), some (.int x6), some (.int x7)] [] h1 r) : tr_L g (d + 1) m_L_isWell 414 [some (.ref 1000), some (.int x1), some (.int x2), some (.int x3), some (.int x4), some (.int x5), some (.int x6), some (.int x7)] [] h r := by
  refine tr_s (.iload 7) 2 416 [some (.ref 1000), some (.int x1), some (.int x2), some (.int x3), some (.int x4), some (.int x5), some (.int x6), some (.int x7)] [.int x7] h rfl rfl rfl ?_
  refine tr_s (.aload_n 0) 1 417 [some (.ref 1000), some (.int x1), some (.int x2), some (.int x3), some (.int x4), some (.int x5), some (.int x6), some (.int x7)] [.ref 1000, .int x7] h rfl rfl rfl ?_
  refine tr_s (.iload_n 3) 1 418 [some (.ref 1000), some (.int x1), some (.int x2), some (.int x3), some (.int x4), some (.int x5), some (.int x6), some (.int x7)] [.int x3, .ref 1000, .int x7] h rfl rfl rfl ?_
  refine tr_s (.iload 5) 2 420 [some (.ref 1000), some (.int x1), some (.int x2), some (.int x3), some (.int x4), some (.int x5), some (.int x6), some (.int x7)] [.int x5, .int x3, .ref 1000, .int x7] h rfl rfl rfl ?_
  refine tr_call (.invokevirtual 262) 262 0 2 0 m_X8_strengthByTrying [.ref 1000, .int x3, .int x5] [.int x7] (some (.int v0)) h1 rfl rfl rfl rfl rfl rfl rfl rfl rfl (tr_cok rfl (Or.inr ⟨_, _, rfl, tr_rc (hh_rd (hh_obj hL (k := 0) rfl).1) (by decide)⟩)) c_0 ?_
  have hL0 := c_0.2
  exact tr_if2 .ne 19 442 x7 v0 rfl rfl rfl (fun hc => t ((tr_ne hc).1 rfl)) (fun hc => f ((tr_ne hc).2 rfl))
set_option maxRecDepth 20000 in
theorem sg_L_isWell_426 {g : tr_g} {d : Nat} {h : ev_AH} {r : ev_O × ev_AH} {x1 x2 x3 x4 x5 x6 x7 : Int32} (hL : hh_L h) (t : x6 ≤ (x2 - x6) → tr_L g d m_L_isWell 444 [some (.ref 1000), some (.int x1), some (.int x2), some (.int x3), some (.int x4), some (.int x5), some (.int x6), some (.int x7)] [] h r) (f : (x2 - x6) < x6 → tr_L g d m_L_isWell 435 [some (.ref 1000), some (.int x1), some (.int x2), some (.int x3), some (.int x4), some (.int x5), some (.int x6), some (.int x7)] [] h r) : tr_L g d m_L_isWell 426 [some (.ref 1000), some (.int x1), some (.int x2), some (.int x3), some (.int x4), some (.int x5), some (.int x6), some (.int x7)] [] h r := by
  refine tr_s (.iload 6) 2 428 [some (.ref 1000), some (.int x1), some (.int x2), some (.int x3), some (.int x4), some (.int x5), some (.int x6), some (.int x7)] [.int x6] h rfl rfl rfl ?_
  refine tr_s (.iload_n 2) 1 429 [some (.ref 1000), some (.int x1), some (.int x2), some (.int x3), some (.int x4), some (.int x5), some (.int x6), some (.int x7)] [.int x2, .int x6] h rfl rfl rfl ?_
  refine tr_s (.iload 6) 2 431 [some (.ref 1000), some (.int x1), some (.int x2), some (.int x3), some (.int x4), some (.int x5), some (.int x6), some (.int x7)] [.int x6, .int x2, .int x6] h rfl rfl rfl ?_
  refine tr_s .isub 1 432 [some (.ref 1000), some (.int x1), some (.int x2), some (.int x3), some (.int x4), some (.int x5), some (.int x6), some (.int x7)] [.int (x2 - x6), .int x6] h rfl rfl rfl ?_
  exact tr_if2 .le 12 444 x6 (x2 - x6) rfl rfl rfl (fun hc => t ((tr_le hc).1 rfl)) (fun hc => f ((tr_le hc).2 rfl))
set_option maxRecDepth 20000 in
theorem sg_L_isWell_435 {g : tr_g} {d : Nat} {h : ev_AH} {r : ev_O × ev_AH} {x1 x2 x3 x4 x5 x6 x7 : Int32} (hL : hh_L h) (t : x6 ≤ x7 → tr_L g d m_L_isWell 444 [some (.ref 1000), some (.int x1), some (.int x2), some (.int x3), some (.int x4), some (.int x5), some (.int x6), some (.int x7)] [] h r) (f : x7 < x6 → tr_L g d m_L_isWell 442 [some (.ref 1000), some (.int x1), some (.int x2), some (.int x3), some (.int x4), some (.int x5), some (.int x6), some (.int x7)] [] h r) : tr_L g d m_L_isWell 435 [some (.ref 1000), some (.int x1), some (.int x2), some (.int x3), some (.int x4), some (.int x5), some (.int x6), some (.int x7)] [] h r := by
  refine tr_s (.iload 7) 2 437 [some (.ref 1000), some (.int x1), some (.int x2), some (.int x3), some (.int x4), some (.int x5), some (.int x6), some (.int x7)] [.int x7] h rfl rfl rfl ?_
  refine tr_s (.iload 6) 2 439 [some (.ref 1000), some (.int x1), some (.int x2), some (.int x3), some (.int x4), some (.int x5), some (.int x6), some (.int x7)] [.int x6, .int x7] h rfl rfl rfl ?_
  exact tr_if2 .ge 5 444 x7 x6 rfl rfl rfl (fun hc => t ((tr_ge hc).1 rfl)) (fun hc => f ((tr_ge hc).2 rfl))
set_option maxRecDepth 20000 in
theorem sg_L_isWell_442 {g : tr_g} {d : Nat} {h : ev_AH} {r : ev_O × ev_AH} {w0 w1 w2 w3 w4 w5 w6 w7 : Option Value} (hL : hh_L h) (hr : r = (.inl (some (.int 0)), h)) : tr_L g d m_L_isWell 442 [w0, w1, w2, w3, w4, w5, w6, w7] [] h r := by
  refine tr_ic 0 0 (by decide) rfl ?_
  exact tl_ret hL .ireturn 1 (some (.int 0)) rfl rfl rfl rfl hr
set_option maxRecDepth 20000 in
theorem sg_L_isWell_444 {g : tr_g} {d : Nat} {h : ev_AH} {r : ev_O × ev_AH} {x1 x2 x3 x4 x5 : Int32} {w6 w7 : Option Value} (hL : hh_L h) (k : tr_L g d m_L_isWell 339 [some (.ref 1000), some (.int x1), some (.int x2), some (.int x3), some (.int x4), some (.int (((x5 + 1).toUInt32 % 65536).toInt32)), w6, w7] [] h r) : tr_L g d m_L_isWell 444 [some (.ref 1000), some (.int x1), some (.int x2), some (.int x3), some (.int x4), some (.int x5), w6, w7] [] h r := by
  refine tr_s (.iload 5) 2 446 [some (.ref 1000), some (.int x1), some (.int x2), some (.int x3), some (.int x4), some (.int x5), w6, w7] [.int x5] h rfl rfl rfl ?_
  refine tr_ic 1 1 (by decide) rfl ?_
  refine tr_s .iadd 1 448 [some (.ref 1000), some (.int x1), some (.int x2), some (.int x3), some (.int x4), some (.int x5), w6, w7] [.int (x5 + 1)] h rfl rfl rfl ?_
  refine tr_s .i2c 1 449 [some (.ref 1000), some (.int x1), some (.int x2), some (.int x3), some (.int x4), some (.int x5), w6, w7] [.int (((x5 + 1).toUInt32 % 65536).toInt32)] h rfl rfl rfl ?_
  refine tr_st (.istore 5) 2 5 0 (.int (((x5 + 1).toUInt32 % 65536).toInt32)) rfl rfl rfl rfl rfl rfl rfl ?_
  refine tr_goto (-112) 339 rfl rfl rfl ?_
  exact k
set_option maxRecDepth 20000 in
theorem sx_L_isWell_454_456 {g : tr_g} {d : Nat} {h : ev_AH} {r : ev_O × ev_AH} {x1 x2 x3 x4 v0 : Int32} {w5 w6 w7 : Option Value} {h1 hx : ev_AH} {E : Nat} (hL : hh_L h) (cx : tr_L g d m_X8_isDominant 0 [some (.ref 1000), some (.int x3)] [] h (.inr E, hx)) (hr : r = (.inr E, hx)) : tr_L g (d + 1) m_L_isWell 454 [some (.ref 1000), some (.int x1), some (.int x2), some (.int x3), some (.int x4), w5, w6, w7] [] h r := by
  refine tr_s (.aload_n 0) 1 455 [some (.ref 1000), some (.int x1), some (.int x2), some (.int x3), some (.int x4), w5, w6, w7] [.ref 1000] h rfl rfl rfl ?_
  refine tr_s (.iload_n 3) 1 456 [some (.ref 1000), some (.int x1), some (.int x2), some (.int x3), some (.int x4), w5, w6, w7] [.int x3, .ref 1000] h rfl rfl rfl ?_
  exact tr_callx (.invokevirtual 265) 265 0 1 0 m_X8_isDominant [.ref 1000, .int x3] [] E hx rfl rfl rfl rfl rfl rfl rfl rfl rfl (tr_cok rfl (Or.inr ⟨_, _, rfl, tr_rc (hh_rd (hh_obj hL (k := 0) rfl).1) (by decide)⟩)) rfl cx hr
set_option maxRecDepth 20000 in
theorem sg_L_isWell_454 {g : tr_g} {d : Nat} {h : ev_AH} {r : ev_O × ev_AH} {x1 x2 x3 x4 v0 : Int32} {w5 w6 w7 : Option Value} {h1 : ev_AH} (hL : hh_L h) (c_0 : tr_L g d m_X8_isDominant 0 [some (.ref 1000), some (.int x3)] [] h (.inl (some (.int v0)), h1)) (t : v0 ≠ x4 → tr_L g (d + 1) m_L_isWell 479 [some (.ref 1000), some (.int x1), some (.int x2), some (.int x3), some (.int x4), w5, w6, w7] [] h1 r) (f : v0 = x4 → tr_L g (d + 1) m_L_isWell 464 [some (.ref 1000), some (.int x1), some (.int x2), some (.int x3), some (.int x4), w5, w6, w7] [] h1 r) : tr_L g (d + 1) m_L_isWell 454 [some (.ref 1000), some (.int x1), some (.int x2), some (.int x3), some (.int x4), w5, w6, w7] [] h r := by
  refine tr_s (.aload_n 0) 1 455 [some (.ref 1000), some (.int x1), some (.int x2), some (.int x3), some (.int x4), w5, w6, w7] [.ref 1000] h rfl rfl rfl ?_
  refine tr_s (.iload_n 3) 1 456 [some (.ref 1000), some (.int x1), some (.int x2), some (.int x3), some (.int x4), w5, w6, w7] [.int x3, .ref 1000] h rfl rfl rfl ?_
  refine tr_call (.invokevirtual 265) 265 0 1 0 m_X8_isDominant [.ref 1000, .int x3] [] (some (.int v0)) h1 rfl rfl rfl rfl rfl rfl rfl rfl rfl (tr_cok rfl (Or.inr ⟨_, _, rfl, tr_rc (hh_rd (hh_obj hL (k := 0) rfl).1) (by decide)⟩)) c_0 ?_
  have hL0 := c_0.2
  refine tr_s (.iload 4) 2 461 [some (.ref 1000), some (.int x1), some (.int x2), some (.int x3), some (.int x4), w5, w6, w7] [.int x4, .int v0] h1 rfl rfl rfl ?_
  exact tr_if2 .ne 18 479 v0 x4 rfl rfl rfl (fun hc => t ((tr_ne hc).1 rfl)) (fun hc => f ((tr_ne hc).2 rfl))
set_option maxRecDepth 20000 in
theorem sg_L_isWell_464 {g : tr_g} {d : Nat} {h : ev_AH} {r : ev_O × ev_AH} {x1 x2 x3 x4 : Int32} {w5 w6 w7 : Option Value} (hL : hh_L h) (t : x4 = 0 → tr_L g d m_L_isWell 481 [some (.ref 1000), some (.int x1), some (.int x2), some (.int x3), some (.int x4), w5, w6, w7] [] h r) (f : x4 ≠ 0 → tr_L g d m_L_isWell 469 [some (.ref 1000), some (.int x1), some (.int x2), some (.int x3), some (.int x4), w5, w6, w7] [] h r) : tr_L g d m_L_isWell 464 [some (.ref 1000), some (.int x1), some (.int x2), some (.int x3), some (.int x4), w5, w6, w7] [] h r := by
  refine tr_s (.iload 4) 2 466 [some (.ref 1000), some (.int x1), some (.int x2), some (.int x3), some (.int x4), w5, w6, w7] [.int x4] h rfl rfl rfl ?_
  exact tr_if1 .eq 15 481 x4 rfl rfl rfl (fun hc => t ((tr_eq hc).1 rfl)) (fun hc => f ((tr_eq hc).2 rfl))
set_option maxRecDepth 20000 in
theorem sg_L_isWell_469 {g : tr_g} {d : Nat} {h : ev_AH} {r : ev_O × ev_AH} {x1 x2 x3 v0 : Int32} {w4 w5 w6 w7 : Option Value} {h1 : ev_AH} (hL : hh_L h) (c_0 : tr_L g d m_L_winner 0 [some (.ref 1000), some (.int 115), none] [] h (.inl (some (.int v0)), h1)) (t : v0 = x3 → tr_L g (d + 1) m_L_isWell 481 [some (.ref 1000), some (.int x1), some (.int x2), some (.int x3), w4, w5, w6, w7] [] h1 r) (f : v0 ≠ x3 → tr_L g (d + 1) m_L_isWell 479 [some (.ref 1000), some (.int x1), some (.int x2), some (.int x3), w4, w5, w6, w7] [] h1 r) : tr_L g (d + 1) m_L_isWell 469 [some (.ref 1000), some (.int x1), some (.int x2), some (.int x3), w4, w5, w6, w7] [] h r := by
  refine tr_s (.aload_n 0) 1 470 [some (.ref 1000), some (.int x1), some (.int x2), some (.int x3), w4, w5, w6, w7] [.ref 1000] h rfl rfl rfl ?_
  refine tr_bi 115 115 (by decide) rfl ?_
  refine tr_call (.invokestatic 269) 269 8 2 0 m_L_winner [.ref 1000, .int 115] [] (some (.int v0)) h1 rfl rfl rfl rfl rfl rfl rfl rfl rfl (tr_cok rfl (Or.inl rfl)) c_0 ?_
  have hL0 := c_0.2
  refine tr_s (.iload_n 3) 1 476 [some (.ref 1000), some (.int x1), some (.int x2), some (.int x3), w4, w5, w6, w7] [.int x3, .int v0] h1 rfl rfl rfl ?_
  exact tr_if2 .eq 5 481 v0 x3 rfl rfl rfl (fun hc => t ((tr_eq hc).1 rfl)) (fun hc => f ((tr_eq hc).2 rfl))
set_option maxRecDepth 20000 in
theorem sg_L_isWell_479 {g : tr_g} {d : Nat} {h : ev_AH} {r : ev_O × ev_AH} {w0 w1 w2 w3 w4 w5 w6 w7 : Option Value} (hL : hh_L h) (hr : r = (.inl (some (.int 0)), h)) : tr_L g d m_L_isWell 479 [w0, w1, w2, w3, w4, w5, w6, w7] [] h r := by
  refine tr_ic 0 0 (by decide) rfl ?_
  exact tl_ret hL .ireturn 1 (some (.int 0)) rfl rfl rfl rfl hr
set_option maxRecDepth 20000 in
theorem sg_L_isWell_481 {g : tr_g} {d : Nat} {h : ev_AH} {r : ev_O × ev_AH} {x1 x2 x3 : Int32} {w4 w5 w6 w7 : Option Value} (hL : hh_L h) (k : tr_L g d m_L_isWell 326 [some (.ref 1000), some (.int x1), some (.int x2), some (.int (((x3 + 1).toUInt32 % 65536).toInt32)), w4, w5, w6, w7] [] h r) : tr_L g d m_L_isWell 481 [some (.ref 1000), some (.int x1), some (.int x2), some (.int x3), w4, w5, w6, w7] [] h r := by
  refine tr_s (.iload_n 3) 1 482 [some (.ref 1000), some (.int x1), some (.int x2), some (.int x3), w4, w5, w6, w7] [.int x3] h rfl rfl rfl ?_
  refine tr_ic 1 1 (by decide) rfl ?_
  refine tr_s .iadd 1 484 [some (.ref 1000), some (.int x1), some (.int x2), some (.int x3), w4, w5, w6, w7] [.int (x3 + 1)] h rfl rfl rfl ?_
  refine tr_s .i2c 1 485 [some (.ref 1000), some (.int x1), some (.int x2), some (.int x3), w4, w5, w6, w7] [.int (((x3 + 1).toUInt32 % 65536).toInt32)] h rfl rfl rfl ?_
  refine tr_st (.istore_n 3) 1 3 0 (.int (((x3 + 1).toUInt32 % 65536).toInt32)) rfl rfl rfl rfl rfl rfl rfl ?_
  refine tr_goto (-160) 326 rfl rfl rfl ?_
  exact k
set_option maxRecDepth 20000 in
theorem sg_L_isWell_489 {g : tr_g} {d : Nat} {h : ev_AH} {r : ev_O × ev_AH} {x1 v0 : Int32} {w2 w3 w4 w5 w6 w7 : Option Value} {h1 : ev_AH} (hL : hh_L h) (c_0 : tr_L g d m_X8_testimonies 0 [some (.ref 1000)] [] h (.inl (some (.int v0)), h1)) (t : x1 ≠ v0 → tr_L g (d + 1) m_L_isWell 508 [some (.ref 1000), some (.int x1), w2, w3, w4, w5, w6, w7] [] h1 r) (f : x1 = v0 → tr_L g (d + 1) m_L_isWell 497 [some (.ref 1000), some (.int x1), w2, w3, w4, w5, w6, w7] [] h1 r) : tr_L g (d + 1) m_L_isWell 489 [some (.ref 1000), some (.int x1), w2, w3, w4, w5, w6, w7] [] h r := by
  refine tr_s (.iload_n 1) 1 490 [some (.ref 1000), some (.int x1), w2, w3, w4, w5, w6, w7] [.int x1] h rfl rfl rfl ?_
  refine tr_s (.aload_n 0) 1 491 [some (.ref 1000), some (.int x1), w2, w3, w4, w5, w6, w7] [.ref 1000, .int x1] h rfl rfl rfl ?_
  refine tr_call (.invokevirtual 207) 207 0 0 0 m_X8_testimonies [.ref 1000] [.int x1] (some (.int v0)) h1 rfl rfl rfl rfl rfl rfl rfl rfl rfl (tr_cok rfl (Or.inr ⟨_, _, rfl, tr_rc (hh_rd (hh_obj hL (k := 0) rfl).1) (by decide)⟩)) c_0 ?_
  have hL0 := c_0.2
  exact tr_if2 .ne 14 508 x1 v0 rfl rfl rfl (fun hc => t ((tr_ne hc).1 rfl)) (fun hc => f ((tr_ne hc).2 rfl))
set_option maxRecDepth 20000 in
theorem sg_L_isWell_497 {g : tr_g} {d : Nat} {h : ev_AH} {r : ev_O × ev_AH} {w1 w2 w3 w4 w5 w6 w7 : Option Value} {h1 : ev_AH} {v0 : Int32} (hL : hh_L h) (c_0 : tr_L g d m_X8_isConsistent 0 [some (.ref 1000)] [] h (.inl (some (.int v0)), h1)) (t : v0 = 0 → tr_L g (d + 1) m_L_isWell 508 [some (.ref 1000), w1, w2, w3, w4, w5, w6, w7] [] h1 r) (f : v0 ≠ 0 → tr_L g (d + 1) m_L_isWell 504 [some (.ref 1000), w1, w2, w3, w4, w5, w6, w7] [] h1 r) : tr_L g (d + 1) m_L_isWell 497 [some (.ref 1000), w1, w2, w3, w4, w5, w6, w7] [] h r := by
  refine tr_s (.aload_n 0) 1 498 [some (.ref 1000), w1, w2, w3, w4, w5, w6, w7] [.ref 1000] h rfl rfl rfl ?_
  refine tr_call (.invokevirtual 272) 272 0 0 0 m_X8_isConsistent [.ref 1000] [] (some (.int v0)) h1 rfl rfl rfl rfl rfl rfl rfl rfl rfl (tr_cok rfl (Or.inr ⟨_, _, rfl, tr_rc (hh_rd (hh_obj hL (k := 0) rfl).1) (by decide)⟩)) c_0 ?_
  have hL0 := c_0.2
  exact tr_if1 .eq 7 508 v0 rfl rfl rfl (fun hc => t ((tr_eq hc).1 rfl)) (fun hc => f ((tr_eq hc).2 rfl))
set_option maxRecDepth 20000 in
theorem sg_L_isWell_504 {g : tr_g} {d : Nat} {h : ev_AH} {r : ev_O × ev_AH} {w0 w1 w2 w3 w4 w5 w6 w7 : Option Value} (hL : hh_L h) (hr : r = (.inl (some (.int 1)), h)) : tr_L g d m_L_isWell 504 [w0, w1, w2, w3, w4, w5, w6, w7] [] h r := by
  refine tr_ic 1 1 (by decide) rfl ?_
  refine tr_goto 4 509 rfl rfl rfl ?_
  exact tl_ret hL .ireturn 1 (some (.int 1)) rfl rfl rfl rfl hr
set_option maxRecDepth 20000 in
theorem sg_L_isWell_508 {g : tr_g} {d : Nat} {h : ev_AH} {r : ev_O × ev_AH} {w0 w1 w2 w3 w4 w5 w6 w7 : Option Value} (hL : hh_L h) (hr : r = (.inl (some (.int 0)), h)) : tr_L g d m_L_isWell 508 [w0, w1, w2, w3, w4, w5, w6, w7] [] h r := by
  refine tr_ic 0 0 (by decide) rfl ?_
  exact tl_ret hL .ireturn 1 (some (.int 0)) rfl rfl rfl rfl hr
theorem sx_L_catIn_0_2_0 {g : tr_g} {d : Nat} {h : ev_AH} {r : ev_O × ev_AH} {x1 v0 : Int32} {h1 hx : ev_AH} (hL : hh_L h) (cx : tr_L g d m_X8_catIn 0 [some (.ref 1000), some (.int x1), none] [] h (.inr 0, hx)) (hr : r = (.inl (some (.int (-900001))), hx)) : tr_L g (d + 1) m_L_catIn 0 [some (.ref 1000), some (.int x1), none] [] h r := by
  refine tr_s (.aload_n 0) 1 1 [some (.ref 1000), some (.int x1), none] [.ref 1000] h rfl rfl rfl ?_
  refine tr_s (.iload_n 1) 1 2 [some (.ref 1000), some (.int x1), none] [.int x1, .ref 1000] h rfl rfl rfl ?_
  refine tr_callh (.invokevirtual 28) 28 0 1 0 m_X8_catIn [.ref 1000, .int x1] [] 0 7 2 hx rfl rfl rfl rfl rfl rfl rfl rfl rfl (tr_cok rfl (Or.inr ⟨_, _, rfl, tr_rc (hh_rd (hh_obj hL (k := 0) rfl).1) (by decide)⟩)) rfl rfl cx ?_
  refine tr_s (.ldc 17) 2 9 _ [.int (-900001)] hx rfl rfl rfl ?_
  exact tl_ret cx.2 .ireturn 1 (some (.int (-900001))) rfl rfl rfl rfl hr
theorem sx_L_catIn_0_2_3 {g : tr_g} {d : Nat} {h : ev_AH} {r : ev_O × ev_AH} {x1 v0 : Int32} {h1 hx : ev_AH} (hL : hh_L h) (cx : tr_L g d m_X8_catIn 0 [some (.ref 1000), some (.int x1), none] [] h (.inr 3, hx)) (hr : r = (.inl (some (.int (-900002))), hx)) : tr_L g (d + 1) m_L_catIn 0 [some (.ref 1000), some (.int x1), none] [] h r := by
  refine tr_s (.aload_n 0) 1 1 [some (.ref 1000), some (.int x1), none] [.ref 1000] h rfl rfl rfl ?_
  refine tr_s (.iload_n 1) 1 2 [some (.ref 1000), some (.int x1), none] [.int x1, .ref 1000] h rfl rfl rfl ?_
  refine tr_callh (.invokevirtual 28) 28 0 1 0 m_X8_catIn [.ref 1000, .int x1] [] 3 11 2 hx rfl rfl rfl rfl rfl rfl rfl rfl rfl (tr_cok rfl (Or.inr ⟨_, _, rfl, tr_rc (hh_rd (hh_obj hL (k := 0) rfl).1) (by decide)⟩)) rfl rfl cx ?_
  refine tr_s (.ldc 20) 2 13 _ [.int (-900002)] hx rfl rfl rfl ?_
  exact tl_ret cx.2 .ireturn 1 (some (.int (-900002))) rfl rfl rfl rfl hr
theorem sg_L_catIn_0 {g : tr_g} {d : Nat} {h : ev_AH} {r : ev_O × ev_AH} {x1 v0 : Int32} {h1 : ev_AH} (hL : hh_L h) (c_0 : tr_L g d m_X8_catIn 0 [some (.ref 1000), some (.int x1), none] [] h (.inl (some (.int v0)), h1)) (hr : r = (.inl (some (.int v0)), h1)) : tr_L g (d + 1) m_L_catIn 0 [some (.ref 1000), some (.int x1), none] [] h r := by
  refine tr_s (.aload_n 0) 1 1 [some (.ref 1000), some (.int x1), none] [.ref 1000] h rfl rfl rfl ?_
  refine tr_s (.iload_n 1) 1 2 [some (.ref 1000), some (.int x1), none] [.int x1, .ref 1000] h rfl rfl rfl ?_
  refine tr_call (.invokevirtual 28) 28 0 1 0 m_X8_catIn [.ref 1000, .int x1] [] (some (.int v0)) h1 rfl rfl rfl rfl rfl rfl rfl rfl rfl (tr_cok rfl (Or.inr ⟨_, _, rfl, tr_rc (hh_rd (hh_obj hL (k := 0) rfl).1) (by decide)⟩)) c_0 ?_
  have hL0 := c_0.2
  exact tl_ret hL0 .ireturn 1 (some (.int v0)) rfl rfl rfl rfl hr
theorem sx_L_rayEnd_0_2_1 {g : tr_g} {d : Nat} {h : ev_AH} {r : ev_O × ev_AH} {x1 v0 : Int32} {h1 hx : ev_AH} (hL : hh_L h) (cx : tr_L g d m_X8_rayEnd 0 [some (.ref 1000), some (.int x1)] [] h (.inr 1, hx)) (hr : r = (.inl (some (.int (-900001))), hx)) : tr_L g (d + 1) m_L_rayEnd 0 [some (.ref 1000), some (.int x1), none] [] h r := by
  refine tr_s (.aload_n 0) 1 1 [some (.ref 1000), some (.int x1), none] [.ref 1000] h rfl rfl rfl ?_
  refine tr_s (.iload_n 1) 1 2 [some (.ref 1000), some (.int x1), none] [.int x1, .ref 1000] h rfl rfl rfl ?_
  refine tr_callh (.invokevirtual 34) 34 0 1 0 m_X8_rayEnd [.ref 1000, .int x1] [] 1 7 2 hx rfl rfl rfl rfl rfl rfl rfl rfl rfl (tr_cok rfl (Or.inr ⟨_, _, rfl, tr_rc (hh_rd (hh_obj hL (k := 0) rfl).1) (by decide)⟩)) rfl rfl cx ?_
  refine tr_s (.ldc 17) 2 9 _ [.int (-900001)] hx rfl rfl rfl ?_
  exact tl_ret cx.2 .ireturn 1 (some (.int (-900001))) rfl rfl rfl rfl hr
theorem sx_L_rayEnd_0_2_3 {g : tr_g} {d : Nat} {h : ev_AH} {r : ev_O × ev_AH} {x1 v0 : Int32} {h1 hx : ev_AH} (hL : hh_L h) (cx : tr_L g d m_X8_rayEnd 0 [some (.ref 1000), some (.int x1)] [] h (.inr 3, hx)) (hr : r = (.inl (some (.int (-900002))), hx)) : tr_L g (d + 1) m_L_rayEnd 0 [some (.ref 1000), some (.int x1), none] [] h r := by
  refine tr_s (.aload_n 0) 1 1 [some (.ref 1000), some (.int x1), none] [.ref 1000] h rfl rfl rfl ?_
  refine tr_s (.iload_n 1) 1 2 [some (.ref 1000), some (.int x1), none] [.int x1, .ref 1000] h rfl rfl rfl ?_
  refine tr_callh (.invokevirtual 34) 34 0 1 0 m_X8_rayEnd [.ref 1000, .int x1] [] 3 11 2 hx rfl rfl rfl rfl rfl rfl rfl rfl rfl (tr_cok rfl (Or.inr ⟨_, _, rfl, tr_rc (hh_rd (hh_obj hL (k := 0) rfl).1) (by decide)⟩)) rfl rfl cx ?_
  refine tr_s (.ldc 20) 2 13 _ [.int (-900002)] hx rfl rfl rfl ?_
  exact tl_ret cx.2 .ireturn 1 (some (.int (-900002))) rfl rfl rfl rfl hr
theorem sg_L_rayEnd_0 {g : tr_g} {d : Nat} {h : ev_AH} {r : ev_O × ev_AH} {x1 v0 : Int32} {h1 : ev_AH} (hL : hh_L h) (c_0 : tr_L g d m_X8_rayEnd 0 [some (.ref 1000), some (.int x1)] [] h (.inl (some (.int v0)), h1)) (hr : r = (.inl (some (.int v0)), h1)) : tr_L g (d + 1) m_L_rayEnd 0 [some (.ref 1000), some (.int x1), none] [] h r := by
  refine tr_s (.aload_n 0) 1 1 [some (.ref 1000), some (.int x1), none] [.ref 1000] h rfl rfl rfl ?_
  refine tr_s (.iload_n 1) 1 2 [some (.ref 1000), some (.int x1), none] [.int x1, .ref 1000] h rfl rfl rfl ?_
  refine tr_call (.invokevirtual 34) 34 0 1 0 m_X8_rayEnd [.ref 1000, .int x1] [] (some (.int v0)) h1 rfl rfl rfl rfl rfl rfl rfl rfl rfl (tr_cok rfl (Or.inr ⟨_, _, rfl, tr_rc (hh_rd (hh_obj hL (k := 0) rfl).1) (by decide)⟩)) c_0 ?_
  have hL0 := c_0.2
  exact tl_ret hL0 .ireturn 1 (some (.int v0)) rfl rfl rfl rfl hr
theorem sx_L_rayCat_0_2_1 {g : tr_g} {d : Nat} {h : ev_AH} {r : ev_O × ev_AH} {x1 v0 : Int32} {h1 hx : ev_AH} (hL : hh_L h) (cx : tr_L g d m_X8_rayCat 0 [some (.ref 1000), some (.int x1)] [] h (.inr 1, hx)) (hr : r = (.inl (some (.int (-900001))), hx)) : tr_L g (d + 1) m_L_rayCat 0 [some (.ref 1000), some (.int x1), none] [] h r := by
  refine tr_s (.aload_n 0) 1 1 [some (.ref 1000), some (.int x1), none] [.ref 1000] h rfl rfl rfl ?_
  refine tr_s (.iload_n 1) 1 2 [some (.ref 1000), some (.int x1), none] [.int x1, .ref 1000] h rfl rfl rfl ?_
  refine tr_callh (.invokevirtual 40) 40 0 1 0 m_X8_rayCat [.ref 1000, .int x1] [] 1 7 2 hx rfl rfl rfl rfl rfl rfl rfl rfl rfl (tr_cok rfl (Or.inr ⟨_, _, rfl, tr_rc (hh_rd (hh_obj hL (k := 0) rfl).1) (by decide)⟩)) rfl rfl cx ?_
  refine tr_s (.ldc 17) 2 9 _ [.int (-900001)] hx rfl rfl rfl ?_
  exact tl_ret cx.2 .ireturn 1 (some (.int (-900001))) rfl rfl rfl rfl hr
theorem sx_L_rayCat_0_2_3 {g : tr_g} {d : Nat} {h : ev_AH} {r : ev_O × ev_AH} {x1 v0 : Int32} {h1 hx : ev_AH} (hL : hh_L h) (cx : tr_L g d m_X8_rayCat 0 [some (.ref 1000), some (.int x1)] [] h (.inr 3, hx)) (hr : r = (.inl (some (.int (-900002))), hx)) : tr_L g (d + 1) m_L_rayCat 0 [some (.ref 1000), some (.int x1), none] [] h r := by
  refine tr_s (.aload_n 0) 1 1 [some (.ref 1000), some (.int x1), none] [.ref 1000] h rfl rfl rfl ?_
  refine tr_s (.iload_n 1) 1 2 [some (.ref 1000), some (.int x1), none] [.int x1, .ref 1000] h rfl rfl rfl ?_
  refine tr_callh (.invokevirtual 40) 40 0 1 0 m_X8_rayCat [.ref 1000, .int x1] [] 3 11 2 hx rfl rfl rfl rfl rfl rfl rfl rfl rfl (tr_cok rfl (Or.inr ⟨_, _, rfl, tr_rc (hh_rd (hh_obj hL (k := 0) rfl).1) (by decide)⟩)) rfl rfl cx ?_
  refine tr_s (.ldc 20) 2 13 _ [.int (-900002)] hx rfl rfl rfl ?_
  exact tl_ret cx.2 .ireturn 1 (some (.int (-900002))) rfl rfl rfl rfl hr
theorem sg_L_rayCat_0 {g : tr_g} {d : Nat} {h : ev_AH} {r : ev_O × ev_AH} {x1 v0 : Int32} {h1 : ev_AH} (hL : hh_L h) (c_0 : tr_L g d m_X8_rayCat 0 [some (.ref 1000), some (.int x1)] [] h (.inl (some (.int v0)), h1)) (hr : r = (.inl (some (.int v0)), h1)) : tr_L g (d + 1) m_L_rayCat 0 [some (.ref 1000), some (.int x1), none] [] h r := by
  refine tr_s (.aload_n 0) 1 1 [some (.ref 1000), some (.int x1), none] [.ref 1000] h rfl rfl rfl ?_
  refine tr_s (.iload_n 1) 1 2 [some (.ref 1000), some (.int x1), none] [.int x1, .ref 1000] h rfl rfl rfl ?_
  refine tr_call (.invokevirtual 40) 40 0 1 0 m_X8_rayCat [.ref 1000, .int x1] [] (some (.int v0)) h1 rfl rfl rfl rfl rfl rfl rfl rfl rfl (tr_cok rfl (Or.inr ⟨_, _, rfl, tr_rc (hh_rd (hh_obj hL (k := 0) rfl).1) (by decide)⟩)) c_0 ?_
  have hL0 := c_0.2
  exact tl_ret hL0 .ireturn 1 (some (.int v0)) rfl rfl rfl rfl hr
theorem sx_L_rayEndByJoining_0_2_1 {g : tr_g} {d : Nat} {h : ev_AH} {r : ev_O × ev_AH} {x1 v0 : Int32} {h1 hx : ev_AH} (hL : hh_L h) (cx : tr_L g d m_X8_rayEndByJoining 0 [some (.ref 1000), some (.int x1), none] [] h (.inr 1, hx)) (hr : r = (.inl (some (.int (-900001))), hx)) : tr_L g (d + 1) m_L_rayEndByJoining 0 [some (.ref 1000), some (.int x1), none] [] h r := by
  refine tr_s (.aload_n 0) 1 1 [some (.ref 1000), some (.int x1), none] [.ref 1000] h rfl rfl rfl ?_
  refine tr_s (.iload_n 1) 1 2 [some (.ref 1000), some (.int x1), none] [.int x1, .ref 1000] h rfl rfl rfl ?_
  refine tr_callh (.invokevirtual 37) 37 0 1 0 m_X8_rayEndByJoining [.ref 1000, .int x1] [] 1 7 2 hx rfl rfl rfl rfl rfl rfl rfl rfl rfl (tr_cok rfl (Or.inr ⟨_, _, rfl, tr_rc (hh_rd (hh_obj hL (k := 0) rfl).1) (by decide)⟩)) rfl rfl cx ?_
  refine tr_s (.ldc 17) 2 9 _ [.int (-900001)] hx rfl rfl rfl ?_
  exact tl_ret cx.2 .ireturn 1 (some (.int (-900001))) rfl rfl rfl rfl hr
theorem sx_L_rayEndByJoining_0_2_3 {g : tr_g} {d : Nat} {h : ev_AH} {r : ev_O × ev_AH} {x1 v0 : Int32} {h1 hx : ev_AH} (hL : hh_L h) (cx : tr_L g d m_X8_rayEndByJoining 0 [some (.ref 1000), some (.int x1), none] [] h (.inr 3, hx)) (hr : r = (.inl (some (.int (-900002))), hx)) : tr_L g (d + 1) m_L_rayEndByJoining 0 [some (.ref 1000), some (.int x1), none] [] h r := by
  refine tr_s (.aload_n 0) 1 1 [some (.ref 1000), some (.int x1), none] [.ref 1000] h rfl rfl rfl ?_
  refine tr_s (.iload_n 1) 1 2 [some (.ref 1000), some (.int x1), none] [.int x1, .ref 1000] h rfl rfl rfl ?_
  refine tr_callh (.invokevirtual 37) 37 0 1 0 m_X8_rayEndByJoining [.ref 1000, .int x1] [] 3 11 2 hx rfl rfl rfl rfl rfl rfl rfl rfl rfl (tr_cok rfl (Or.inr ⟨_, _, rfl, tr_rc (hh_rd (hh_obj hL (k := 0) rfl).1) (by decide)⟩)) rfl rfl cx ?_
  refine tr_s (.ldc 20) 2 13 _ [.int (-900002)] hx rfl rfl rfl ?_
  exact tl_ret cx.2 .ireturn 1 (some (.int (-900002))) rfl rfl rfl rfl hr
theorem sg_L_rayEndByJoining_0 {g : tr_g} {d : Nat} {h : ev_AH} {r : ev_O × ev_AH} {x1 v0 : Int32} {h1 : ev_AH} (hL : hh_L h) (c_0 : tr_L g d m_X8_rayEndByJoining 0 [some (.ref 1000), some (.int x1), none] [] h (.inl (some (.int v0)), h1)) (hr : r = (.inl (some (.int v0)), h1)) : tr_L g (d + 1) m_L_rayEndByJoining 0 [some (.ref 1000), some (.int x1), none] [] h r := by
  refine tr_s (.aload_n 0) 1 1 [some (.ref 1000), some (.int x1), none] [.ref 1000] h rfl rfl rfl ?_
  refine tr_s (.iload_n 1) 1 2 [some (.ref 1000), some (.int x1), none] [.int x1, .ref 1000] h rfl rfl rfl ?_
  refine tr_call (.invokevirtual 37) 37 0 1 0 m_X8_rayEndByJoining [.ref 1000, .int x1] [] (some (.int v0)) h1 rfl rfl rfl rfl rfl rfl rfl rfl rfl (tr_cok rfl (Or.inr ⟨_, _, rfl, tr_rc (hh_rd (hh_obj hL (k := 0) rfl).1) (by decide)⟩)) c_0 ?_
  have hL0 := c_0.2
  exact tl_ret hL0 .ireturn 1 (some (.int v0)) rfl rfl rfl rfl hr
theorem sx_L_leastEffortByRounds_0_3_0 {g : tr_g} {d : Nat} {h : ev_AH} {r : ev_O × ev_AH} {x1 x2 v0 : Int32} {h1 hx : ev_AH} (hL : hh_L h) (cx : tr_L g d m_X8_leastEffortByRounds 0 [some (.ref 1000), some (.int x1), some (.int x2), none] [] h (.inr 0, hx)) (hr : r = (.inl (some (.int (-900002))), hx)) : tr_L g (d + 1) m_L_leastEffortByRounds 0 [some (.ref 1000), some (.int x1), some (.int x2), none] [] h r := by
  refine tr_s (.aload_n 0) 1 1 [some (.ref 1000), some (.int x1), some (.int x2), none] [.ref 1000] h rfl rfl rfl ?_
  refine tr_s (.iload_n 1) 1 2 [some (.ref 1000), some (.int x1), some (.int x2), none] [.int x1, .ref 1000] h rfl rfl rfl ?_
  refine tr_s (.iload_n 2) 1 3 [some (.ref 1000), some (.int x1), some (.int x2), none] [.int x2, .int x1, .ref 1000] h rfl rfl rfl ?_
  refine tr_callh (.invokevirtual 47) 47 0 2 0 m_X8_leastEffortByRounds [.ref 1000, .int x1, .int x2] [] 0 12 3 hx rfl rfl rfl rfl rfl rfl rfl rfl rfl (tr_cok rfl (Or.inr ⟨_, _, rfl, tr_rc (hh_rd (hh_obj hL (k := 0) rfl).1) (by decide)⟩)) rfl rfl cx ?_
  refine tr_s (.ldc 20) 2 14 _ [.int (-900002)] hx rfl rfl rfl ?_
  exact tl_ret cx.2 .ireturn 1 (some (.int (-900002))) rfl rfl rfl rfl hr
theorem sx_L_leastEffortByRounds_0_3_1 {g : tr_g} {d : Nat} {h : ev_AH} {r : ev_O × ev_AH} {x1 x2 v0 : Int32} {h1 hx : ev_AH} (hL : hh_L h) (cx : tr_L g d m_X8_leastEffortByRounds 0 [some (.ref 1000), some (.int x1), some (.int x2), none] [] h (.inr 1, hx)) (hr : r = (.inl (some (.int (-900001))), hx)) : tr_L g (d + 1) m_L_leastEffortByRounds 0 [some (.ref 1000), some (.int x1), some (.int x2), none] [] h r := by
  refine tr_s (.aload_n 0) 1 1 [some (.ref 1000), some (.int x1), some (.int x2), none] [.ref 1000] h rfl rfl rfl ?_
  refine tr_s (.iload_n 1) 1 2 [some (.ref 1000), some (.int x1), some (.int x2), none] [.int x1, .ref 1000] h rfl rfl rfl ?_
  refine tr_s (.iload_n 2) 1 3 [some (.ref 1000), some (.int x1), some (.int x2), none] [.int x2, .int x1, .ref 1000] h rfl rfl rfl ?_
  refine tr_callh (.invokevirtual 47) 47 0 2 0 m_X8_leastEffortByRounds [.ref 1000, .int x1, .int x2] [] 1 8 3 hx rfl rfl rfl rfl rfl rfl rfl rfl rfl (tr_cok rfl (Or.inr ⟨_, _, rfl, tr_rc (hh_rd (hh_obj hL (k := 0) rfl).1) (by decide)⟩)) rfl rfl cx ?_
  refine tr_s (.ldc 17) 2 10 _ [.int (-900001)] hx rfl rfl rfl ?_
  exact tl_ret cx.2 .ireturn 1 (some (.int (-900001))) rfl rfl rfl rfl hr
theorem sx_L_leastEffortByRounds_0_3_3 {g : tr_g} {d : Nat} {h : ev_AH} {r : ev_O × ev_AH} {x1 x2 v0 : Int32} {h1 hx : ev_AH} (hL : hh_L h) (cx : tr_L g d m_X8_leastEffortByRounds 0 [some (.ref 1000), some (.int x1), some (.int x2), none] [] h (.inr 3, hx)) (hr : r = (.inl (some (.int (-900003))), hx)) : tr_L g (d + 1) m_L_leastEffortByRounds 0 [some (.ref 1000), some (.int x1), some (.int x2), none] [] h r := by
  refine tr_s (.aload_n 0) 1 1 [some (.ref 1000), some (.int x1), some (.int x2), none] [.ref 1000] h rfl rfl rfl ?_
  refine tr_s (.iload_n 1) 1 2 [some (.ref 1000), some (.int x1), some (.int x2), none] [.int x1, .ref 1000] h rfl rfl rfl ?_
  refine tr_s (.iload_n 2) 1 3 [some (.ref 1000), some (.int x1), some (.int x2), none] [.int x2, .int x1, .ref 1000] h rfl rfl rfl ?_
  refine tr_callh (.invokevirtual 47) 47 0 2 0 m_X8_leastEffortByRounds [.ref 1000, .int x1, .int x2] [] 3 16 3 hx rfl rfl rfl rfl rfl rfl rfl rfl rfl (tr_cok rfl (Or.inr ⟨_, _, rfl, tr_rc (hh_rd (hh_obj hL (k := 0) rfl).1) (by decide)⟩)) rfl rfl cx ?_
  refine tr_s (.ldc 23) 2 18 _ [.int (-900003)] hx rfl rfl rfl ?_
  exact tl_ret cx.2 .ireturn 1 (some (.int (-900003))) rfl rfl rfl rfl hr
theorem sg_L_leastEffortByRounds_0 {g : tr_g} {d : Nat} {h : ev_AH} {r : ev_O × ev_AH} {x1 x2 v0 : Int32} {h1 : ev_AH} (hL : hh_L h) (c_0 : tr_L g d m_X8_leastEffortByRounds 0 [some (.ref 1000), some (.int x1), some (.int x2), none] [] h (.inl (some (.int v0)), h1)) (hr : r = (.inl (some (.int v0)), h1)) : tr_L g (d + 1) m_L_leastEffortByRounds 0 [some (.ref 1000), some (.int x1), some (.int x2), none] [] h r := by
  refine tr_s (.aload_n 0) 1 1 [some (.ref 1000), some (.int x1), some (.int x2), none] [.ref 1000] h rfl rfl rfl ?_
  refine tr_s (.iload_n 1) 1 2 [some (.ref 1000), some (.int x1), some (.int x2), none] [.int x1, .ref 1000] h rfl rfl rfl ?_
  refine tr_s (.iload_n 2) 1 3 [some (.ref 1000), some (.int x1), some (.int x2), none] [.int x2, .int x1, .ref 1000] h rfl rfl rfl ?_
  refine tr_call (.invokevirtual 47) 47 0 2 0 m_X8_leastEffortByRounds [.ref 1000, .int x1, .int x2] [] (some (.int v0)) h1 rfl rfl rfl rfl rfl rfl rfl rfl rfl (tr_cok rfl (Or.inr ⟨_, _, rfl, tr_rc (hh_rd (hh_obj hL (k := 0) rfl).1) (by decide)⟩)) c_0 ?_
  have hL0 := c_0.2
  exact tl_ret hL0 .ireturn 1 (some (.int v0)) rfl rfl rfl rfl hr
theorem sg_L_likes_0 {g : tr_g} {d : Nat} {h : ev_AH} {r : ev_O × ev_AH} {x1 x2 : Int32} (hL : hh_L h) (k : tr_L g d m_L_likes 5 [some (.ref 1000), some (.int x1), some (.int x2), some (.int 0), some (.int 0)] [] h r) : tr_L g d m_L_likes 0 [some (.ref 1000), some (.int x1), some (.int x2), none, none] [] h r := by
  refine tr_ic 0 0 (by decide) rfl ?_
  refine tr_st (.istore_n 3) 1 3 0 (.int 0) rfl rfl rfl rfl rfl rfl rfl ?_
  refine tr_ic 0 0 (by decide) rfl ?_
  refine tr_st (.istore 4) 2 4 0 (.int 0) rfl rfl rfl rfl rfl rfl rfl ?_
  exact k
theorem sg_L_likes_5 {g : tr_g} {d : Nat} {h : ev_AH} {r : ev_O × ev_AH} {x1 x2 x3 x4 v0 : Int32} {h1 : ev_AH} (hL : hh_L h) (c_0 : tr_L g d m_X8_catCount 0 [some (.ref 1000)] [] h (.inl (some (.int v0)), h1)) (t : v0 ≤ x4 → tr_L g (d + 1) m_L_likes 45 [some (.ref 1000), some (.int x1), some (.int x2), some (.int x3), some (.int x4)] [] h1 r) (f : x4 < v0 → tr_L g (d + 1) m_L_likes 14 [some (.ref 1000), some (.int x1), some (.int x2), some (.int x3), some (.int x4)] [] h1 r) : tr_L g (d + 1) m_L_likes 5 [some (.ref 1000), some (.int x1), some (.int x2), some (.int x3), some (.int x4)] [] h r := by
  refine tr_s (.iload 4) 2 7 [some (.ref 1000), some (.int x1), some (.int x2), some (.int x3), some (.int x4)] [.int x4] h rfl rfl rfl ?_
  refine tr_s (.aload_n 0) 1 8 [some (.ref 1000), some (.int x1), some (.int x2), some (.int x3), some (.int x4)] [.ref 1000, .int x4] h rfl rfl rfl ?_
  refine tr_call (.invokevirtual 192) 192 0 0 0 m_X8_catCount [.ref 1000] [.int x4] (some (.int v0)) h1 rfl rfl rfl rfl rfl rfl rfl rfl rfl (tr_cok rfl (Or.inr ⟨_, _, rfl, tr_rc (hh_rd (hh_obj hL (k := 0) rfl).1) (by decide)⟩)) c_0 ?_
  have hL0 := c_0.2
  exact tr_if2 .ge 34 45 x4 v0 rfl rfl rfl (fun hc => t ((tr_ge hc).1 rfl)) (fun hc => f ((tr_ge hc).2 rfl))
theorem sx_L_likes_14_19 {g : tr_g} {d : Nat} {h : ev_AH} {r : ev_O × ev_AH} {x1 x2 x3 x4 v0 : Int32} {h1 hx : ev_AH} {E : Nat} (hL : hh_L h) (cx : tr_L g d m_X8_placeOf 0 [some (.ref 1000), some (.int x4), some (.int x1)] [] h (.inr E, hx)) (hr : r = (.inr E, hx)) : tr_L g (d + 1) m_L_likes 14 [some (.ref 1000), some (.int x1), some (.int x2), some (.int x3), some (.int x4)] [] h r := by
  refine tr_s (.iload_n 3) 1 15 [some (.ref 1000), some (.int x1), some (.int x2), some (.int x3), some (.int x4)] [.int x3] h rfl rfl rfl ?_
  refine tr_s (.aload_n 0) 1 16 [some (.ref 1000), some (.int x1), some (.int x2), some (.int x3), some (.int x4)] [.ref 1000, .int x3] h rfl rfl rfl ?_
  refine tr_s (.iload 4) 2 18 [some (.ref 1000), some (.int x1), some (.int x2), some (.int x3), some (.int x4)] [.int x4, .ref 1000, .int x3] h rfl rfl rfl ?_
  refine tr_s (.iload_n 1) 1 19 [some (.ref 1000), some (.int x1), some (.int x2), some (.int x3), some (.int x4)] [.int x1, .int x4, .ref 1000, .int x3] h rfl rfl rfl ?_
  exact tr_callx (.invokevirtual 230) 230 0 2 0 m_X8_placeOf [.ref 1000, .int x4, .int x1] [.int x3] E hx rfl rfl rfl rfl rfl rfl rfl rfl rfl (tr_cok rfl (Or.inr ⟨_, _, rfl, tr_rc (hh_rd (hh_obj hL (k := 0) rfl).1) (by decide)⟩)) rfl cx hr
theorem sx_L_likes_14_26 {g : tr_g} {d : Nat} {h : ev_AH} {r : ev_O × ev_AH} {x1 x2 x3 x4 v0 v1 : Int32} {h1 h2 hx : ev_AH} {E : Nat} (hL : hh_L h) (c_0 : tr_L g d m_X8_placeOf 0 [some (.ref 1000), some (.int x4), some (.int x1)] [] h (.inl (some (.int v0)), h1)) (cx : tr_L g d m_X8_placeOf 0 [some (.ref 1000), some (.int x4), some (.int x2)] [] h1 (.inr E, hx)) (hr : r = (.inr E, hx)) : tr_L g (d + 1) m_L_likes 14 [some (.ref 1000), some (.int x1), some (.int x2), some (.int x3), some (.int x4)] [] h r := by
  refine tr_s (.iload_n 3) 1 15 [some (.ref 1000), some (.int x1), some (.int x2), some (.int x3), some (.int x4)] [.int x3] h rfl rfl rfl ?_
  refine tr_s (.aload_n 0) 1 16 [some (.ref 1000), some (.int x1), some (.int x2), some (.int x3), some (.int x4)] [.ref 1000, .int x3] h rfl rfl rfl ?_
  refine tr_s (.iload 4) 2 18 [some (.ref 1000), some (.int x1), some (.int x2), some (.int x3), some (.int x4)] [.int x4, .ref 1000, .int x3] h rfl rfl rfl ?_
  refine tr_s (.iload_n 1) 1 19 [some (.ref 1000), some (.int x1), some (.int x2), some (.int x3), some (.int x4)] [.int x1, .int x4, .ref 1000, .int x3] h rfl rfl rfl ?_
  refine tr_call (.invokevirtual 230) 230 0 2 0 m_X8_placeOf [.ref 1000, .int x4, .int x1] [.int x3] (some (.int v0)) h1 rfl rfl rfl rfl rfl rfl rfl rfl rfl (tr_cok rfl (Or.inr ⟨_, _, rfl, tr_rc (hh_rd (hh_obj hL (k := 0) rfl).1) (by decide)⟩)) c_0 ?_
  have hL0 := c_0.2
  refine tr_s (.aload_n 0) 1 23 [some (.ref 1000), some (.int x1), some (.int x2), some (.int x3), some (.int x4)] [.ref 1000, .int v0, .int x3] h1 rfl rfl rfl ?_
  refine tr_s (.iload 4) 2 25 [some (.ref 1000), some (.int x1), some (.int x2), some (.int x3), some (.int x4)] [.int x4, .ref 1000, .int v0, .int x3] h1 rfl rfl rfl ?_
  refine tr_s (.iload_n 2) 1 26 [some (.ref 1000), some (.int x1), some (.int x2), some (.int x3), some (.int x4)] [.int x2, .int x4, .ref 1000, .int v0, .int x3] h1 rfl rfl rfl ?_
  exact tr_callx (.invokevirtual 230) 230 0 2 0 m_X8_placeOf [.ref 1000, .int x4, .int x2] [.int v0, .int x3] E hx rfl rfl rfl rfl rfl rfl rfl rfl rfl (tr_cok rfl (Or.inr ⟨_, _, rfl, tr_rc (hh_rd (hh_obj hL0 (k := 0) rfl).1) (by decide)⟩)) rfl cx hr
theorem sg_L_likes_14 {g : tr_g} {d : Nat} {h : ev_AH} {r : ev_O × ev_AH} {x1 x2 x3 x4 v0 v1 : Int32} {h1 h2 : ev_AH} (hL : hh_L h) (c_0 : tr_L g d m_X8_placeOf 0 [some (.ref 1000), some (.int x4), some (.int x1)] [] h (.inl (some (.int v0)), h1)) (c_1 : tr_L g d m_X8_placeOf 0 [some (.ref 1000), some (.int x4), some (.int x2)] [] h1 (.inl (some (.int v1)), h2)) (t : v1 ≤ v0 → tr_L g (d + 1) m_L_likes 36 [some (.ref 1000), some (.int x1), some (.int x2), some (.int x3), some (.int x4)] [.int x3] h2 r) (f : v0 < v1 → tr_L g (d + 1) m_L_likes 32 [some (.ref 1000), some (.int x1), some (.int x2), some (.int x3), some (.int x4)] [.int x3] h2 r) : tr_L g (d + 1) m_L_likes 14 [some (.ref 1000), some (.int x1), some (.int x2), some (.int x3), some (.int x4)] [] h r := by
  refine tr_s (.iload_n 3) 1 15 [some (.ref 1000), some (.int x1), some (.int x2), some (.int x3), some (.int x4)] [.int x3] h rfl rfl rfl ?_
  refine tr_s (.aload_n 0) 1 16 [some (.ref 1000), some (.int x1), some (.int x2), some (.int x3), some (.int x4)] [.ref 1000, .int x3] h rfl rfl rfl ?_
  refine tr_s (.iload 4) 2 18 [some (.ref 1000), some (.int x1), some (.int x2), some (.int x3), some (.int x4)] [.int x4, .ref 1000, .int x3] h rfl rfl rfl ?_
  refine tr_s (.iload_n 1) 1 19 [some (.ref 1000), some (.int x1), some (.int x2), some (.int x3), some (.int x4)] [.int x1, .int x4, .ref 1000, .int x3] h rfl rfl rfl ?_
  refine tr_call (.invokevirtual 230) 230 0 2 0 m_X8_placeOf [.ref 1000, .int x4, .int x1] [.int x3] (some (.int v0)) h1 rfl rfl rfl rfl rfl rfl rfl rfl rfl (tr_cok rfl (Or.inr ⟨_, _, rfl, tr_rc (hh_rd (hh_obj hL (k := 0) rfl).1) (by decide)⟩)) c_0 ?_
  have hL0 := c_0.2
  refine tr_s (.aload_n 0) 1 23 [some (.ref 1000), some (.int x1), some (.int x2), some (.int x3), some (.int x4)] [.ref 1000, .int v0, .int x3] h1 rfl rfl rfl ?_
  refine tr_s (.iload 4) 2 25 [some (.ref 1000), some (.int x1), some (.int x2), some (.int x3), some (.int x4)] [.int x4, .ref 1000, .int v0, .int x3] h1 rfl rfl rfl ?_
  refine tr_s (.iload_n 2) 1 26 [some (.ref 1000), some (.int x1), some (.int x2), some (.int x3), some (.int x4)] [.int x2, .int x4, .ref 1000, .int v0, .int x3] h1 rfl rfl rfl ?_
  refine tr_call (.invokevirtual 230) 230 0 2 0 m_X8_placeOf [.ref 1000, .int x4, .int x2] [.int v0, .int x3] (some (.int v1)) h2 rfl rfl rfl rfl rfl rfl rfl rfl rfl (tr_cok rfl (Or.inr ⟨_, _, rfl, tr_rc (hh_rd (hh_obj hL0 (k := 0) rfl).1) (by decide)⟩)) c_1 ?_
  have hL1 := c_1.2
  exact tr_if2 .ge 7 36 v0 v1 rfl rfl rfl (fun hc => t ((tr_ge hc).1 rfl)) (fun hc => f ((tr_ge hc).2 rfl))
theorem sg_L_likes_32 {g : tr_g} {d : Nat} {h : ev_AH} {r : ev_O × ev_AH} {x1 x2 x4 s0 : Int32} {w3 : Option Value} (hL : hh_L h) (k : tr_L g d m_L_likes 5 [some (.ref 1000), some (.int x1), some (.int x2), some (.int (s0 + 1)), some (.int (x4 + 1))] [] h r) : tr_L g d m_L_likes 32 [some (.ref 1000), some (.int x1), some (.int x2), w3, some (.int x4)] [.int s0] h r := by
  refine tr_ic 1 1 (by decide) rfl ?_
  refine tr_goto 4 37 rfl rfl rfl ?_
  refine tr_s .iadd 1 38 [some (.ref 1000), some (.int x1), some (.int x2), w3, some (.int x4)] [.int (s0 + 1)] h rfl rfl rfl ?_
  refine tr_st (.istore_n 3) 1 3 0 (.int (s0 + 1)) rfl rfl rfl rfl rfl rfl rfl ?_
  refine tr_inc 4 1 x4 1 (by decide) rfl rfl rfl ?_
  refine tr_goto (-37) 5 rfl rfl rfl ?_
  exact k
theorem sg_L_likes_36 {g : tr_g} {d : Nat} {h : ev_AH} {r : ev_O × ev_AH} {x1 x2 x4 s0 : Int32} {w3 : Option Value} (hL : hh_L h) (k : tr_L g d m_L_likes 5 [some (.ref 1000), some (.int x1), some (.int x2), some (.int (s0 + 0)), some (.int (x4 + 1))] [] h r) : tr_L g d m_L_likes 36 [some (.ref 1000), some (.int x1), some (.int x2), w3, some (.int x4)] [.int s0] h r := by
  refine tr_ic 0 0 (by decide) rfl ?_
  refine tr_s .iadd 1 38 [some (.ref 1000), some (.int x1), some (.int x2), w3, some (.int x4)] [.int (s0 + 0)] h rfl rfl rfl ?_
  refine tr_st (.istore_n 3) 1 3 0 (.int (s0 + 0)) rfl rfl rfl rfl rfl rfl rfl ?_
  refine tr_inc 4 1 x4 1 (by decide) rfl rfl rfl ?_
  refine tr_goto (-37) 5 rfl rfl rfl ?_
  exact k
theorem sg_L_likes_45 {g : tr_g} {d : Nat} {h : ev_AH} {r : ev_O × ev_AH} {w0 w1 w2 w4 : Option Value} {x3 : Int32} (hL : hh_L h) (hr : r = (.inl (some (.int x3)), h)) : tr_L g d m_L_likes 45 [w0, w1, w2, some (.int x3), w4] [] h r := by
  refine tr_s (.iload_n 3) 1 46 [w0, w1, w2, some (.int x3), w4] [.int x3] h rfl rfl rfl ?_
  exact tl_ret hL .ireturn 1 (some (.int x3)) rfl rfl rfl rfl hr
theorem sg_law_5 {g : tr_g} {d : Nat} {h : ev_AH} {r : ev_O × ev_AH} {w2 w3 w4 : Option Value} {h1 : ev_AH} {v0 : Int32} (hL : hh_L h) (c_0 : tr_L g d m_L_isWell 0 [some (.ref 1000), none, none, none, none, none, none, none] [] h (.inl (some (.int v0)), h1)) (t : v0 ≠ 0 → tr_L g (d + 1) m_law 18 [some (.ref 0), some (.ref 1000), w2, w3, w4] [] h1 r) (f : v0 = 0 → tr_L g (d + 1) m_law 16 [some (.ref 0), some (.ref 1000), w2, w3, w4] [] h1 r) : tr_L g (d + 1) m_law 5 [some (.ref 0), some (.ref 1000), w2, w3, w4] [] h r := by
  refine tr_s (.aload_n 1) 1 6 [some (.ref 0), some (.ref 1000), w2, w3, w4] [.ref 1000] h rfl rfl rfl ?_
  refine tr_s (.ifnull 10) 3 9 [some (.ref 0), some (.ref 1000), w2, w3, w4] [] h rfl rfl rfl ?_
  refine tr_s (.aload_n 1) 1 10 [some (.ref 0), some (.ref 1000), w2, w3, w4] [.ref 1000] h rfl rfl rfl ?_
  refine tr_call (.invokestatic 279) 279 2 1 0 m_L_isWell [.ref 1000] [] (some (.int v0)) h1 rfl rfl rfl rfl rfl rfl rfl rfl rfl (tr_cok rfl (Or.inl rfl)) c_0 ?_
  have hL0 := c_0.2
  exact tr_if1 .ne 5 18 v0 rfl rfl rfl (fun hc => t ((tr_ne hc).1 rfl)) (fun hc => f ((tr_ne hc).2 rfl))
theorem sg_law_16 {g : tr_g} {d : Nat} {h : ev_AH} {r : ev_O × ev_AH} {w0 w1 w2 w3 w4 : Option Value} (hL : hh_L h) (hr : r = (.inl (some (.int 0)), h)) : tr_L g d m_law 16 [w0, w1, w2, w3, w4] [] h r := by
  refine tr_ic 0 0 (by decide) rfl ?_
  exact tl_ret hL .ireturn 1 (some (.int 0)) rfl rfl rfl rfl hr
theorem sg_law_18 {g : tr_g} {d : Nat} {h : ev_AH} {r : ev_O × ev_AH} {w2 w3 w4 : Option Value} (hL : hh_L h) (k : tr_L g d m_law 20 [some (.ref 0), some (.ref 1000), some (.int 0), w3, w4] [] h r) : tr_L g d m_law 18 [some (.ref 0), some (.ref 1000), w2, w3, w4] [] h r := by
  refine tr_ic 0 0 (by decide) rfl ?_
  refine tr_st (.istore_n 2) 1 2 0 (.int 0) rfl rfl rfl rfl rfl rfl rfl ?_
  exact k
theorem sg_law_20 {g : tr_g} {d : Nat} {h : ev_AH} {r : ev_O × ev_AH} {x2 : Int32} {w3 w4 : Option Value} (hL : hh_L h) (t : 7 ≤ x2 → tr_L g d m_law 125 [some (.ref 0), some (.ref 1000), some (.int x2), w3, w4] [] h r) (f : x2 < 7 → tr_L g d m_law 26 [some (.ref 0), some (.ref 1000), some (.int x2), w3, w4] [] h r) : tr_L g d m_law 20 [some (.ref 0), some (.ref 1000), some (.int x2), w3, w4] [] h r := by
  refine tr_s (.iload_n 2) 1 21 [some (.ref 0), some (.ref 1000), some (.int x2), w3, w4] [.int x2] h rfl rfl rfl ?_
  refine tr_bi 7 7 (by decide) rfl ?_
  exact tr_if2 .ge 102 125 x2 7 rfl rfl rfl (fun hc => t ((tr_ge hc).1 rfl)) (fun hc => f ((tr_ge hc).2 rfl))
theorem sg_law_26 {g : tr_g} {d : Nat} {h : ev_AH} {r : ev_O × ev_AH} {x2 v0 v1 : Int32} {w3 w4 : Option Value} {h1 h2 h3 : ev_AH} {c0 : Nat} (hL : hh_L h) (c_0 : tr_L g d m_L_seen 0 [some (.ref 1000), none, none, none] [] h (.inl (some (.ref (c0 + 1000))), h1)) (c_1 : tr_L g d m_L_acts 0 [some (.ref 1000), some (.ref 0), some (.int (56 + (4 * x2))), none, none, none] [] h1 (.inl (some (.int v0)), h2)) (c_2 : tr_L g d m_L_isWell 0 [some (.ref 1000), none, none, none, none, none, none, none] [] h2 (.inl (some (.int v1)), h3)) (t : v1 = 0 → tr_L g (d + 1) m_law 77 [some (.ref 0), some (.ref 1000), some (.int x2), some (.ref (c0 + 1000)), some (.int v0)] [] h3 r) (f : v1 ≠ 0 → tr_L g (d + 1) m_law 51 [some (.ref 0), some (.ref 1000), some (.int x2), some (.ref (c0 + 1000)), some (.int v0)] [] h3 r) : tr_L g (d + 1) m_law 26 [some (.ref 0), some (.ref 1000), some (.int x2), w3, w4] [] h r := by
  refine tr_s (.aload_n 1) 1 27 [some (.ref 0), some (.ref 1000), some (.int x2), w3, w4] [.ref 1000] h rfl rfl rfl ?_
  refine tr_call (.invokestatic 283) 283 2 1 0 m_L_seen [.ref 1000] [] (some (.ref (c0 + 1000))) h1 rfl rfl rfl rfl rfl rfl rfl rfl rfl (tr_cok rfl (Or.inl rfl)) c_0 ?_
  have hL0 := c_0.2
  refine tr_st (.astore_n 3) 1 3 1 (.ref (c0 + 1000)) rfl rfl rfl rfl rfl rfl rfl ?_
  refine tr_s (.aload_n 1) 1 32 [some (.ref 0), some (.ref 1000), some (.int x2), some (.ref (c0 + 1000)), w4] [.ref 1000] h1 rfl rfl rfl ?_
  refine tr_s (.aload_n 0) 1 33 [some (.ref 0), some (.ref 1000), some (.int x2), some (.ref (c0 + 1000)), w4] [.ref 0, .ref 1000] h1 rfl rfl rfl ?_
  refine tr_bi 56 56 (by decide) rfl ?_
  refine tr_ic 4 4 (by decide) rfl ?_
  refine tr_s (.iload_n 2) 1 37 [some (.ref 0), some (.ref 1000), some (.int x2), some (.ref (c0 + 1000)), w4] [.int x2, .int 4, .int 56, .ref 0, .ref 1000] h1 rfl rfl rfl ?_
  refine tr_s .imul 1 38 [some (.ref 0), some (.ref 1000), some (.int x2), some (.ref (c0 + 1000)), w4] [.int (4 * x2), .int 56, .ref 0, .ref 1000] h1 rfl rfl rfl ?_
  refine tr_s .iadd 1 39 [some (.ref 0), some (.ref 1000), some (.int x2), some (.ref (c0 + 1000)), w4] [.int (56 + (4 * x2)), .ref 0, .ref 1000] h1 rfl rfl rfl ?_
  refine tr_call (.invokestatic 287) 287 2 3 0 m_L_acts [.ref 1000, .ref 0, .int (56 + (4 * x2))] [] (some (.int v0)) h2 rfl rfl rfl rfl rfl rfl rfl rfl rfl (tr_cok rfl (Or.inl rfl)) c_1 ?_
  have hL1 := c_1.2
  refine tr_st (.istore 4) 2 4 0 (.int v0) rfl rfl rfl rfl rfl rfl rfl ?_
  refine tr_s (.aload_n 1) 1 45 [some (.ref 0), some (.ref 1000), some (.int x2), some (.ref (c0 + 1000)), some (.int v0)] [.ref 1000] h2 rfl rfl rfl ?_
  refine tr_call (.invokestatic 279) 279 2 1 0 m_L_isWell [.ref 1000] [] (some (.int v1)) h3 rfl rfl rfl rfl rfl rfl rfl rfl rfl (tr_cok rfl (Or.inl rfl)) c_2 ?_
  have hL2 := c_2.2
  exact tr_if1 .eq 29 77 v1 rfl rfl rfl (fun hc => t ((tr_eq hc).1 rfl)) (fun hc => f ((tr_eq hc).2 rfl))
theorem sg_law_51 {g : tr_g} {d : Nat} {h : ev_AH} {r : ev_O × ev_AH} {x2 x4 : Int32} {a3 : Nat} (hL : hh_L h) (t : x4 = (-900009) → tr_L g d m_law 77 [some (.ref 0), some (.ref 1000), some (.int x2), some (.ref (a3 + 1000)), some (.int x4)] [] h r) (f : x4 ≠ (-900009) → tr_L g d m_law 58 [some (.ref 0), some (.ref 1000), some (.int x2), some (.ref (a3 + 1000)), some (.int x4)] [] h r) : tr_L g d m_law 51 [some (.ref 0), some (.ref 1000), some (.int x2), some (.ref (a3 + 1000)), some (.int x4)] [] h r := by
  refine tr_s (.iload 4) 2 53 [some (.ref 0), some (.ref 1000), some (.int x2), some (.ref (a3 + 1000)), some (.int x4)] [.int x4] h rfl rfl rfl ?_
  refine tr_s (.ldc 114) 2 55 [some (.ref 0), some (.ref 1000), some (.int x2), some (.ref (a3 + 1000)), some (.int x4)] [.int (-900009), .int x4] h rfl rfl rfl ?_
  exact tr_if2 .eq 22 77 x4 (-900009) rfl rfl rfl (fun hc => t ((tr_eq hc).1 rfl)) (fun hc => f ((tr_eq hc).2 rfl))
theorem sg_law_58 {g : tr_g} {d : Nat} {h : ev_AH} {r : ev_O × ev_AH} {x2 x4 : Int32} {a3 : Nat} (hL : hh_L h) (t : (-900000) < x4 → tr_L g d m_law 79 [some (.ref 0), some (.ref 1000), some (.int x2), some (.ref (a3 + 1000)), some (.int x4)] [] h r) (f : x4 ≤ (-900000) → tr_L g d m_law 66 [some (.ref 0), some (.ref 1000), some (.int x2), some (.ref (a3 + 1000)), some (.int x4)] [] h r) : tr_L g d m_law 58 [some (.ref 0), some (.ref 1000), some (.int x2), some (.ref (a3 + 1000)), some (.int x4)] [] h r := by
  refine tr_s (.iload 4) 2 60 [some (.ref 0), some (.ref 1000), some (.int x2), some (.ref (a3 + 1000)), some (.int x4)] [.int x4] h rfl rfl rfl ?_
  refine tr_s (.ldc_w 291) 3 63 [some (.ref 0), some (.ref 1000), some (.int x2), some (.ref (a3 + 1000)), some (.int x4)] [.int (-900000), .int x4] h rfl rfl rfl ?_
  exact tr_if2 .gt 16 79 x4 (-900000) rfl rfl rfl (fun hc => t ((tr_gt hc).1 rfl)) (fun hc => f ((tr_gt hc).2 rfl))
theorem sg_law_66 {g : tr_g} {d : Nat} {h : ev_AH} {r : ev_O × ev_AH} {x2 x4 v0 : Int32} {a3 c0 : Nat} {h1 h2 : ev_AH} (hL : hh_L h) (c_0 : tr_L g d m_L_seen 0 [some (.ref 1000), none, none, none] [] h (.inl (some (.ref (c0 + 1000))), h1)) (c_1 : tr_L g d m_L_areAlike 0 [some (.ref (a3 + 1000)), some (.ref (c0 + 1000)), none] [] h1 (.inl (some (.int v0)), h2)) (t : v0 ≠ 0 → tr_L g (d + 1) m_law 79 [some (.ref 0), some (.ref 1000), some (.int x2), some (.ref (a3 + 1000)), some (.int x4)] [] h2 r) (f : v0 = 0 → tr_L g (d + 1) m_law 77 [some (.ref 0), some (.ref 1000), some (.int x2), some (.ref (a3 + 1000)), some (.int x4)] [] h2 r) : tr_L g (d + 1) m_law 66 [some (.ref 0), some (.ref 1000), some (.int x2), some (.ref (a3 + 1000)), some (.int x4)] [] h r := by
  refine tr_s (.aload_n 3) 1 67 [some (.ref 0), some (.ref 1000), some (.int x2), some (.ref (a3 + 1000)), some (.int x4)] [.ref (a3 + 1000)] h rfl rfl rfl ?_
  refine tr_s (.aload_n 1) 1 68 [some (.ref 0), some (.ref 1000), some (.int x2), some (.ref (a3 + 1000)), some (.int x4)] [.ref 1000, .ref (a3 + 1000)] h rfl rfl rfl ?_
  refine tr_call (.invokestatic 283) 283 2 1 0 m_L_seen [.ref 1000] [.ref (a3 + 1000)] (some (.ref (c0 + 1000))) h1 rfl rfl rfl rfl rfl rfl rfl rfl rfl (tr_cok rfl (Or.inl rfl)) c_0 ?_
  have hL0 := c_0.2
  refine tr_call (.invokestatic 292) 292 2 2 0 m_L_areAlike [.ref (a3 + 1000), .ref (c0 + 1000)] [] (some (.int v0)) h2 rfl rfl rfl rfl rfl rfl rfl rfl rfl (tr_cok rfl (Or.inl rfl)) c_1 ?_
  have hL1 := c_1.2
  exact tr_if1 .ne 5 79 v0 rfl rfl rfl (fun hc => t ((tr_ne hc).1 rfl)) (fun hc => f ((tr_ne hc).2 rfl))
theorem sg_law_77 {g : tr_g} {d : Nat} {h : ev_AH} {r : ev_O × ev_AH} {w0 w1 w2 w3 w4 : Option Value} (hL : hh_L h) (hr : r = (.inl (some (.int 0)), h)) : tr_L g d m_law 77 [w0, w1, w2, w3, w4] [] h r := by
  refine tr_ic 0 0 (by decide) rfl ?_
  exact tl_ret hL .ireturn 1 (some (.int 0)) rfl rfl rfl rfl hr
theorem sg_law_79 {g : tr_g} {d : Nat} {h : ev_AH} {r : ev_O × ev_AH} {x2 x4 : Int32} {a3 : Nat} (hL : hh_L h) (t : x4 ≤ (-900000) → tr_L g d m_law 119 [some (.ref 0), some (.ref 1000), some (.int x2), some (.ref (a3 + 1000)), some (.int x4)] [] h r) (f : (-900000) < x4 → tr_L g d m_law 87 [some (.ref 0), some (.ref 1000), some (.int x2), some (.ref (a3 + 1000)), some (.int x4)] [] h r) : tr_L g d m_law 79 [some (.ref 0), some (.ref 1000), some (.int x2), some (.ref (a3 + 1000)), some (.int x4)] [] h r := by
  refine tr_s (.iload 4) 2 81 [some (.ref 0), some (.ref 1000), some (.int x2), some (.ref (a3 + 1000)), some (.int x4)] [.int x4] h rfl rfl rfl ?_
  refine tr_s (.ldc_w 291) 3 84 [some (.ref 0), some (.ref 1000), some (.int x2), some (.ref (a3 + 1000)), some (.int x4)] [.int (-900000), .int x4] h rfl rfl rfl ?_
  exact tr_if2 .le 35 119 x4 (-900000) rfl rfl rfl (fun hc => t ((tr_le hc).1 rfl)) (fun hc => f ((tr_le hc).2 rfl))
theorem sg_law_87 {g : tr_g} {d : Nat} {h : ev_AH} {r : ev_O × ev_AH} {x2 v0 : Int32} {a3 : Nat} {w4 : Option Value} {h1 : ev_AH} (hL : hh_L h) (c_0 : tr_L g d m_L_in 0 [some (.ref 0), some (.int (85 + x2)), some (.int 5)] [] h (.inl (some (.int v0)), h1)) (t : v0 ≠ 0 → tr_L g (d + 1) m_law 119 [some (.ref 0), some (.ref 1000), some (.int x2), some (.ref (a3 + 1000)), w4] [] h1 r) (f : v0 = 0 → tr_L g (d + 1) m_law 99 [some (.ref 0), some (.ref 1000), some (.int x2), some (.ref (a3 + 1000)), w4] [] h1 r) : tr_L g (d + 1) m_law 87 [some (.ref 0), some (.ref 1000), some (.int x2), some (.ref (a3 + 1000)), w4] [] h r := by
  refine tr_s (.aload_n 0) 1 88 [some (.ref 0), some (.ref 1000), some (.int x2), some (.ref (a3 + 1000)), w4] [.ref 0] h rfl rfl rfl ?_
  refine tr_bi 85 85 (by decide) rfl ?_
  refine tr_s (.iload_n 2) 1 91 [some (.ref 0), some (.ref 1000), some (.int x2), some (.ref (a3 + 1000)), w4] [.int x2, .int 85, .ref 0] h rfl rfl rfl ?_
  refine tr_s .iadd 1 92 [some (.ref 0), some (.ref 1000), some (.int x2), some (.ref (a3 + 1000)), w4] [.int (85 + x2), .ref 0] h rfl rfl rfl ?_
  refine tr_ic 5 5 (by decide) rfl ?_
  refine tr_call (.invokestatic 122) 122 2 3 0 m_L_in [.ref 0, .int (85 + x2), .int 5] [] (some (.int v0)) h1 rfl rfl rfl rfl rfl rfl rfl rfl rfl (tr_cok rfl (Or.inl rfl)) c_0 ?_
  have hL0 := c_0.2
  exact tr_if1 .ne 23 119 v0 rfl rfl rfl (fun hc => t ((tr_ne hc).1 rfl)) (fun hc => f ((tr_ne hc).2 rfl))
theorem sg_law_99 {g : tr_g} {d : Nat} {h : ev_AH} {r : ev_O × ev_AH} {x2 v0 : Int32} {a3 : Nat} {w4 : Option Value} {h1 : ev_AH} (hL : hh_L h) (c_0 : tr_L g d m_L_undo 0 [some (.ref 1000), none] [] h (.inl (some (.int v0)), h1)) (t : v0 < 0 → tr_L g (d + 1) m_law 117 [some (.ref 0), some (.ref 1000), some (.int x2), some (.ref (a3 + 1000)), w4] [] h1 r) (f : 0 ≤ v0 → tr_L g (d + 1) m_law 106 [some (.ref 0), some (.ref 1000), some (.int x2), some (.ref (a3 + 1000)), w4] [] h1 r) : tr_L g (d + 1) m_law 99 [some (.ref 0), some (.ref 1000), some (.int x2), some (.ref (a3 + 1000)), w4] [] h r := by
  refine tr_s (.aload_n 1) 1 100 [some (.ref 0), some (.ref 1000), some (.int x2), some (.ref (a3 + 1000)), w4] [.ref 1000] h rfl rfl rfl ?_
  refine tr_call (.invokestatic 296) 296 8 1 0 m_L_undo [.ref 1000] [] (some (.int v0)) h1 rfl rfl rfl rfl rfl rfl rfl rfl rfl (tr_cok rfl (Or.inl rfl)) c_0 ?_
  have hL0 := c_0.2
  exact tr_if1 .lt 14 117 v0 rfl rfl rfl (fun hc => t ((tr_lt hc).1 rfl)) (fun hc => f ((tr_lt hc).2 rfl))
theorem sg_law_106 {g : tr_g} {d : Nat} {h : ev_AH} {r : ev_O × ev_AH} {x2 v0 : Int32} {a3 c0 : Nat} {w4 : Option Value} {h1 h2 : ev_AH} (hL : hh_L h) (c_0 : tr_L g d m_L_seen 0 [some (.ref 1000), none, none, none] [] h (.inl (some (.ref (c0 + 1000))), h1)) (c_1 : tr_L g d m_L_areAlike 0 [some (.ref (a3 + 1000)), some (.ref (c0 + 1000)), none] [] h1 (.inl (some (.int v0)), h2)) (t : v0 ≠ 0 → tr_L g (d + 1) m_law 119 [some (.ref 0), some (.ref 1000), some (.int x2), some (.ref (a3 + 1000)), w4] [] h2 r) (f : v0 = 0 → tr_L g (d + 1) m_law 117 [some (.ref 0), some (.ref 1000), some (.int x2), some (.ref (a3 + 1000)), w4] [] h2 r) : tr_L g (d + 1) m_law 106 [some (.ref 0), some (.ref 1000), some (.int x2), some (.ref (a3 + 1000)), w4] [] h r := by
  refine tr_s (.aload_n 3) 1 107 [some (.ref 0), some (.ref 1000), some (.int x2), some (.ref (a3 + 1000)), w4] [.ref (a3 + 1000)] h rfl rfl rfl ?_
  refine tr_s (.aload_n 1) 1 108 [some (.ref 0), some (.ref 1000), some (.int x2), some (.ref (a3 + 1000)), w4] [.ref 1000, .ref (a3 + 1000)] h rfl rfl rfl ?_
  refine tr_call (.invokestatic 283) 283 2 1 0 m_L_seen [.ref 1000] [.ref (a3 + 1000)] (some (.ref (c0 + 1000))) h1 rfl rfl rfl rfl rfl rfl rfl rfl rfl (tr_cok rfl (Or.inl rfl)) c_0 ?_
  have hL0 := c_0.2
  refine tr_call (.invokestatic 292) 292 2 2 0 m_L_areAlike [.ref (a3 + 1000), .ref (c0 + 1000)] [] (some (.int v0)) h2 rfl rfl rfl rfl rfl rfl rfl rfl rfl (tr_cok rfl (Or.inl rfl)) c_1 ?_
  have hL1 := c_1.2
  exact tr_if1 .ne 5 119 v0 rfl rfl rfl (fun hc => t ((tr_ne hc).1 rfl)) (fun hc => f ((tr_ne hc).2 rfl))
theorem sg_law_117 {g : tr_g} {d : Nat} {h : ev_AH} {r : ev_O × ev_AH} {w0 w1 w2 w3 w4 : Option Value} (hL : hh_L h) (hr : r = (.inl (some (.int 0)), h)) : tr_L g d m_law 117 [w0, w1, w2, w3, w4] [] h r := by
  refine tr_ic 0 0 (by decide) rfl ?_
  exact tl_ret hL .ireturn 1 (some (.int 0)) rfl rfl rfl rfl hr
theorem sg_law_119 {g : tr_g} {d : Nat} {h : ev_AH} {r : ev_O × ev_AH} {x2 : Int32} {w3 w4 : Option Value} (hL : hh_L h) (k : tr_L g d m_law 20 [some (.ref 0), some (.ref 1000), some (.int (x2 + 1)), w3, w4] [] h r) : tr_L g d m_law 119 [some (.ref 0), some (.ref 1000), some (.int x2), w3, w4] [] h r := by
  refine tr_inc 2 1 x2 1 (by decide) rfl rfl rfl ?_
  refine tr_goto (-102) 20 rfl rfl rfl ?_
  exact k
theorem sx_law_125_162 {g : tr_g} {d : Nat} {h : ev_AH} {r : ev_O × ev_AH} {w0 w2 w3 w4 : Option Value} {h1 h2 h3 h4 h5 h6 h7 hx : ev_AH} {c0 E : Nat} {v0 v1 v2 v3 v4 v5 : Int32} (hL : hh_L h) (c_0 : tr_L g d m_L_seen 0 [some (.ref 1000), none, none, none] [] h (.inl (some (.ref (c0 + 1000))), h1)) (c_1 : tr_L g d m_X8_saveSnapshot 0 [some (.ref 1000)] [] h1 (.inl (some (.int v0)), h2)) (c_2 : tr_L g d m_L_portByLength 0 [some (.ref 1000), some (.int 0), none] [] h2 (.inl (some (.int v1)), h3)) (c_3 : tr_L g d m_L_catByHeard 0 [some (.ref 1000), some (.int 0), none] [] h3 (.inl (some (.int v2)), h4)) (c_4 : tr_L g d m_L_winner 0 [some (.ref 1000), some (.int 114), none] [] h4 (.inl (some (.int v3)), h5)) (c_5 : tr_L g d m_L_leastEffort 0 [some (.ref 1000), some (.int 0), some (.int 0), none] [] h5 (.inl (some (.int v4)), h6)) (cx : tr_L g d m_X8_writeRow 0 [some (.ref 1000), some (.int 2), none, none, none] [] h6 (.inr E, hx)) (hr : r = (.inr E, hx)) : tr_L g (d + 1) m_law 125 [w0, some (.ref 1000), w2, w3, w4] [] h r := by
  refine tr_s (.aload_n 1) 1 126 [w0, some (.ref 1000), w2, w3, w4] [.ref 1000] h rfl rfl rfl ?_
  refine tr_call (.invokestatic 283) 283 2 1 0 m_L_seen [.ref 1000] [] (some (.ref (c0 + 1000))) h1 rfl rfl rfl rfl rfl rfl rfl rfl rfl (tr_cok rfl (Or.inl rfl)) c_0 ?_
  have hL0 := c_0.2
  refine tr_st (.astore_n 2) 1 2 1 (.ref (c0 + 1000)) rfl rfl rfl rfl rfl rfl rfl ?_
  refine tr_s (.aload_n 1) 1 131 [w0, some (.ref 1000), some (.ref (c0 + 1000)), w3, w4] [.ref 1000] h1 rfl rfl rfl ?_
  refine tr_call (.invokevirtual 298) 298 0 0 0 m_X8_saveSnapshot [.ref 1000] [] (some (.int v0)) h2 rfl rfl rfl rfl rfl rfl rfl rfl rfl (tr_cok rfl (Or.inr ⟨_, _, rfl, tr_rc (hh_rd (hh_obj hL0 (k := 0) rfl).1) (by decide)⟩)) c_1 ?_
  have hL1 := c_1.2
  refine tr_st (.istore_n 3) 1 3 0 (.int v0) rfl rfl rfl rfl rfl rfl rfl ?_
  refine tr_s (.aload_n 1) 1 136 [w0, some (.ref 1000), some (.ref (c0 + 1000)), some (.int v0), w4] [.ref 1000] h2 rfl rfl rfl ?_
  refine tr_ic 0 0 (by decide) rfl ?_
  refine tr_call (.invokestatic 301) 301 8 2 0 m_L_portByLength [.ref 1000, .int 0] [] (some (.int v1)) h3 rfl rfl rfl rfl rfl rfl rfl rfl rfl (tr_cok rfl (Or.inl rfl)) c_2 ?_
  have hL2 := c_2.2
  refine tr_s (.aload_n 1) 1 141 [w0, some (.ref 1000), some (.ref (c0 + 1000)), some (.int v0), w4] [.ref 1000, .int v1] h3 rfl rfl rfl ?_
  refine tr_ic 0 0 (by decide) rfl ?_
  refine tr_call (.invokestatic 303) 303 8 2 0 m_L_catByHeard [.ref 1000, .int 0] [.int v1] (some (.int v2)) h4 rfl rfl rfl rfl rfl rfl rfl rfl rfl (tr_cok rfl (Or.inl rfl)) c_3 ?_
  have hL3 := c_3.2
  refine tr_s .iadd 1 146 [w0, some (.ref 1000), some (.ref (c0 + 1000)), some (.int v0), w4] [.int (v1 + v2)] h4 rfl rfl rfl ?_
  refine tr_s (.aload_n 1) 1 147 [w0, some (.ref 1000), some (.ref (c0 + 1000)), some (.int v0), w4] [.ref 1000, .int (v1 + v2)] h4 rfl rfl rfl ?_
  refine tr_bi 114 114 (by decide) rfl ?_
  refine tr_call (.invokestatic 269) 269 8 2 0 m_L_winner [.ref 1000, .int 114] [.int (v1 + v2)] (some (.int v3)) h5 rfl rfl rfl rfl rfl rfl rfl rfl rfl (tr_cok rfl (Or.inl rfl)) c_4 ?_
  have hL4 := c_4.2
  refine tr_s .iadd 1 153 [w0, some (.ref 1000), some (.ref (c0 + 1000)), some (.int v0), w4] [.int ((v1 + v2) + v3)] h5 rfl rfl rfl ?_
  refine tr_s (.aload_n 1) 1 154 [w0, some (.ref 1000), some (.ref (c0 + 1000)), some (.int v0), w4] [.ref 1000, .int ((v1 + v2) + v3)] h5 rfl rfl rfl ?_
  refine tr_ic 0 0 (by decide) rfl ?_
  refine tr_ic 0 0 (by decide) rfl ?_
  refine tr_call (.invokestatic 247) 247 8 3 0 m_L_leastEffort [.ref 1000, .int 0, .int 0] [.int ((v1 + v2) + v3)] (some (.int v4)) h6 rfl rfl rfl rfl rfl rfl rfl rfl rfl (tr_cok rfl (Or.inl rfl)) c_5 ?_
  have hL5 := c_5.2
  refine tr_s .iadd 1 160 [w0, some (.ref 1000), some (.ref (c0 + 1000)), some (.int v0), w4] [.int (((v1 + v2) + v3) + v4)] h6 rfl rfl rfl ?_
  refine tr_s (.aload_n 1) 1 161 [w0, some (.ref 1000), some (.ref (c0 + 1000)), some (.int v0), w4] [.ref 1000, .int (((v1 + v2) + v3) + v4)] h6 rfl rfl rfl ?_
  refine tr_ic 2 2 (by decide) rfl ?_
  exact tr_callx (.invokevirtual 305) 305 0 1 0 m_X8_writeRow [.ref 1000, .int 2] [.int (((v1 + v2) + v3) + v4)] E hx rfl rfl rfl rfl rfl rfl rfl rfl rfl (tr_cok rfl (Or.inr ⟨_, _, rfl, tr_rc (hh_rd (hh_obj hL5 (k := 0) rfl).1) (by decide)⟩)) rfl cx hr
theorem sg_law_125 {g : tr_g} {d : Nat} {h : ev_AH} {r : ev_O × ev_AH} {w0 w2 w3 w4 : Option Value} {h1 h2 h3 h4 h5 h6 h7 h8 h9 : ev_AH} {c0 c1 : Nat} {v0 v1 v2 v3 v4 v5 v6 : Int32} (hL : hh_L h) (c_0 : tr_L g d m_L_seen 0 [some (.ref 1000), none, none, none] [] h (.inl (some (.ref (c0 + 1000))), h1)) (c_1 : tr_L g d m_X8_saveSnapshot 0 [some (.ref 1000)] [] h1 (.inl (some (.int v0)), h2)) (c_2 : tr_L g d m_L_portByLength 0 [some (.ref 1000), some (.int 0), none] [] h2 (.inl (some (.int v1)), h3)) (c_3 : tr_L g d m_L_catByHeard 0 [some (.ref 1000), some (.int 0), none] [] h3 (.inl (some (.int v2)), h4)) (c_4 : tr_L g d m_L_winner 0 [some (.ref 1000), some (.int 114), none] [] h4 (.inl (some (.int v3)), h5)) (c_5 : tr_L g d m_L_leastEffort 0 [some (.ref 1000), some (.int 0), some (.int 0), none] [] h5 (.inl (some (.int v4)), h6)) (c_6 : tr_L g d m_X8_writeRow 0 [some (.ref 1000), some (.int 2), none, none, none] [] h6 (.inl (some (.int v5)), h7)) (c_7 : tr_L g d m_L_seen 0 [some (.ref 1000), none, none, none] [] h7 (.inl (some (.ref (c1 + 1000))), h8)) (c_8 : tr_L g d m_L_areAlike 0 [some (.ref (c0 + 1000)), some (.ref (c1 + 1000)), none] [] h8 (.inl (some (.int v6)), h9)) (t : v6 ≠ 0 → tr_L g (d + 1) m_law 181 [w0, some (.ref 1000), some (.ref (c0 + 1000)), some (.int v0), some (.int ((((v1 + v2) + v3) + v4) + v5))] [] h9 r) (f : v6 = 0 → tr_L g (d + 1) m_law 179 [w0, some (.ref 1000), some (.ref (c0 + 1000)), some (.int v0), some (.int ((((v1 + v2) + v3) + v4) + v5))] [] h9 r) : tr_L g (d + 1) m_law 125 [w0, some (.ref 1000), w2, w3, w4] [] h r := by
  refine tr_s (.aload_n 1) 1 126 [w0, some (.ref 1000), w2, w3, w4] [.ref 1000] h rfl rfl rfl ?_
  refine tr_call (.invokestatic 283) 283 2 1 0 m_L_seen [.ref 1000] [] (some (.ref (c0 + 1000))) h1 rfl rfl rfl rfl rfl rfl rfl rfl rfl (tr_cok rfl (Or.inl rfl)) c_0 ?_
  have hL0 := c_0.2
  refine tr_st (.astore_n 2) 1 2 1 (.ref (c0 + 1000)) rfl rfl rfl rfl rfl rfl rfl ?_
  refine tr_s (.aload_n 1) 1 131 [w0, some (.ref 1000), some (.ref (c0 + 1000)), w3, w4] [.ref 1000] h1 rfl rfl rfl ?_
  refine tr_call (.invokevirtual 298) 298 0 0 0 m_X8_saveSnapshot [.ref 1000] [] (some (.int v0)) h2 rfl rfl rfl rfl rfl rfl rfl rfl rfl (tr_cok rfl (Or.inr ⟨_, _, rfl, tr_rc (hh_rd (hh_obj hL0 (k := 0) rfl).1) (by decide)⟩)) c_1 ?_
  have hL1 := c_1.2
  refine tr_st (.istore_n 3) 1 3 0 (.int v0) rfl rfl rfl rfl rfl rfl rfl ?_
  refine tr_s (.aload_n 1) 1 136 [w0, some (.ref 1000), some (.ref (c0 + 1000)), some (.int v0), w4] [.ref 1000] h2 rfl rfl rfl ?_
  refine tr_ic 0 0 (by decide) rfl ?_
  refine tr_call (.invokestatic 301) 301 8 2 0 m_L_portByLength [.ref 1000, .int 0] [] (some (.int v1)) h3 rfl rfl rfl rfl rfl rfl rfl rfl rfl (tr_cok rfl (Or.inl rfl)) c_2 ?_
  have hL2 := c_2.2
  refine tr_s (.aload_n 1) 1 141 [w0, some (.ref 1000), some (.ref (c0 + 1000)), some (.int v0), w4] [.ref 1000, .int v1] h3 rfl rfl rfl ?_
  refine tr_ic 0 0 (by decide) rfl ?_
  refine tr_call (.invokestatic 303) 303 8 2 0 m_L_catByHeard [.ref 1000, .int 0] [.int v1] (some (.int v2)) h4 rfl rfl rfl rfl rfl rfl rfl rfl rfl (tr_cok rfl (Or.inl rfl)) c_3 ?_
  have hL3 := c_3.2
  refine tr_s .iadd 1 146 [w0, some (.ref 1000), some (.ref (c0 + 1000)), some (.int v0), w4] [.int (v1 + v2)] h4 rfl rfl rfl ?_
  refine tr_s (.aload_n 1) 1 147 [w0, some (.ref 1000), some (.ref (c0 + 1000)), some (.int v0), w4] [.ref 1000, .int (v1 + v2)] h4 rfl rfl rfl ?_
  refine tr_bi 114 114 (by decide) rfl ?_
  refine tr_call (.invokestatic 269) 269 8 2 0 m_L_winner [.ref 1000, .int 114] [.int (v1 + v2)] (some (.int v3)) h5 rfl rfl rfl rfl rfl rfl rfl rfl rfl (tr_cok rfl (Or.inl rfl)) c_4 ?_
  have hL4 := c_4.2
  refine tr_s .iadd 1 153 [w0, some (.ref 1000), some (.ref (c0 + 1000)), some (.int v0), w4] [.int ((v1 + v2) + v3)] h5 rfl rfl rfl ?_
  refine tr_s (.aload_n 1) 1 154 [w0, some (.ref 1000), some (.ref (c0 + 1000)), some (.int v0), w4] [.ref 1000, .int ((v1 + v2) + v3)] h5 rfl rfl rfl ?_
  refine tr_ic 0 0 (by decide) rfl ?_
  refine tr_ic 0 0 (by decide) rfl ?_
  refine tr_call (.invokestatic 247) 247 8 3 0 m_L_leastEffort [.ref 1000, .int 0, .int 0] [.int ((v1 + v2) + v3)] (some (.int v4)) h6 rfl rfl rfl rfl rfl rfl rfl rfl rfl (tr_cok rfl (Or.inl rfl)) c_5 ?_
  have hL5 := c_5.2
  refine tr_s .iadd 1 160 [w0, some (.ref 1000), some (.ref (c0 + 1000)), some (.int v0), w4] [.int (((v1 + v2) + v3) + v4)] h6 rfl rfl rfl ?_
  refine tr_s (.aload_n 1) 1 161 [w0, some (.ref 1000), some (.ref (c0 + 1000)), some (.int v0), w4] [.ref 1000, .int (((v1 + v2) + v3) + v4)] h6 rfl rfl rfl ?_
  refine tr_ic 2 2 (by decide) rfl ?_
  refine tr_call (.invokevirtual 305) 305 0 1 0 m_X8_writeRow [.ref 1000, .int 2] [.int (((v1 + v2) + v3) + v4)] (some (.int v5)) h7 rfl rfl rfl rfl rfl rfl rfl rfl rfl (tr_cok rfl (Or.inr ⟨_, _, rfl, tr_rc (hh_rd (hh_obj hL5 (k := 0) rfl).1) (by decide)⟩)) c_6 ?_
  have hL6 := c_6.2
  refine tr_s .iadd 1 166 [w0, some (.ref 1000), some (.ref (c0 + 1000)), some (.int v0), w4] [.int ((((v1 + v2) + v3) + v4) + v5)] h7 rfl rfl rfl ?_
  refine tr_st (.istore 4) 2 4 0 (.int ((((v1 + v2) + v3) + v4) + v5)) rfl rfl rfl rfl rfl rfl rfl ?_
  refine tr_s (.aload_n 2) 1 169 [w0, some (.ref 1000), some (.ref (c0 + 1000)), some (.int v0), some (.int ((((v1 + v2) + v3) + v4) + v5))] [.ref (c0 + 1000)] h7 rfl rfl rfl ?_
  refine tr_s (.aload_n 1) 1 170 [w0, some (.ref 1000), some (.ref (c0 + 1000)), some (.int v0), some (.int ((((v1 + v2) + v3) + v4) + v5))] [.ref 1000, .ref (c0 + 1000)] h7 rfl rfl rfl ?_
  refine tr_call (.invokestatic 283) 283 2 1 0 m_L_seen [.ref 1000] [.ref (c0 + 1000)] (some (.ref (c1 + 1000))) h8 rfl rfl rfl rfl rfl rfl rfl rfl rfl (tr_cok rfl (Or.inl rfl)) c_7 ?_
  have hL7 := c_7.2
  refine tr_call (.invokestatic 292) 292 2 2 0 m_L_areAlike [.ref (c0 + 1000), .ref (c1 + 1000)] [] (some (.int v6)) h9 rfl rfl rfl rfl rfl rfl rfl rfl rfl (tr_cok rfl (Or.inl rfl)) c_8 ?_
  have hL8 := c_8.2
  exact tr_if1 .ne 5 181 v6 rfl rfl rfl (fun hc => t ((tr_ne hc).1 rfl)) (fun hc => f ((tr_ne hc).2 rfl))
theorem sg_law_179 {g : tr_g} {d : Nat} {h : ev_AH} {r : ev_O × ev_AH} {w0 w1 w2 w3 w4 : Option Value} (hL : hh_L h) (hr : r = (.inl (some (.int 0)), h)) : tr_L g d m_law 179 [w0, w1, w2, w3, w4] [] h r := by
  refine tr_ic 0 0 (by decide) rfl ?_
  exact tl_ret hL .ireturn 1 (some (.int 0)) rfl rfl rfl rfl hr
theorem sg_law_181 {g : tr_g} {d : Nat} {h : ev_AH} {r : ev_O × ev_AH} {w0 : Option Value} {a2 : Nat} {x3 x4 v0 v1 v2 v3 v4 : Int32} {h1 h2 h3 h4 h5 : ev_AH} (hL : hh_L h) (c_0 : tr_L g d m_L_deliberate 0 [some (.ref 1000), none] [] h (.inl (some (.int v0)), h1)) (c_1 : tr_L g d m_L_setMirror 0 [some (.ref 1000), some (.int 17), some (.int 47), none] [] h1 (.inl (some (.int v1)), h2)) (c_2 : tr_L g d m_L_adds 0 [some (.ref 1000), some (.int 3), some (.int 5), none, none, none, none] [] h2 (.inl (some (.int v2)), h3)) (c_3 : tr_L g d m_L_retry 0 [some (.ref 1000), none] [] h3 (.inl (some (.int v3)), h4)) (c_4 : tr_L g d m_L_testify 0 [some (.ref 1000), some (.int 9), some (.int 99), none] [] h4 (.inl (some (.int v4)), h5)) (t : (x4 + ((((v0 + v1) + v2) + v3) + v4)) ≤ (-90000000) → tr_L g (d + 1) m_law 259 [w0, some (.ref 1000), some (.ref (a2 + 1000)), some (.int x3), some (.int (x4 + ((((v0 + v1) + v2) + v3) + v4)))] [] h5 r) (f : (-90000000) < (x4 + ((((v0 + v1) + v2) + v3) + v4)) → tr_L g (d + 1) m_law 227 [w0, some (.ref 1000), some (.ref (a2 + 1000)), some (.int x3), some (.int (x4 + ((((v0 + v1) + v2) + v3) + v4)))] [] h5 r) : tr_L g (d + 1) m_law 181 [w0, some (.ref 1000), some (.ref (a2 + 1000)), some (.int x3), some (.int x4)] [] h r := by
  refine tr_s (.iload 4) 2 183 [w0, some (.ref 1000), some (.ref (a2 + 1000)), some (.int x3), some (.int x4)] [.int x4] h rfl rfl rfl ?_
  refine tr_s (.aload_n 1) 1 184 [w0, some (.ref 1000), some (.ref (a2 + 1000)), some (.int x3), some (.int x4)] [.ref 1000, .int x4] h rfl rfl rfl ?_
  refine tr_call (.invokestatic 140) 140 8 1 0 m_L_deliberate [.ref 1000] [.int x4] (some (.int v0)) h1 rfl rfl rfl rfl rfl rfl rfl rfl rfl (tr_cok rfl (Or.inl rfl)) c_0 ?_
  have hL0 := c_0.2
  refine tr_s (.aload_n 1) 1 188 [w0, some (.ref 1000), some (.ref (a2 + 1000)), some (.int x3), some (.int x4)] [.ref 1000, .int v0, .int x4] h1 rfl rfl rfl ?_
  refine tr_bi 17 17 (by decide) rfl ?_
  refine tr_bi 47 47 (by decide) rfl ?_
  refine tr_call (.invokestatic 126) 126 8 3 0 m_L_setMirror [.ref 1000, .int 17, .int 47] [.int v0, .int x4] (some (.int v1)) h2 rfl rfl rfl rfl rfl rfl rfl rfl rfl (tr_cok rfl (Or.inl rfl)) c_1 ?_
  have hL1 := c_1.2
  refine tr_s .iadd 1 196 [w0, some (.ref 1000), some (.ref (a2 + 1000)), some (.int x3), some (.int x4)] [.int (v0 + v1), .int x4] h2 rfl rfl rfl ?_
  refine tr_s (.aload_n 1) 1 197 [w0, some (.ref 1000), some (.ref (a2 + 1000)), some (.int x3), some (.int x4)] [.ref 1000, .int (v0 + v1), .int x4] h2 rfl rfl rfl ?_
  refine tr_ic 3 3 (by decide) rfl ?_
  refine tr_ic 5 5 (by decide) rfl ?_
  refine tr_call (.invokestatic 129) 129 2 3 0 m_L_adds [.ref 1000, .int 3, .int 5] [.int (v0 + v1), .int x4] (some (.int v2)) h3 rfl rfl rfl rfl rfl rfl rfl rfl rfl (tr_cok rfl (Or.inl rfl)) c_2 ?_
  have hL2 := c_2.2
  refine tr_s .iadd 1 203 [w0, some (.ref 1000), some (.ref (a2 + 1000)), some (.int x3), some (.int x4)] [.int ((v0 + v1) + v2), .int x4] h3 rfl rfl rfl ?_
  refine tr_s (.aload_n 1) 1 204 [w0, some (.ref 1000), some (.ref (a2 + 1000)), some (.int x3), some (.int x4)] [.ref 1000, .int ((v0 + v1) + v2), .int x4] h3 rfl rfl rfl ?_
  refine tr_call (.invokestatic 151) 151 8 1 0 m_L_retry [.ref 1000] [.int ((v0 + v1) + v2), .int x4] (some (.int v3)) h4 rfl rfl rfl rfl rfl rfl rfl rfl rfl (tr_cok rfl (Or.inl rfl)) c_3 ?_
  have hL3 := c_3.2
  refine tr_s .iadd 1 208 [w0, some (.ref 1000), some (.ref (a2 + 1000)), some (.int x3), some (.int x4)] [.int (((v0 + v1) + v2) + v3), .int x4] h4 rfl rfl rfl ?_
  refine tr_s (.aload_n 1) 1 209 [w0, some (.ref 1000), some (.ref (a2 + 1000)), some (.int x3), some (.int x4)] [.ref 1000, .int (((v0 + v1) + v2) + v3), .int x4] h4 rfl rfl rfl ?_
  refine tr_bi 9 9 (by decide) rfl ?_
  refine tr_bi 99 99 (by decide) rfl ?_
  refine tr_call (.invokestatic 133) 133 8 3 0 m_L_testify [.ref 1000, .int 9, .int 99] [.int (((v0 + v1) + v2) + v3), .int x4] (some (.int v4)) h5 rfl rfl rfl rfl rfl rfl rfl rfl rfl (tr_cok rfl (Or.inl rfl)) c_4 ?_
  have hL4 := c_4.2
  refine tr_s .iadd 1 217 [w0, some (.ref 1000), some (.ref (a2 + 1000)), some (.int x3), some (.int x4)] [.int ((((v0 + v1) + v2) + v3) + v4), .int x4] h5 rfl rfl rfl ?_
  refine tr_s .iadd 1 218 [w0, some (.ref 1000), some (.ref (a2 + 1000)), some (.int x3), some (.int x4)] [.int (x4 + ((((v0 + v1) + v2) + v3) + v4))] h5 rfl rfl rfl ?_
  refine tr_st (.istore 4) 2 4 0 (.int (x4 + ((((v0 + v1) + v2) + v3) + v4))) rfl rfl rfl rfl rfl rfl rfl ?_
  refine tr_s (.iload 4) 2 222 [w0, some (.ref 1000), some (.ref (a2 + 1000)), some (.int x3), some (.int (x4 + ((((v0 + v1) + v2) + v3) + v4)))] [.int (x4 + ((((v0 + v1) + v2) + v3) + v4))] h5 rfl rfl rfl ?_
  refine tr_s (.ldc 142) 2 224 [w0, some (.ref 1000), some (.ref (a2 + 1000)), some (.int x3), some (.int (x4 + ((((v0 + v1) + v2) + v3) + v4)))] [.int (-90000000), .int (x4 + ((((v0 + v1) + v2) + v3) + v4))] h5 rfl rfl rfl ?_
  exact tr_if2 .le 35 259 (x4 + ((((v0 + v1) + v2) + v3) + v4)) (-90000000) rfl rfl rfl (fun hc => t ((tr_le hc).1 rfl)) (fun hc => f ((tr_le hc).2 rfl))
theorem sg_law_227 {g : tr_g} {d : Nat} {h : ev_AH} {r : ev_O × ev_AH} {w0 w4 : Option Value} {a2 : Nat} {x3 v0 : Int32} {h1 : ev_AH} (hL : hh_L h) (c_0 : tr_L g d m_L_restoreSnapshot 0 [some (.ref 1000), none] [] h (.inl (some (.int v0)), h1)) (t : v0 ≠ x3 → tr_L g (d + 1) m_law 259 [w0, some (.ref 1000), some (.ref (a2 + 1000)), some (.int x3), w4] [] h1 r) (f : v0 = x3 → tr_L g (d + 1) m_law 235 [w0, some (.ref 1000), some (.ref (a2 + 1000)), some (.int x3), w4] [] h1 r) : tr_L g (d + 1) m_law 227 [w0, some (.ref 1000), some (.ref (a2 + 1000)), some (.int x3), w4] [] h r := by
  refine tr_s (.aload_n 1) 1 228 [w0, some (.ref 1000), some (.ref (a2 + 1000)), some (.int x3), w4] [.ref 1000] h rfl rfl rfl ?_
  refine tr_call (.invokestatic 308) 308 8 1 0 m_L_restoreSnapshot [.ref 1000] [] (some (.int v0)) h1 rfl rfl rfl rfl rfl rfl rfl rfl rfl (tr_cok rfl (Or.inl rfl)) c_0 ?_
  have hL0 := c_0.2
  refine tr_s (.iload_n 3) 1 232 [w0, some (.ref 1000), some (.ref (a2 + 1000)), some (.int x3), w4] [.int x3, .int v0] h1 rfl rfl rfl ?_
  exact tr_if2 .ne 27 259 v0 x3 rfl rfl rfl (fun hc => t ((tr_ne hc).1 rfl)) (fun hc => f ((tr_ne hc).2 rfl))
theorem sg_law_235 {g : tr_g} {d : Nat} {h : ev_AH} {r : ev_O × ev_AH} {w0 w3 w4 : Option Value} {a2 c0 : Nat} {h1 h2 : ev_AH} {v0 : Int32} (hL : hh_L h) (c_0 : tr_L g d m_L_seen 0 [some (.ref 1000), none, none, none] [] h (.inl (some (.ref (c0 + 1000))), h1)) (c_1 : tr_L g d m_L_areAlike 0 [some (.ref (a2 + 1000)), some (.ref (c0 + 1000)), none] [] h1 (.inl (some (.int v0)), h2)) (t : v0 = 0 → tr_L g (d + 1) m_law 259 [w0, some (.ref 1000), some (.ref (a2 + 1000)), w3, w4] [] h2 r) (f : v0 ≠ 0 → tr_L g (d + 1) m_law 246 [w0, some (.ref 1000), some (.ref (a2 + 1000)), w3, w4] [] h2 r) : tr_L g (d + 1) m_law 235 [w0, some (.ref 1000), some (.ref (a2 + 1000)), w3, w4] [] h r := by
  refine tr_s (.aload_n 2) 1 236 [w0, some (.ref 1000), some (.ref (a2 + 1000)), w3, w4] [.ref (a2 + 1000)] h rfl rfl rfl ?_
  refine tr_s (.aload_n 1) 1 237 [w0, some (.ref 1000), some (.ref (a2 + 1000)), w3, w4] [.ref 1000, .ref (a2 + 1000)] h rfl rfl rfl ?_
  refine tr_call (.invokestatic 283) 283 2 1 0 m_L_seen [.ref 1000] [.ref (a2 + 1000)] (some (.ref (c0 + 1000))) h1 rfl rfl rfl rfl rfl rfl rfl rfl rfl (tr_cok rfl (Or.inl rfl)) c_0 ?_
  have hL0 := c_0.2
  refine tr_call (.invokestatic 292) 292 2 2 0 m_L_areAlike [.ref (a2 + 1000), .ref (c0 + 1000)] [] (some (.int v0)) h2 rfl rfl rfl rfl rfl rfl rfl rfl rfl (tr_cok rfl (Or.inl rfl)) c_1 ?_
  have hL1 := c_1.2
  exact tr_if1 .eq 16 259 v0 rfl rfl rfl (fun hc => t ((tr_eq hc).1 rfl)) (fun hc => f ((tr_eq hc).2 rfl))
theorem sg_law_246 {g : tr_g} {d : Nat} {h : ev_AH} {r : ev_O × ev_AH} {w0 w2 w3 w4 : Option Value} {h1 : ev_AH} {v0 : Int32} (hL : hh_L h) (c_0 : tr_L g d m_L_undo 0 [some (.ref 1000), none] [] h (.inl (some (.int v0)), h1)) (t : v0 ≠ (-900001) → tr_L g (d + 1) m_law 259 [w0, some (.ref 1000), w2, w3, w4] [] h1 r) (f : v0 = (-900001) → tr_L g (d + 1) m_law 255 [w0, some (.ref 1000), w2, w3, w4] [] h1 r) : tr_L g (d + 1) m_law 246 [w0, some (.ref 1000), w2, w3, w4] [] h r := by
  refine tr_s (.aload_n 1) 1 247 [w0, some (.ref 1000), w2, w3, w4] [.ref 1000] h rfl rfl rfl ?_
  refine tr_call (.invokestatic 296) 296 8 1 0 m_L_undo [.ref 1000] [] (some (.int v0)) h1 rfl rfl rfl rfl rfl rfl rfl rfl rfl (tr_cok rfl (Or.inl rfl)) c_0 ?_
  have hL0 := c_0.2
  refine tr_s (.ldc 17) 2 252 [w0, some (.ref 1000), w2, w3, w4] [.int (-900001), .int v0] h1 rfl rfl rfl ?_
  exact tr_if2 .ne 7 259 v0 (-900001) rfl rfl rfl (fun hc => t ((tr_ne hc).1 rfl)) (fun hc => f ((tr_ne hc).2 rfl))
theorem sg_law_255 {g : tr_g} {d : Nat} {h : ev_AH} {r : ev_O × ev_AH} {w0 w1 w2 w3 w4 : Option Value} (hL : hh_L h) (hr : r = (.inl (some (.int 1)), h)) : tr_L g d m_law 255 [w0, w1, w2, w3, w4] [] h r := by
  refine tr_ic 1 1 (by decide) rfl ?_
  refine tr_goto 4 260 rfl rfl rfl ?_
  exact tl_ret hL .ireturn 1 (some (.int 1)) rfl rfl rfl rfl hr
theorem sg_law_259 {g : tr_g} {d : Nat} {h : ev_AH} {r : ev_O × ev_AH} {w0 w1 w2 w3 w4 : Option Value} (hL : hh_L h) (hr : r = (.inl (some (.int 0)), h)) : tr_L g d m_law 259 [w0, w1, w2, w3, w4] [] h r := by
  refine tr_ic 0 0 (by decide) rfl ?_
  exact tl_ret hL .ireturn 1 (some (.int 0)) rfl rfl rfl rfl hr
