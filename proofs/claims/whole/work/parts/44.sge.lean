/-! runs of the law's wrappers, from place to place; laid by a program (wip/whole/gen/gen40.py) -/
theorem sx_L_addCat_0_9_0 {g : tr_g} {d : Nat} {h : ev_AH} {r : ev_O × ev_AH} {x1 x2 x3 x4 v0 : Int32} {h1 hx : ev_AH} (hL : hh_L h) (cx : tr_L g d m_X8_addCat 0 [some (.ref 1000), some (.int x1), some (.int x2), some (.int x3), some (.int x4), none] [] h (.inr 0, hx)) (hr : r = (.inl (some (.int 1)), hx)) : tr_L g (d + 1) m_L_addCat 0 [some (.ref 1000), some (.int x1), some (.int x2), some (.int x3), some (.int x4), some (.ref 1109), none] [] h r := by
  refine tr_s (.aload 5) 2 2 [some (.ref 1000), some (.int x1), some (.int x2), some (.int x3), some (.int x4), some (.ref 1109), none] [.ref 1109] h rfl rfl rfl ?_
  refine tr_ic 0 0 (by decide) rfl ?_
  refine tr_s (.aload_n 0) 1 4 [some (.ref 1000), some (.int x1), some (.int x2), some (.int x3), some (.int x4), some (.ref 1109), none] [.ref 1000, .int 0, .ref 1109] h rfl rfl rfl ?_
  refine tr_s (.iload_n 1) 1 5 [some (.ref 1000), some (.int x1), some (.int x2), some (.int x3), some (.int x4), some (.ref 1109), none] [.int x1, .ref 1000, .int 0, .ref 1109] h rfl rfl rfl ?_
  refine tr_s (.iload_n 2) 1 6 [some (.ref 1000), some (.int x1), some (.int x2), some (.int x3), some (.int x4), some (.ref 1109), none] [.int x2, .int x1, .ref 1000, .int 0, .ref 1109] h rfl rfl rfl ?_
  refine tr_s (.iload_n 3) 1 7 [some (.ref 1000), some (.int x1), some (.int x2), some (.int x3), some (.int x4), some (.ref 1109), none] [.int x3, .int x2, .int x1, .ref 1000, .int 0, .ref 1109] h rfl rfl rfl ?_
  refine tr_s (.iload 4) 2 9 [some (.ref 1000), some (.int x1), some (.int x2), some (.int x3), some (.int x4), some (.ref 1109), none] [.int x4, .int x3, .int x2, .int x1, .ref 1000, .int 0, .ref 1109] h rfl rfl rfl ?_
  refine tr_callh (.invokevirtual 7) 7 0 4 0 m_X8_addCat [.ref 1000, .int x1, .int x2, .int x3, .int x4] [.int 0, .ref 1109] 0 19 6 hx rfl rfl rfl rfl rfl rfl rfl rfl rfl (tr_cok rfl (Or.inr ⟨_, _, rfl, tr_rc (hh_rd (hh_obj hL (k := 0) rfl).1) (by decide)⟩)) rfl rfl cx ?_
  refine tr_ic 1 1 (by decide) rfl ?_
  exact tl_ret cx.2 .ireturn 1 (some (.int 1)) rfl rfl rfl rfl hr
theorem sx_L_addCat_0_9_1 {g : tr_g} {d : Nat} {h : ev_AH} {r : ev_O × ev_AH} {x1 x2 x3 x4 v0 : Int32} {h1 hx : ev_AH} (hL : hh_L h) (cx : tr_L g d m_X8_addCat 0 [some (.ref 1000), some (.int x1), some (.int x2), some (.int x3), some (.int x4), none] [] h (.inr 1, hx)) (hr : r = (.inl (some (.int 2)), hx)) : tr_L g (d + 1) m_L_addCat 0 [some (.ref 1000), some (.int x1), some (.int x2), some (.int x3), some (.int x4), some (.ref 1109), none] [] h r := by
  refine tr_s (.aload 5) 2 2 [some (.ref 1000), some (.int x1), some (.int x2), some (.int x3), some (.int x4), some (.ref 1109), none] [.ref 1109] h rfl rfl rfl ?_
  refine tr_ic 0 0 (by decide) rfl ?_
  refine tr_s (.aload_n 0) 1 4 [some (.ref 1000), some (.int x1), some (.int x2), some (.int x3), some (.int x4), some (.ref 1109), none] [.ref 1000, .int 0, .ref 1109] h rfl rfl rfl ?_
  refine tr_s (.iload_n 1) 1 5 [some (.ref 1000), some (.int x1), some (.int x2), some (.int x3), some (.int x4), some (.ref 1109), none] [.int x1, .ref 1000, .int 0, .ref 1109] h rfl rfl rfl ?_
  refine tr_s (.iload_n 2) 1 6 [some (.ref 1000), some (.int x1), some (.int x2), some (.int x3), some (.int x4), some (.ref 1109), none] [.int x2, .int x1, .ref 1000, .int 0, .ref 1109] h rfl rfl rfl ?_
  refine tr_s (.iload_n 3) 1 7 [some (.ref 1000), some (.int x1), some (.int x2), some (.int x3), some (.int x4), some (.ref 1109), none] [.int x3, .int x2, .int x1, .ref 1000, .int 0, .ref 1109] h rfl rfl rfl ?_
  refine tr_s (.iload 4) 2 9 [some (.ref 1000), some (.int x1), some (.int x2), some (.int x3), some (.int x4), some (.ref 1109), none] [.int x4, .int x3, .int x2, .int x1, .ref 1000, .int 0, .ref 1109] h rfl rfl rfl ?_
  refine tr_callh (.invokevirtual 7) 7 0 4 0 m_X8_addCat [.ref 1000, .int x1, .int x2, .int x3, .int x4] [.int 0, .ref 1109] 1 23 6 hx rfl rfl rfl rfl rfl rfl rfl rfl rfl (tr_cok rfl (Or.inr ⟨_, _, rfl, tr_rc (hh_rd (hh_obj hL (k := 0) rfl).1) (by decide)⟩)) rfl rfl cx ?_
  refine tr_ic 2 2 (by decide) rfl ?_
  exact tl_ret cx.2 .ireturn 1 (some (.int 2)) rfl rfl rfl rfl hr
theorem sx_L_addCat_0_9_2 {g : tr_g} {d : Nat} {h : ev_AH} {r : ev_O × ev_AH} {x1 x2 x3 x4 v0 : Int32} {h1 hx : ev_AH} (hL : hh_L h) (cx : tr_L g d m_X8_addCat 0 [some (.ref 1000), some (.int x1), some (.int x2), some (.int x3), some (.int x4), none] [] h (.inr 2, hx)) (hr : r = (.inl (some (.int 3)), hx)) : tr_L g (d + 1) m_L_addCat 0 [some (.ref 1000), some (.int x1), some (.int x2), some (.int x3), some (.int x4), some (.ref 1109), none] [] h r := by
  refine tr_s (.aload 5) 2 2 [some (.ref 1000), some (.int x1), some (.int x2), some (.int x3), some (.int x4), some (.ref 1109), none] [.ref 1109] h rfl rfl rfl ?_
  refine tr_ic 0 0 (by decide) rfl ?_
  refine tr_s (.aload_n 0) 1 4 [some (.ref 1000), some (.int x1), some (.int x2), some (.int x3), some (.int x4), some (.ref 1109), none] [.ref 1000, .int 0, .ref 1109] h rfl rfl rfl ?_
  refine tr_s (.iload_n 1) 1 5 [some (.ref 1000), some (.int x1), some (.int x2), some (.int x3), some (.int x4), some (.ref 1109), none] [.int x1, .ref 1000, .int 0, .ref 1109] h rfl rfl rfl ?_
  refine tr_s (.iload_n 2) 1 6 [some (.ref 1000), some (.int x1), some (.int x2), some (.int x3), some (.int x4), some (.ref 1109), none] [.int x2, .int x1, .ref 1000, .int 0, .ref 1109] h rfl rfl rfl ?_
  refine tr_s (.iload_n 3) 1 7 [some (.ref 1000), some (.int x1), some (.int x2), some (.int x3), some (.int x4), some (.ref 1109), none] [.int x3, .int x2, .int x1, .ref 1000, .int 0, .ref 1109] h rfl rfl rfl ?_
  refine tr_s (.iload 4) 2 9 [some (.ref 1000), some (.int x1), some (.int x2), some (.int x3), some (.int x4), some (.ref 1109), none] [.int x4, .int x3, .int x2, .int x1, .ref 1000, .int 0, .ref 1109] h rfl rfl rfl ?_
  refine tr_callh (.invokevirtual 7) 7 0 4 0 m_X8_addCat [.ref 1000, .int x1, .int x2, .int x3, .int x4] [.int 0, .ref 1109] 2 27 6 hx rfl rfl rfl rfl rfl rfl rfl rfl rfl (tr_cok rfl (Or.inr ⟨_, _, rfl, tr_rc (hh_rd (hh_obj hL (k := 0) rfl).1) (by decide)⟩)) rfl rfl cx ?_
  refine tr_ic 3 3 (by decide) rfl ?_
  exact tl_ret cx.2 .ireturn 1 (some (.int 3)) rfl rfl rfl rfl hr
theorem sg_L_addCat_0 {g : tr_g} {d : Nat} {h : ev_AH} {r : ev_O × ev_AH} {x1 x2 x3 x4 v0 : Int32} {h1 : ev_AH} (hL : hh_L h) (c_0 : tr_L g d m_X8_addCat 0 [some (.ref 1000), some (.int x1), some (.int x2), some (.int x3), some (.int x4), none] [] h (.inl (some (.int v0)), h1)) (hr : r = (.inl (some (.int 0)), ev_wr h1 1109 (.inr (100, (hh_v h1 109).set 0 (.long v0.toInt64))))) : tr_L g (d + 1) m_L_addCat 0 [some (.ref 1000), some (.int x1), some (.int x2), some (.int x3), some (.int x4), some (.ref 1109), none] [] h r := by
  refine tr_s (.aload 5) 2 2 [some (.ref 1000), some (.int x1), some (.int x2), some (.int x3), some (.int x4), some (.ref 1109), none] [.ref 1109] h rfl rfl rfl ?_
  refine tr_ic 0 0 (by decide) rfl ?_
  refine tr_s (.aload_n 0) 1 4 [some (.ref 1000), some (.int x1), some (.int x2), some (.int x3), some (.int x4), some (.ref 1109), none] [.ref 1000, .int 0, .ref 1109] h rfl rfl rfl ?_
  refine tr_s (.iload_n 1) 1 5 [some (.ref 1000), some (.int x1), some (.int x2), some (.int x3), some (.int x4), some (.ref 1109), none] [.int x1, .ref 1000, .int 0, .ref 1109] h rfl rfl rfl ?_
  refine tr_s (.iload_n 2) 1 6 [some (.ref 1000), some (.int x1), some (.int x2), some (.int x3), some (.int x4), some (.ref 1109), none] [.int x2, .int x1, .ref 1000, .int 0, .ref 1109] h rfl rfl rfl ?_
  refine tr_s (.iload_n 3) 1 7 [some (.ref 1000), some (.int x1), some (.int x2), some (.int x3), some (.int x4), some (.ref 1109), none] [.int x3, .int x2, .int x1, .ref 1000, .int 0, .ref 1109] h rfl rfl rfl ?_
  refine tr_s (.iload 4) 2 9 [some (.ref 1000), some (.int x1), some (.int x2), some (.int x3), some (.int x4), some (.ref 1109), none] [.int x4, .int x3, .int x2, .int x1, .ref 1000, .int 0, .ref 1109] h rfl rfl rfl ?_
  refine tr_call (.invokevirtual 7) 7 0 4 0 m_X8_addCat [.ref 1000, .int x1, .int x2, .int x3, .int x4] [.int 0, .ref 1109] (some (.int v0)) h1 rfl rfl rfl rfl rfl rfl rfl rfl rfl (tr_cok rfl (Or.inr ⟨_, _, rfl, tr_rc (hh_rd (hh_obj hL (k := 0) rfl).1) (by decide)⟩)) c_0 ?_
  have hL0 := c_0.2
  refine tr_s .i2l 1 13 [some (.ref 1000), some (.int x1), some (.int x2), some (.int x3), some (.int x4), some (.ref 1109), none] [.long v0.toInt64, .int 0, .ref 1109] h1 rfl rfl rfl ?_
  refine tr_las 1109 v0.toInt64 _ rfl (by decide) (hh_obj hL0 (k := 109) rfl).1 (hh_obj hL0 (k := 109) rfl).2 ?_
  have hL1 : hh_L (ev_wr h1 1109 (.inr (100, (hh_v h1 109).set 0 (.long v0.toInt64)))) := hh_L_sv (sl := 0) (v := .long v0.toInt64) hL0 (show hh_t[109]? = some (.inr (100, [2])) from rfl) rfl ⟨_, rfl⟩
  refine tr_goto 15 29 rfl rfl rfl ?_
  refine tr_ic 0 0 (by decide) rfl ?_
  exact tl_ret hL1 .ireturn 1 (some (.int 0)) rfl rfl rfl rfl hr
theorem sx_L_setMirror_0_5_0 {g : tr_g} {d : Nat} {h : ev_AH} {r : ev_O × ev_AH} {x1 x2 v0 : Int32} {h1 hx : ev_AH} (hL : hh_L h) (cx : tr_L g d m_X8_setMirror 0 [some (.ref 1000), some (.int x1), some (.int x2), none] [] h (.inr 0, hx)) (hr : r = (.inl (some (.int 1)), hx)) : tr_L g (d + 1) m_L_setMirror 0 [some (.ref 1000), some (.int x1), some (.int x2), some (.ref 1109), none] [] h r := by
  refine tr_s (.aload_n 3) 1 1 [some (.ref 1000), some (.int x1), some (.int x2), some (.ref 1109), none] [.ref 1109] h rfl rfl rfl ?_
  refine tr_ic 0 0 (by decide) rfl ?_
  refine tr_s (.aload_n 0) 1 3 [some (.ref 1000), some (.int x1), some (.int x2), some (.ref 1109), none] [.ref 1000, .int 0, .ref 1109] h rfl rfl rfl ?_
  refine tr_s (.iload_n 1) 1 4 [some (.ref 1000), some (.int x1), some (.int x2), some (.ref 1109), none] [.int x1, .ref 1000, .int 0, .ref 1109] h rfl rfl rfl ?_
  refine tr_s (.iload_n 2) 1 5 [some (.ref 1000), some (.int x1), some (.int x2), some (.ref 1109), none] [.int x2, .int x1, .ref 1000, .int 0, .ref 1109] h rfl rfl rfl ?_
  refine tr_callh (.invokevirtual 19) 19 0 2 0 m_X8_setMirror [.ref 1000, .int x1, .int x2] [.int 0, .ref 1109] 0 15 4 hx rfl rfl rfl rfl rfl rfl rfl rfl rfl (tr_cok rfl (Or.inr ⟨_, _, rfl, tr_rc (hh_rd (hh_obj hL (k := 0) rfl).1) (by decide)⟩)) rfl rfl cx ?_
  refine tr_ic 1 1 (by decide) rfl ?_
  exact tl_ret cx.2 .ireturn 1 (some (.int 1)) rfl rfl rfl rfl hr
theorem sx_L_setMirror_0_5_1 {g : tr_g} {d : Nat} {h : ev_AH} {r : ev_O × ev_AH} {x1 x2 v0 : Int32} {h1 hx : ev_AH} (hL : hh_L h) (cx : tr_L g d m_X8_setMirror 0 [some (.ref 1000), some (.int x1), some (.int x2), none] [] h (.inr 1, hx)) (hr : r = (.inl (some (.int 2)), hx)) : tr_L g (d + 1) m_L_setMirror 0 [some (.ref 1000), some (.int x1), some (.int x2), some (.ref 1109), none] [] h r := by
  refine tr_s (.aload_n 3) 1 1 [some (.ref 1000), some (.int x1), some (.int x2), some (.ref 1109), none] [.ref 1109] h rfl rfl rfl ?_
  refine tr_ic 0 0 (by decide) rfl ?_
  refine tr_s (.aload_n 0) 1 3 [some (.ref 1000), some (.int x1), some (.int x2), some (.ref 1109), none] [.ref 1000, .int 0, .ref 1109] h rfl rfl rfl ?_
  refine tr_s (.iload_n 1) 1 4 [some (.ref 1000), some (.int x1), some (.int x2), some (.ref 1109), none] [.int x1, .ref 1000, .int 0, .ref 1109] h rfl rfl rfl ?_
  refine tr_s (.iload_n 2) 1 5 [some (.ref 1000), some (.int x1), some (.int x2), some (.ref 1109), none] [.int x2, .int x1, .ref 1000, .int 0, .ref 1109] h rfl rfl rfl ?_
  refine tr_callh (.invokevirtual 19) 19 0 2 0 m_X8_setMirror [.ref 1000, .int x1, .int x2] [.int 0, .ref 1109] 1 19 4 hx rfl rfl rfl rfl rfl rfl rfl rfl rfl (tr_cok rfl (Or.inr ⟨_, _, rfl, tr_rc (hh_rd (hh_obj hL (k := 0) rfl).1) (by decide)⟩)) rfl rfl cx ?_
  refine tr_ic 2 2 (by decide) rfl ?_
  exact tl_ret cx.2 .ireturn 1 (some (.int 2)) rfl rfl rfl rfl hr
theorem sx_L_setMirror_0_5_2 {g : tr_g} {d : Nat} {h : ev_AH} {r : ev_O × ev_AH} {x1 x2 v0 : Int32} {h1 hx : ev_AH} (hL : hh_L h) (cx : tr_L g d m_X8_setMirror 0 [some (.ref 1000), some (.int x1), some (.int x2), none] [] h (.inr 2, hx)) (hr : r = (.inl (some (.int 3)), hx)) : tr_L g (d + 1) m_L_setMirror 0 [some (.ref 1000), some (.int x1), some (.int x2), some (.ref 1109), none] [] h r := by
  refine tr_s (.aload_n 3) 1 1 [some (.ref 1000), some (.int x1), some (.int x2), some (.ref 1109), none] [.ref 1109] h rfl rfl rfl ?_
  refine tr_ic 0 0 (by decide) rfl ?_
  refine tr_s (.aload_n 0) 1 3 [some (.ref 1000), some (.int x1), some (.int x2), some (.ref 1109), none] [.ref 1000, .int 0, .ref 1109] h rfl rfl rfl ?_
  refine tr_s (.iload_n 1) 1 4 [some (.ref 1000), some (.int x1), some (.int x2), some (.ref 1109), none] [.int x1, .ref 1000, .int 0, .ref 1109] h rfl rfl rfl ?_
  refine tr_s (.iload_n 2) 1 5 [some (.ref 1000), some (.int x1), some (.int x2), some (.ref 1109), none] [.int x2, .int x1, .ref 1000, .int 0, .ref 1109] h rfl rfl rfl ?_
  refine tr_callh (.invokevirtual 19) 19 0 2 0 m_X8_setMirror [.ref 1000, .int x1, .int x2] [.int 0, .ref 1109] 2 23 4 hx rfl rfl rfl rfl rfl rfl rfl rfl rfl (tr_cok rfl (Or.inr ⟨_, _, rfl, tr_rc (hh_rd (hh_obj hL (k := 0) rfl).1) (by decide)⟩)) rfl rfl cx ?_
  refine tr_ic 3 3 (by decide) rfl ?_
  exact tl_ret cx.2 .ireturn 1 (some (.int 3)) rfl rfl rfl rfl hr
theorem sg_L_setMirror_0 {g : tr_g} {d : Nat} {h : ev_AH} {r : ev_O × ev_AH} {x1 x2 v0 : Int32} {h1 : ev_AH} (hL : hh_L h) (c_0 : tr_L g d m_X8_setMirror 0 [some (.ref 1000), some (.int x1), some (.int x2), none] [] h (.inl (some (.int v0)), h1)) (hr : r = (.inl (some (.int 0)), ev_wr h1 1109 (.inr (100, (hh_v h1 109).set 0 (.long v0.toInt64))))) : tr_L g (d + 1) m_L_setMirror 0 [some (.ref 1000), some (.int x1), some (.int x2), some (.ref 1109), none] [] h r := by
  refine tr_s (.aload_n 3) 1 1 [some (.ref 1000), some (.int x1), some (.int x2), some (.ref 1109), none] [.ref 1109] h rfl rfl rfl ?_
  refine tr_ic 0 0 (by decide) rfl ?_
  refine tr_s (.aload_n 0) 1 3 [some (.ref 1000), some (.int x1), some (.int x2), some (.ref 1109), none] [.ref 1000, .int 0, .ref 1109] h rfl rfl rfl ?_
  refine tr_s (.iload_n 1) 1 4 [some (.ref 1000), some (.int x1), some (.int x2), some (.ref 1109), none] [.int x1, .ref 1000, .int 0, .ref 1109] h rfl rfl rfl ?_
  refine tr_s (.iload_n 2) 1 5 [some (.ref 1000), some (.int x1), some (.int x2), some (.ref 1109), none] [.int x2, .int x1, .ref 1000, .int 0, .ref 1109] h rfl rfl rfl ?_
  refine tr_call (.invokevirtual 19) 19 0 2 0 m_X8_setMirror [.ref 1000, .int x1, .int x2] [.int 0, .ref 1109] (some (.int v0)) h1 rfl rfl rfl rfl rfl rfl rfl rfl rfl (tr_cok rfl (Or.inr ⟨_, _, rfl, tr_rc (hh_rd (hh_obj hL (k := 0) rfl).1) (by decide)⟩)) c_0 ?_
  have hL0 := c_0.2
  refine tr_s .i2l 1 9 [some (.ref 1000), some (.int x1), some (.int x2), some (.ref 1109), none] [.long v0.toInt64, .int 0, .ref 1109] h1 rfl rfl rfl ?_
  refine tr_las 1109 v0.toInt64 _ rfl (by decide) (hh_obj hL0 (k := 109) rfl).1 (hh_obj hL0 (k := 109) rfl).2 ?_
  have hL1 : hh_L (ev_wr h1 1109 (.inr (100, (hh_v h1 109).set 0 (.long v0.toInt64)))) := hh_L_sv (sl := 0) (v := .long v0.toInt64) hL0 (show hh_t[109]? = some (.inr (100, [2])) from rfl) rfl ⟨_, rfl⟩
  refine tr_goto 15 25 rfl rfl rfl ?_
  refine tr_ic 0 0 (by decide) rfl ?_
  exact tl_ret hL1 .ireturn 1 (some (.int 0)) rfl rfl rfl rfl hr
theorem sx_L_cellOf_0_4_0 {g : tr_g} {d : Nat} {h : ev_AH} {r : ev_O × ev_AH} {x1 v0 : Int32} {h1 hx : ev_AH} (hL : hh_L h) (cx : tr_L g d m_X8_cellOf 0 [some (.ref 1000), some (.int x1)] [] h (.inr 0, hx)) (hr : r = (.inl (some (.int 1)), hx)) : tr_L g (d + 1) m_L_cellOf 0 [some (.ref 1000), some (.int x1), some (.ref 1109), none] [] h r := by
  refine tr_s (.aload_n 2) 1 1 [some (.ref 1000), some (.int x1), some (.ref 1109), none] [.ref 1109] h rfl rfl rfl ?_
  refine tr_ic 0 0 (by decide) rfl ?_
  refine tr_s (.aload_n 0) 1 3 [some (.ref 1000), some (.int x1), some (.ref 1109), none] [.ref 1000, .int 0, .ref 1109] h rfl rfl rfl ?_
  refine tr_s (.iload_n 1) 1 4 [some (.ref 1000), some (.int x1), some (.ref 1109), none] [.int x1, .ref 1000, .int 0, .ref 1109] h rfl rfl rfl ?_
  refine tr_callh (.invokevirtual 23) 23 0 1 0 m_X8_cellOf [.ref 1000, .int x1] [.int 0, .ref 1109] 0 13 3 hx rfl rfl rfl rfl rfl rfl rfl rfl rfl (tr_cok rfl (Or.inr ⟨_, _, rfl, tr_rc (hh_rd (hh_obj hL (k := 0) rfl).1) (by decide)⟩)) rfl rfl cx ?_
  refine tr_ic 1 1 (by decide) rfl ?_
  exact tl_ret cx.2 .ireturn 1 (some (.int 1)) rfl rfl rfl rfl hr
theorem sg_L_cellOf_0 {g : tr_g} {d : Nat} {h : ev_AH} {r : ev_O × ev_AH} {x1 v0 : Int32} {h1 : ev_AH} (hL : hh_L h) (c_0 : tr_L g d m_X8_cellOf 0 [some (.ref 1000), some (.int x1)] [] h (.inl (some (.int v0)), h1)) (hr : r = (.inl (some (.int 0)), ev_wr h1 1109 (.inr (100, (hh_v h1 109).set 0 (.long v0.toInt64))))) : tr_L g (d + 1) m_L_cellOf 0 [some (.ref 1000), some (.int x1), some (.ref 1109), none] [] h r := by
  refine tr_s (.aload_n 2) 1 1 [some (.ref 1000), some (.int x1), some (.ref 1109), none] [.ref 1109] h rfl rfl rfl ?_
  refine tr_ic 0 0 (by decide) rfl ?_
  refine tr_s (.aload_n 0) 1 3 [some (.ref 1000), some (.int x1), some (.ref 1109), none] [.ref 1000, .int 0, .ref 1109] h rfl rfl rfl ?_
  refine tr_s (.iload_n 1) 1 4 [some (.ref 1000), some (.int x1), some (.ref 1109), none] [.int x1, .ref 1000, .int 0, .ref 1109] h rfl rfl rfl ?_
  refine tr_call (.invokevirtual 23) 23 0 1 0 m_X8_cellOf [.ref 1000, .int x1] [.int 0, .ref 1109] (some (.int v0)) h1 rfl rfl rfl rfl rfl rfl rfl rfl rfl (tr_cok rfl (Or.inr ⟨_, _, rfl, tr_rc (hh_rd (hh_obj hL (k := 0) rfl).1) (by decide)⟩)) c_0 ?_
  have hL0 := c_0.2
  refine tr_s .i2l 1 8 [some (.ref 1000), some (.int x1), some (.ref 1109), none] [.long v0.toInt64, .int 0, .ref 1109] h1 rfl rfl rfl ?_
  refine tr_las 1109 v0.toInt64 _ rfl (by decide) (hh_obj hL0 (k := 109) rfl).1 (hh_obj hL0 (k := 109) rfl).2 ?_
  have hL1 : hh_L (ev_wr h1 1109 (.inr (100, (hh_v h1 109).set 0 (.long v0.toInt64)))) := hh_L_sv (sl := 0) (v := .long v0.toInt64) hL0 (show hh_t[109]? = some (.inr (100, [2])) from rfl) rfl ⟨_, rfl⟩
  refine tr_goto 6 15 rfl rfl rfl ?_
  refine tr_ic 0 0 (by decide) rfl ?_
  exact tl_ret hL1 .ireturn 1 (some (.int 0)) rfl rfl rfl rfl hr
theorem sx_L_catIn_0_4_0 {g : tr_g} {d : Nat} {h : ev_AH} {r : ev_O × ev_AH} {x1 v0 : Int32} {h1 hx : ev_AH} (hL : hh_L h) (cx : tr_L g d m_X8_catIn 0 [some (.ref 1000), some (.int x1), none] [] h (.inr 0, hx)) (hr : r = (.inl (some (.int 1)), hx)) : tr_L g (d + 1) m_L_catIn 0 [some (.ref 1000), some (.int x1), some (.ref 1109), none] [] h r := by
  refine tr_s (.aload_n 2) 1 1 [some (.ref 1000), some (.int x1), some (.ref 1109), none] [.ref 1109] h rfl rfl rfl ?_
  refine tr_ic 0 0 (by decide) rfl ?_
  refine tr_s (.aload_n 0) 1 3 [some (.ref 1000), some (.int x1), some (.ref 1109), none] [.ref 1000, .int 0, .ref 1109] h rfl rfl rfl ?_
  refine tr_s (.iload_n 1) 1 4 [some (.ref 1000), some (.int x1), some (.ref 1109), none] [.int x1, .ref 1000, .int 0, .ref 1109] h rfl rfl rfl ?_
  refine tr_callh (.invokevirtual 27) 27 0 1 0 m_X8_catIn [.ref 1000, .int x1] [.int 0, .ref 1109] 0 13 3 hx rfl rfl rfl rfl rfl rfl rfl rfl rfl (tr_cok rfl (Or.inr ⟨_, _, rfl, tr_rc (hh_rd (hh_obj hL (k := 0) rfl).1) (by decide)⟩)) rfl rfl cx ?_
  refine tr_ic 1 1 (by decide) rfl ?_
  exact tl_ret cx.2 .ireturn 1 (some (.int 1)) rfl rfl rfl rfl hr
theorem sx_L_catIn_0_4_3 {g : tr_g} {d : Nat} {h : ev_AH} {r : ev_O × ev_AH} {x1 v0 : Int32} {h1 hx : ev_AH} (hL : hh_L h) (cx : tr_L g d m_X8_catIn 0 [some (.ref 1000), some (.int x1), none] [] h (.inr 3, hx)) (hr : r = (.inl (some (.int 2)), hx)) : tr_L g (d + 1) m_L_catIn 0 [some (.ref 1000), some (.int x1), some (.ref 1109), none] [] h r := by
  refine tr_s (.aload_n 2) 1 1 [some (.ref 1000), some (.int x1), some (.ref 1109), none] [.ref 1109] h rfl rfl rfl ?_
  refine tr_ic 0 0 (by decide) rfl ?_
  refine tr_s (.aload_n 0) 1 3 [some (.ref 1000), some (.int x1), some (.ref 1109), none] [.ref 1000, .int 0, .ref 1109] h rfl rfl rfl ?_
  refine tr_s (.iload_n 1) 1 4 [some (.ref 1000), some (.int x1), some (.ref 1109), none] [.int x1, .ref 1000, .int 0, .ref 1109] h rfl rfl rfl ?_
  refine tr_callh (.invokevirtual 27) 27 0 1 0 m_X8_catIn [.ref 1000, .int x1] [.int 0, .ref 1109] 3 16 3 hx rfl rfl rfl rfl rfl rfl rfl rfl rfl (tr_cok rfl (Or.inr ⟨_, _, rfl, tr_rc (hh_rd (hh_obj hL (k := 0) rfl).1) (by decide)⟩)) rfl rfl cx ?_
  refine tr_ic 2 2 (by decide) rfl ?_
  exact tl_ret cx.2 .ireturn 1 (some (.int 2)) rfl rfl rfl rfl hr
theorem sg_L_catIn_0 {g : tr_g} {d : Nat} {h : ev_AH} {r : ev_O × ev_AH} {x1 v0 : Int32} {h1 : ev_AH} (hL : hh_L h) (c_0 : tr_L g d m_X8_catIn 0 [some (.ref 1000), some (.int x1), none] [] h (.inl (some (.int v0)), h1)) (hr : r = (.inl (some (.int 0)), ev_wr h1 1109 (.inr (100, (hh_v h1 109).set 0 (.long v0.toInt64))))) : tr_L g (d + 1) m_L_catIn 0 [some (.ref 1000), some (.int x1), some (.ref 1109), none] [] h r := by
  refine tr_s (.aload_n 2) 1 1 [some (.ref 1000), some (.int x1), some (.ref 1109), none] [.ref 1109] h rfl rfl rfl ?_
  refine tr_ic 0 0 (by decide) rfl ?_
  refine tr_s (.aload_n 0) 1 3 [some (.ref 1000), some (.int x1), some (.ref 1109), none] [.ref 1000, .int 0, .ref 1109] h rfl rfl rfl ?_
  refine tr_s (.iload_n 1) 1 4 [some (.ref 1000), some (.int x1), some (.ref 1109), none] [.int x1, .ref 1000, .int 0, .ref 1109] h rfl rfl rfl ?_
  refine tr_call (.invokevirtual 27) 27 0 1 0 m_X8_catIn [.ref 1000, .int x1] [.int 0, .ref 1109] (some (.int v0)) h1 rfl rfl rfl rfl rfl rfl rfl rfl rfl (tr_cok rfl (Or.inr ⟨_, _, rfl, tr_rc (hh_rd (hh_obj hL (k := 0) rfl).1) (by decide)⟩)) c_0 ?_
  have hL0 := c_0.2
  refine tr_s .i2l 1 8 [some (.ref 1000), some (.int x1), some (.ref 1109), none] [.long v0.toInt64, .int 0, .ref 1109] h1 rfl rfl rfl ?_
  refine tr_las 1109 v0.toInt64 _ rfl (by decide) (hh_obj hL0 (k := 109) rfl).1 (hh_obj hL0 (k := 109) rfl).2 ?_
  have hL1 : hh_L (ev_wr h1 1109 (.inr (100, (hh_v h1 109).set 0 (.long v0.toInt64)))) := hh_L_sv (sl := 0) (v := .long v0.toInt64) hL0 (show hh_t[109]? = some (.inr (100, [2])) from rfl) rfl ⟨_, rfl⟩
  refine tr_goto 9 18 rfl rfl rfl ?_
  refine tr_ic 0 0 (by decide) rfl ?_
  exact tl_ret hL1 .ireturn 1 (some (.int 0)) rfl rfl rfl rfl hr
theorem sx_L_contentOf_0_4_0 {g : tr_g} {d : Nat} {h : ev_AH} {r : ev_O × ev_AH} {x1 v0 : Int32} {h1 hx : ev_AH} (hL : hh_L h) (cx : tr_L g d m_X8_contentOf 0 [some (.ref 1000), some (.int x1)] [] h (.inr 0, hx)) (hr : r = (.inl (some (.int 1)), hx)) : tr_L g (d + 1) m_L_contentOf 0 [some (.ref 1000), some (.int x1), some (.ref 1109), none] [] h r := by
  refine tr_s (.aload_n 2) 1 1 [some (.ref 1000), some (.int x1), some (.ref 1109), none] [.ref 1109] h rfl rfl rfl ?_
  refine tr_ic 0 0 (by decide) rfl ?_
  refine tr_s (.aload_n 0) 1 3 [some (.ref 1000), some (.int x1), some (.ref 1109), none] [.ref 1000, .int 0, .ref 1109] h rfl rfl rfl ?_
  refine tr_s (.iload_n 1) 1 4 [some (.ref 1000), some (.int x1), some (.ref 1109), none] [.int x1, .ref 1000, .int 0, .ref 1109] h rfl rfl rfl ?_
  refine tr_callh (.invokevirtual 32) 32 0 1 0 m_X8_contentOf [.ref 1000, .int x1] [.int 0, .ref 1109] 0 13 3 hx rfl rfl rfl rfl rfl rfl rfl rfl rfl (tr_cok rfl (Or.inr ⟨_, _, rfl, tr_rc (hh_rd (hh_obj hL (k := 0) rfl).1) (by decide)⟩)) rfl rfl cx ?_
  refine tr_ic 1 1 (by decide) rfl ?_
  exact tl_ret cx.2 .ireturn 1 (some (.int 1)) rfl rfl rfl rfl hr
theorem sg_L_contentOf_0 {g : tr_g} {d : Nat} {h : ev_AH} {r : ev_O × ev_AH} {x1 v0 : Int32} {h1 : ev_AH} (hL : hh_L h) (c_0 : tr_L g d m_X8_contentOf 0 [some (.ref 1000), some (.int x1)] [] h (.inl (some (.int v0)), h1)) (hr : r = (.inl (some (.int 0)), ev_wr h1 1109 (.inr (100, (hh_v h1 109).set 0 (.long v0.toInt64))))) : tr_L g (d + 1) m_L_contentOf 0 [some (.ref 1000), some (.int x1), some (.ref 1109), none] [] h r := by
  refine tr_s (.aload_n 2) 1 1 [some (.ref 1000), some (.int x1), some (.ref 1109), none] [.ref 1109] h rfl rfl rfl ?_
  refine tr_ic 0 0 (by decide) rfl ?_
  refine tr_s (.aload_n 0) 1 3 [some (.ref 1000), some (.int x1), some (.ref 1109), none] [.ref 1000, .int 0, .ref 1109] h rfl rfl rfl ?_
  refine tr_s (.iload_n 1) 1 4 [some (.ref 1000), some (.int x1), some (.ref 1109), none] [.int x1, .ref 1000, .int 0, .ref 1109] h rfl rfl rfl ?_
  refine tr_call (.invokevirtual 32) 32 0 1 0 m_X8_contentOf [.ref 1000, .int x1] [.int 0, .ref 1109] (some (.int v0)) h1 rfl rfl rfl rfl rfl rfl rfl rfl rfl (tr_cok rfl (Or.inr ⟨_, _, rfl, tr_rc (hh_rd (hh_obj hL (k := 0) rfl).1) (by decide)⟩)) c_0 ?_
  have hL0 := c_0.2
  refine tr_s .i2l 1 8 [some (.ref 1000), some (.int x1), some (.ref 1109), none] [.long v0.toInt64, .int 0, .ref 1109] h1 rfl rfl rfl ?_
  refine tr_las 1109 v0.toInt64 _ rfl (by decide) (hh_obj hL0 (k := 109) rfl).1 (hh_obj hL0 (k := 109) rfl).2 ?_
  have hL1 : hh_L (ev_wr h1 1109 (.inr (100, (hh_v h1 109).set 0 (.long v0.toInt64)))) := hh_L_sv (sl := 0) (v := .long v0.toInt64) hL0 (show hh_t[109]? = some (.inr (100, [2])) from rfl) rfl ⟨_, rfl⟩
  refine tr_goto 6 15 rfl rfl rfl ?_
  refine tr_ic 0 0 (by decide) rfl ?_
  exact tl_ret hL1 .ireturn 1 (some (.int 0)) rfl rfl rfl rfl hr
theorem sx_L_optionAt_0_5_0 {g : tr_g} {d : Nat} {h : ev_AH} {r : ev_O × ev_AH} {x1 x2 v0 : Int32} {h1 hx : ev_AH} (hL : hh_L h) (cx : tr_L g d m_X8_optionAt 0 [some (.ref 1000), some (.int x1), some (.int x2)] [] h (.inr 0, hx)) (hr : r = (.inl (some (.int 1)), hx)) : tr_L g (d + 1) m_L_optionAt 0 [some (.ref 1000), some (.int x1), some (.int x2), some (.ref 1109), none] [] h r := by
  refine tr_s (.aload_n 3) 1 1 [some (.ref 1000), some (.int x1), some (.int x2), some (.ref 1109), none] [.ref 1109] h rfl rfl rfl ?_
  refine tr_ic 0 0 (by decide) rfl ?_
  refine tr_s (.aload_n 0) 1 3 [some (.ref 1000), some (.int x1), some (.int x2), some (.ref 1109), none] [.ref 1000, .int 0, .ref 1109] h rfl rfl rfl ?_
  refine tr_s (.iload_n 1) 1 4 [some (.ref 1000), some (.int x1), some (.int x2), some (.ref 1109), none] [.int x1, .ref 1000, .int 0, .ref 1109] h rfl rfl rfl ?_
  refine tr_s (.iload_n 2) 1 5 [some (.ref 1000), some (.int x1), some (.int x2), some (.ref 1109), none] [.int x2, .int x1, .ref 1000, .int 0, .ref 1109] h rfl rfl rfl ?_
  refine tr_callh (.invokevirtual 36) 36 0 2 0 m_X8_optionAt [.ref 1000, .int x1, .int x2] [.int 0, .ref 1109] 0 15 4 hx rfl rfl rfl rfl rfl rfl rfl rfl rfl (tr_cok rfl (Or.inr ⟨_, _, rfl, tr_rc (hh_rd (hh_obj hL (k := 0) rfl).1) (by decide)⟩)) rfl rfl cx ?_
  refine tr_ic 1 1 (by decide) rfl ?_
  exact tl_ret cx.2 .ireturn 1 (some (.int 1)) rfl rfl rfl rfl hr
theorem sx_L_optionAt_0_5_1 {g : tr_g} {d : Nat} {h : ev_AH} {r : ev_O × ev_AH} {x1 x2 v0 : Int32} {h1 hx : ev_AH} (hL : hh_L h) (cx : tr_L g d m_X8_optionAt 0 [some (.ref 1000), some (.int x1), some (.int x2)] [] h (.inr 1, hx)) (hr : r = (.inl (some (.int 2)), hx)) : tr_L g (d + 1) m_L_optionAt 0 [some (.ref 1000), some (.int x1), some (.int x2), some (.ref 1109), none] [] h r := by
  refine tr_s (.aload_n 3) 1 1 [some (.ref 1000), some (.int x1), some (.int x2), some (.ref 1109), none] [.ref 1109] h rfl rfl rfl ?_
  refine tr_ic 0 0 (by decide) rfl ?_
  refine tr_s (.aload_n 0) 1 3 [some (.ref 1000), some (.int x1), some (.int x2), some (.ref 1109), none] [.ref 1000, .int 0, .ref 1109] h rfl rfl rfl ?_
  refine tr_s (.iload_n 1) 1 4 [some (.ref 1000), some (.int x1), some (.int x2), some (.ref 1109), none] [.int x1, .ref 1000, .int 0, .ref 1109] h rfl rfl rfl ?_
  refine tr_s (.iload_n 2) 1 5 [some (.ref 1000), some (.int x1), some (.int x2), some (.ref 1109), none] [.int x2, .int x1, .ref 1000, .int 0, .ref 1109] h rfl rfl rfl ?_
  refine tr_callh (.invokevirtual 36) 36 0 2 0 m_X8_optionAt [.ref 1000, .int x1, .int x2] [.int 0, .ref 1109] 1 19 4 hx rfl rfl rfl rfl rfl rfl rfl rfl rfl (tr_cok rfl (Or.inr ⟨_, _, rfl, tr_rc (hh_rd (hh_obj hL (k := 0) rfl).1) (by decide)⟩)) rfl rfl cx ?_
  refine tr_ic 2 2 (by decide) rfl ?_
  exact tl_ret cx.2 .ireturn 1 (some (.int 2)) rfl rfl rfl rfl hr
theorem sg_L_optionAt_0 {g : tr_g} {d : Nat} {h : ev_AH} {r : ev_O × ev_AH} {x1 x2 v0 : Int32} {h1 : ev_AH} (hL : hh_L h) (c_0 : tr_L g d m_X8_optionAt 0 [some (.ref 1000), some (.int x1), some (.int x2)] [] h (.inl (some (.int v0)), h1)) (hr : r = (.inl (some (.int 0)), ev_wr h1 1109 (.inr (100, (hh_v h1 109).set 0 (.long v0.toInt64))))) : tr_L g (d + 1) m_L_optionAt 0 [some (.ref 1000), some (.int x1), some (.int x2), some (.ref 1109), none] [] h r := by
  refine tr_s (.aload_n 3) 1 1 [some (.ref 1000), some (.int x1), some (.int x2), some (.ref 1109), none] [.ref 1109] h rfl rfl rfl ?_
  refine tr_ic 0 0 (by decide) rfl ?_
  refine tr_s (.aload_n 0) 1 3 [some (.ref 1000), some (.int x1), some (.int x2), some (.ref 1109), none] [.ref 1000, .int 0, .ref 1109] h rfl rfl rfl ?_
  refine tr_s (.iload_n 1) 1 4 [some (.ref 1000), some (.int x1), some (.int x2), some (.ref 1109), none] [.int x1, .ref 1000, .int 0, .ref 1109] h rfl rfl rfl ?_
  refine tr_s (.iload_n 2) 1 5 [some (.ref 1000), some (.int x1), some (.int x2), some (.ref 1109), none] [.int x2, .int x1, .ref 1000, .int 0, .ref 1109] h rfl rfl rfl ?_
  refine tr_call (.invokevirtual 36) 36 0 2 0 m_X8_optionAt [.ref 1000, .int x1, .int x2] [.int 0, .ref 1109] (some (.int v0)) h1 rfl rfl rfl rfl rfl rfl rfl rfl rfl (tr_cok rfl (Or.inr ⟨_, _, rfl, tr_rc (hh_rd (hh_obj hL (k := 0) rfl).1) (by decide)⟩)) c_0 ?_
  have hL0 := c_0.2
  refine tr_s .i2l 1 9 [some (.ref 1000), some (.int x1), some (.int x2), some (.ref 1109), none] [.long v0.toInt64, .int 0, .ref 1109] h1 rfl rfl rfl ?_
  refine tr_las 1109 v0.toInt64 _ rfl (by decide) (hh_obj hL0 (k := 109) rfl).1 (hh_obj hL0 (k := 109) rfl).2 ?_
  have hL1 : hh_L (ev_wr h1 1109 (.inr (100, (hh_v h1 109).set 0 (.long v0.toInt64)))) := hh_L_sv (sl := 0) (v := .long v0.toInt64) hL0 (show hh_t[109]? = some (.inr (100, [2])) from rfl) rfl ⟨_, rfl⟩
  refine tr_goto 11 21 rfl rfl rfl ?_
  refine tr_ic 0 0 (by decide) rfl ?_
  exact tl_ret hL1 .ireturn 1 (some (.int 0)) rfl rfl rfl rfl hr
theorem sx_L_placeOf_0_5_0 {g : tr_g} {d : Nat} {h : ev_AH} {r : ev_O × ev_AH} {x1 x2 v0 : Int32} {h1 hx : ev_AH} (hL : hh_L h) (cx : tr_L g d m_X8_placeOf 0 [some (.ref 1000), some (.int x1), some (.int x2)] [] h (.inr 0, hx)) (hr : r = (.inl (some (.int 1)), hx)) : tr_L g (d + 1) m_L_placeOf 0 [some (.ref 1000), some (.int x1), some (.int x2), some (.ref 1109), none] [] h r := by
  refine tr_s (.aload_n 3) 1 1 [some (.ref 1000), some (.int x1), some (.int x2), some (.ref 1109), none] [.ref 1109] h rfl rfl rfl ?_
  refine tr_ic 0 0 (by decide) rfl ?_
  refine tr_s (.aload_n 0) 1 3 [some (.ref 1000), some (.int x1), some (.int x2), some (.ref 1109), none] [.ref 1000, .int 0, .ref 1109] h rfl rfl rfl ?_
  refine tr_s (.iload_n 1) 1 4 [some (.ref 1000), some (.int x1), some (.int x2), some (.ref 1109), none] [.int x1, .ref 1000, .int 0, .ref 1109] h rfl rfl rfl ?_
  refine tr_s (.iload_n 2) 1 5 [some (.ref 1000), some (.int x1), some (.int x2), some (.ref 1109), none] [.int x2, .int x1, .ref 1000, .int 0, .ref 1109] h rfl rfl rfl ?_
  refine tr_callh (.invokevirtual 40) 40 0 2 0 m_X8_placeOf [.ref 1000, .int x1, .int x2] [.int 0, .ref 1109] 0 15 4 hx rfl rfl rfl rfl rfl rfl rfl rfl rfl (tr_cok rfl (Or.inr ⟨_, _, rfl, tr_rc (hh_rd (hh_obj hL (k := 0) rfl).1) (by decide)⟩)) rfl rfl cx ?_
  refine tr_ic 1 1 (by decide) rfl ?_
  exact tl_ret cx.2 .ireturn 1 (some (.int 1)) rfl rfl rfl rfl hr
theorem sx_L_placeOf_0_5_1 {g : tr_g} {d : Nat} {h : ev_AH} {r : ev_O × ev_AH} {x1 x2 v0 : Int32} {h1 hx : ev_AH} (hL : hh_L h) (cx : tr_L g d m_X8_placeOf 0 [some (.ref 1000), some (.int x1), some (.int x2)] [] h (.inr 1, hx)) (hr : r = (.inl (some (.int 2)), hx)) : tr_L g (d + 1) m_L_placeOf 0 [some (.ref 1000), some (.int x1), some (.int x2), some (.ref 1109), none] [] h r := by
  refine tr_s (.aload_n 3) 1 1 [some (.ref 1000), some (.int x1), some (.int x2), some (.ref 1109), none] [.ref 1109] h rfl rfl rfl ?_
  refine tr_ic 0 0 (by decide) rfl ?_
  refine tr_s (.aload_n 0) 1 3 [some (.ref 1000), some (.int x1), some (.int x2), some (.ref 1109), none] [.ref 1000, .int 0, .ref 1109] h rfl rfl rfl ?_
  refine tr_s (.iload_n 1) 1 4 [some (.ref 1000), some (.int x1), some (.int x2), some (.ref 1109), none] [.int x1, .ref 1000, .int 0, .ref 1109] h rfl rfl rfl ?_
  refine tr_s (.iload_n 2) 1 5 [some (.ref 1000), some (.int x1), some (.int x2), some (.ref 1109), none] [.int x2, .int x1, .ref 1000, .int 0, .ref 1109] h rfl rfl rfl ?_
  refine tr_callh (.invokevirtual 40) 40 0 2 0 m_X8_placeOf [.ref 1000, .int x1, .int x2] [.int 0, .ref 1109] 1 19 4 hx rfl rfl rfl rfl rfl rfl rfl rfl rfl (tr_cok rfl (Or.inr ⟨_, _, rfl, tr_rc (hh_rd (hh_obj hL (k := 0) rfl).1) (by decide)⟩)) rfl rfl cx ?_
  refine tr_ic 2 2 (by decide) rfl ?_
  exact tl_ret cx.2 .ireturn 1 (some (.int 2)) rfl rfl rfl rfl hr
theorem sg_L_placeOf_0 {g : tr_g} {d : Nat} {h : ev_AH} {r : ev_O × ev_AH} {x1 x2 v0 : Int32} {h1 : ev_AH} (hL : hh_L h) (c_0 : tr_L g d m_X8_placeOf 0 [some (.ref 1000), some (.int x1), some (.int x2)] [] h (.inl (some (.int v0)), h1)) (hr : r = (.inl (some (.int 0)), ev_wr h1 1109 (.inr (100, (hh_v h1 109).set 0 (.long v0.toInt64))))) : tr_L g (d + 1) m_L_placeOf 0 [some (.ref 1000), some (.int x1), some (.int x2), some (.ref 1109), none] [] h r := by
  refine tr_s (.aload_n 3) 1 1 [some (.ref 1000), some (.int x1), some (.int x2), some (.ref 1109), none] [.ref 1109] h rfl rfl rfl ?_
  refine tr_ic 0 0 (by decide) rfl ?_
  refine tr_s (.aload_n 0) 1 3 [some (.ref 1000), some (.int x1), some (.int x2), some (.ref 1109), none] [.ref 1000, .int 0, .ref 1109] h rfl rfl rfl ?_
  refine tr_s (.iload_n 1) 1 4 [some (.ref 1000), some (.int x1), some (.int x2), some (.ref 1109), none] [.int x1, .ref 1000, .int 0, .ref 1109] h rfl rfl rfl ?_
  refine tr_s (.iload_n 2) 1 5 [some (.ref 1000), some (.int x1), some (.int x2), some (.ref 1109), none] [.int x2, .int x1, .ref 1000, .int 0, .ref 1109] h rfl rfl rfl ?_
  refine tr_call (.invokevirtual 40) 40 0 2 0 m_X8_placeOf [.ref 1000, .int x1, .int x2] [.int 0, .ref 1109] (some (.int v0)) h1 rfl rfl rfl rfl rfl rfl rfl rfl rfl (tr_cok rfl (Or.inr ⟨_, _, rfl, tr_rc (hh_rd (hh_obj hL (k := 0) rfl).1) (by decide)⟩)) c_0 ?_
  have hL0 := c_0.2
  refine tr_s .i2l 1 9 [some (.ref 1000), some (.int x1), some (.int x2), some (.ref 1109), none] [.long v0.toInt64, .int 0, .ref 1109] h1 rfl rfl rfl ?_
  refine tr_las 1109 v0.toInt64 _ rfl (by decide) (hh_obj hL0 (k := 109) rfl).1 (hh_obj hL0 (k := 109) rfl).2 ?_
  have hL1 : hh_L (ev_wr h1 1109 (.inr (100, (hh_v h1 109).set 0 (.long v0.toInt64)))) := hh_L_sv (sl := 0) (v := .long v0.toInt64) hL0 (show hh_t[109]? = some (.inr (100, [2])) from rfl) rfl ⟨_, rfl⟩
  refine tr_goto 11 21 rfl rfl rfl ?_
  refine tr_ic 0 0 (by decide) rfl ?_
  exact tl_ret hL1 .ireturn 1 (some (.int 0)) rfl rfl rfl rfl hr
theorem sx_L_heardBy_0_4_0 {g : tr_g} {d : Nat} {h : ev_AH} {r : ev_O × ev_AH} {x1 v0 : Int32} {h1 hx : ev_AH} (hL : hh_L h) (cx : tr_L g d m_X8_heardBy 0 [some (.ref 1000), some (.int x1)] [] h (.inr 0, hx)) (hr : r = (.inl (some (.int 1)), hx)) : tr_L g (d + 1) m_L_heardBy 0 [some (.ref 1000), some (.int x1), some (.ref 1109), none] [] h r := by
  refine tr_s (.aload_n 2) 1 1 [some (.ref 1000), some (.int x1), some (.ref 1109), none] [.ref 1109] h rfl rfl rfl ?_
  refine tr_ic 0 0 (by decide) rfl ?_
  refine tr_s (.aload_n 0) 1 3 [some (.ref 1000), some (.int x1), some (.ref 1109), none] [.ref 1000, .int 0, .ref 1109] h rfl rfl rfl ?_
  refine tr_s (.iload_n 1) 1 4 [some (.ref 1000), some (.int x1), some (.ref 1109), none] [.int x1, .ref 1000, .int 0, .ref 1109] h rfl rfl rfl ?_
  refine tr_callh (.invokevirtual 43) 43 0 1 0 m_X8_heardBy [.ref 1000, .int x1] [.int 0, .ref 1109] 0 13 3 hx rfl rfl rfl rfl rfl rfl rfl rfl rfl (tr_cok rfl (Or.inr ⟨_, _, rfl, tr_rc (hh_rd (hh_obj hL (k := 0) rfl).1) (by decide)⟩)) rfl rfl cx ?_
  refine tr_ic 1 1 (by decide) rfl ?_
  exact tl_ret cx.2 .ireturn 1 (some (.int 1)) rfl rfl rfl rfl hr
theorem sg_L_heardBy_0 {g : tr_g} {d : Nat} {h : ev_AH} {r : ev_O × ev_AH} {x1 v0 : Int32} {h1 : ev_AH} (hL : hh_L h) (c_0 : tr_L g d m_X8_heardBy 0 [some (.ref 1000), some (.int x1)] [] h (.inl (some (.int v0)), h1)) (hr : r = (.inl (some (.int 0)), ev_wr h1 1109 (.inr (100, (hh_v h1 109).set 0 (.long v0.toInt64))))) : tr_L g (d + 1) m_L_heardBy 0 [some (.ref 1000), some (.int x1), some (.ref 1109), none] [] h r := by
  refine tr_s (.aload_n 2) 1 1 [some (.ref 1000), some (.int x1), some (.ref 1109), none] [.ref 1109] h rfl rfl rfl ?_
  refine tr_ic 0 0 (by decide) rfl ?_
  refine tr_s (.aload_n 0) 1 3 [some (.ref 1000), some (.int x1), some (.ref 1109), none] [.ref 1000, .int 0, .ref 1109] h rfl rfl rfl ?_
  refine tr_s (.iload_n 1) 1 4 [some (.ref 1000), some (.int x1), some (.ref 1109), none] [.int x1, .ref 1000, .int 0, .ref 1109] h rfl rfl rfl ?_
  refine tr_call (.invokevirtual 43) 43 0 1 0 m_X8_heardBy [.ref 1000, .int x1] [.int 0, .ref 1109] (some (.int v0)) h1 rfl rfl rfl rfl rfl rfl rfl rfl rfl (tr_cok rfl (Or.inr ⟨_, _, rfl, tr_rc (hh_rd (hh_obj hL (k := 0) rfl).1) (by decide)⟩)) c_0 ?_
  have hL0 := c_0.2
  refine tr_s .i2l 1 8 [some (.ref 1000), some (.int x1), some (.ref 1109), none] [.long v0.toInt64, .int 0, .ref 1109] h1 rfl rfl rfl ?_
  refine tr_las 1109 v0.toInt64 _ rfl (by decide) (hh_obj hL0 (k := 109) rfl).1 (hh_obj hL0 (k := 109) rfl).2 ?_
  have hL1 : hh_L (ev_wr h1 1109 (.inr (100, (hh_v h1 109).set 0 (.long v0.toInt64)))) := hh_L_sv (sl := 0) (v := .long v0.toInt64) hL0 (show hh_t[109]? = some (.inr (100, [2])) from rfl) rfl ⟨_, rfl⟩
  refine tr_goto 6 15 rfl rfl rfl ?_
  refine tr_ic 0 0 (by decide) rfl ?_
  exact tl_ret hL1 .ireturn 1 (some (.int 0)) rfl rfl rfl rfl hr
theorem sx_L_rayEnd_0_4_1 {g : tr_g} {d : Nat} {h : ev_AH} {r : ev_O × ev_AH} {x1 v0 : Int32} {h1 hx : ev_AH} (hL : hh_L h) (cx : tr_L g d m_X8_rayEnd 0 [some (.ref 1000), some (.int x1)] [] h (.inr 1, hx)) (hr : r = (.inl (some (.int 1)), hx)) : tr_L g (d + 1) m_L_rayEnd 0 [some (.ref 1000), some (.int x1), some (.ref 1109), none] [] h r := by
  refine tr_s (.aload_n 2) 1 1 [some (.ref 1000), some (.int x1), some (.ref 1109), none] [.ref 1109] h rfl rfl rfl ?_
  refine tr_ic 0 0 (by decide) rfl ?_
  refine tr_s (.aload_n 0) 1 3 [some (.ref 1000), some (.int x1), some (.ref 1109), none] [.ref 1000, .int 0, .ref 1109] h rfl rfl rfl ?_
  refine tr_s (.iload_n 1) 1 4 [some (.ref 1000), some (.int x1), some (.ref 1109), none] [.int x1, .ref 1000, .int 0, .ref 1109] h rfl rfl rfl ?_
  refine tr_callh (.invokevirtual 46) 46 0 1 0 m_X8_rayEnd [.ref 1000, .int x1] [.int 0, .ref 1109] 1 13 3 hx rfl rfl rfl rfl rfl rfl rfl rfl rfl (tr_cok rfl (Or.inr ⟨_, _, rfl, tr_rc (hh_rd (hh_obj hL (k := 0) rfl).1) (by decide)⟩)) rfl rfl cx ?_
  refine tr_ic 1 1 (by decide) rfl ?_
  exact tl_ret cx.2 .ireturn 1 (some (.int 1)) rfl rfl rfl rfl hr
theorem sx_L_rayEnd_0_4_3 {g : tr_g} {d : Nat} {h : ev_AH} {r : ev_O × ev_AH} {x1 v0 : Int32} {h1 hx : ev_AH} (hL : hh_L h) (cx : tr_L g d m_X8_rayEnd 0 [some (.ref 1000), some (.int x1)] [] h (.inr 3, hx)) (hr : r = (.inl (some (.int 2)), hx)) : tr_L g (d + 1) m_L_rayEnd 0 [some (.ref 1000), some (.int x1), some (.ref 1109), none] [] h r := by
  refine tr_s (.aload_n 2) 1 1 [some (.ref 1000), some (.int x1), some (.ref 1109), none] [.ref 1109] h rfl rfl rfl ?_
  refine tr_ic 0 0 (by decide) rfl ?_
  refine tr_s (.aload_n 0) 1 3 [some (.ref 1000), some (.int x1), some (.ref 1109), none] [.ref 1000, .int 0, .ref 1109] h rfl rfl rfl ?_
  refine tr_s (.iload_n 1) 1 4 [some (.ref 1000), some (.int x1), some (.ref 1109), none] [.int x1, .ref 1000, .int 0, .ref 1109] h rfl rfl rfl ?_
  refine tr_callh (.invokevirtual 46) 46 0 1 0 m_X8_rayEnd [.ref 1000, .int x1] [.int 0, .ref 1109] 3 16 3 hx rfl rfl rfl rfl rfl rfl rfl rfl rfl (tr_cok rfl (Or.inr ⟨_, _, rfl, tr_rc (hh_rd (hh_obj hL (k := 0) rfl).1) (by decide)⟩)) rfl rfl cx ?_
  refine tr_ic 2 2 (by decide) rfl ?_
  exact tl_ret cx.2 .ireturn 1 (some (.int 2)) rfl rfl rfl rfl hr
theorem sg_L_rayEnd_0 {g : tr_g} {d : Nat} {h : ev_AH} {r : ev_O × ev_AH} {x1 v0 : Int32} {h1 : ev_AH} (hL : hh_L h) (c_0 : tr_L g d m_X8_rayEnd 0 [some (.ref 1000), some (.int x1)] [] h (.inl (some (.int v0)), h1)) (hr : r = (.inl (some (.int 0)), ev_wr h1 1109 (.inr (100, (hh_v h1 109).set 0 (.long v0.toInt64))))) : tr_L g (d + 1) m_L_rayEnd 0 [some (.ref 1000), some (.int x1), some (.ref 1109), none] [] h r := by
  refine tr_s (.aload_n 2) 1 1 [some (.ref 1000), some (.int x1), some (.ref 1109), none] [.ref 1109] h rfl rfl rfl ?_
  refine tr_ic 0 0 (by decide) rfl ?_
  refine tr_s (.aload_n 0) 1 3 [some (.ref 1000), some (.int x1), some (.ref 1109), none] [.ref 1000, .int 0, .ref 1109] h rfl rfl rfl ?_
  refine tr_s (.iload_n 1) 1 4 [some (.ref 1000), some (.int x1), some (.ref 1109), none] [.int x1, .ref 1000, .int 0, .ref 1109] h rfl rfl rfl ?_
  refine tr_call (.invokevirtual 46) 46 0 1 0 m_X8_rayEnd [.ref 1000, .int x1] [.int 0, .ref 1109] (some (.int v0)) h1 rfl rfl rfl rfl rfl rfl rfl rfl rfl (tr_cok rfl (Or.inr ⟨_, _, rfl, tr_rc (hh_rd (hh_obj hL (k := 0) rfl).1) (by decide)⟩)) c_0 ?_
  have hL0 := c_0.2
  refine tr_s .i2l 1 8 [some (.ref 1000), some (.int x1), some (.ref 1109), none] [.long v0.toInt64, .int 0, .ref 1109] h1 rfl rfl rfl ?_
  refine tr_las 1109 v0.toInt64 _ rfl (by decide) (hh_obj hL0 (k := 109) rfl).1 (hh_obj hL0 (k := 109) rfl).2 ?_
  have hL1 : hh_L (ev_wr h1 1109 (.inr (100, (hh_v h1 109).set 0 (.long v0.toInt64)))) := hh_L_sv (sl := 0) (v := .long v0.toInt64) hL0 (show hh_t[109]? = some (.inr (100, [2])) from rfl) rfl ⟨_, rfl⟩
  refine tr_goto 9 18 rfl rfl rfl ?_
  refine tr_ic 0 0 (by decide) rfl ?_
  exact tl_ret hL1 .ireturn 1 (some (.int 0)) rfl rfl rfl rfl hr
theorem sx_L_rayEndByJoining_0_4_1 {g : tr_g} {d : Nat} {h : ev_AH} {r : ev_O × ev_AH} {x1 v0 : Int32} {h1 hx : ev_AH} (hL : hh_L h) (cx : tr_L g d m_X8_rayEndByJoining 0 [some (.ref 1000), some (.int x1), none] [] h (.inr 1, hx)) (hr : r = (.inl (some (.int 1)), hx)) : tr_L g (d + 1) m_L_rayEndByJoining 0 [some (.ref 1000), some (.int x1), some (.ref 1109), none] [] h r := by
  refine tr_s (.aload_n 2) 1 1 [some (.ref 1000), some (.int x1), some (.ref 1109), none] [.ref 1109] h rfl rfl rfl ?_
  refine tr_ic 0 0 (by decide) rfl ?_
  refine tr_s (.aload_n 0) 1 3 [some (.ref 1000), some (.int x1), some (.ref 1109), none] [.ref 1000, .int 0, .ref 1109] h rfl rfl rfl ?_
  refine tr_s (.iload_n 1) 1 4 [some (.ref 1000), some (.int x1), some (.ref 1109), none] [.int x1, .ref 1000, .int 0, .ref 1109] h rfl rfl rfl ?_
  refine tr_callh (.invokevirtual 49) 49 0 1 0 m_X8_rayEndByJoining [.ref 1000, .int x1] [.int 0, .ref 1109] 1 13 3 hx rfl rfl rfl rfl rfl rfl rfl rfl rfl (tr_cok rfl (Or.inr ⟨_, _, rfl, tr_rc (hh_rd (hh_obj hL (k := 0) rfl).1) (by decide)⟩)) rfl rfl cx ?_
  refine tr_ic 1 1 (by decide) rfl ?_
  exact tl_ret cx.2 .ireturn 1 (some (.int 1)) rfl rfl rfl rfl hr
theorem sx_L_rayEndByJoining_0_4_3 {g : tr_g} {d : Nat} {h : ev_AH} {r : ev_O × ev_AH} {x1 v0 : Int32} {h1 hx : ev_AH} (hL : hh_L h) (cx : tr_L g d m_X8_rayEndByJoining 0 [some (.ref 1000), some (.int x1), none] [] h (.inr 3, hx)) (hr : r = (.inl (some (.int 2)), hx)) : tr_L g (d + 1) m_L_rayEndByJoining 0 [some (.ref 1000), some (.int x1), some (.ref 1109), none] [] h r := by
  refine tr_s (.aload_n 2) 1 1 [some (.ref 1000), some (.int x1), some (.ref 1109), none] [.ref 1109] h rfl rfl rfl ?_
  refine tr_ic 0 0 (by decide) rfl ?_
  refine tr_s (.aload_n 0) 1 3 [some (.ref 1000), some (.int x1), some (.ref 1109), none] [.ref 1000, .int 0, .ref 1109] h rfl rfl rfl ?_
  refine tr_s (.iload_n 1) 1 4 [some (.ref 1000), some (.int x1), some (.ref 1109), none] [.int x1, .ref 1000, .int 0, .ref 1109] h rfl rfl rfl ?_
  refine tr_callh (.invokevirtual 49) 49 0 1 0 m_X8_rayEndByJoining [.ref 1000, .int x1] [.int 0, .ref 1109] 3 16 3 hx rfl rfl rfl rfl rfl rfl rfl rfl rfl (tr_cok rfl (Or.inr ⟨_, _, rfl, tr_rc (hh_rd (hh_obj hL (k := 0) rfl).1) (by decide)⟩)) rfl rfl cx ?_
  refine tr_ic 2 2 (by decide) rfl ?_
  exact tl_ret cx.2 .ireturn 1 (some (.int 2)) rfl rfl rfl rfl hr
theorem sg_L_rayEndByJoining_0 {g : tr_g} {d : Nat} {h : ev_AH} {r : ev_O × ev_AH} {x1 v0 : Int32} {h1 : ev_AH} (hL : hh_L h) (c_0 : tr_L g d m_X8_rayEndByJoining 0 [some (.ref 1000), some (.int x1), none] [] h (.inl (some (.int v0)), h1)) (hr : r = (.inl (some (.int 0)), ev_wr h1 1109 (.inr (100, (hh_v h1 109).set 0 (.long v0.toInt64))))) : tr_L g (d + 1) m_L_rayEndByJoining 0 [some (.ref 1000), some (.int x1), some (.ref 1109), none] [] h r := by
  refine tr_s (.aload_n 2) 1 1 [some (.ref 1000), some (.int x1), some (.ref 1109), none] [.ref 1109] h rfl rfl rfl ?_
  refine tr_ic 0 0 (by decide) rfl ?_
  refine tr_s (.aload_n 0) 1 3 [some (.ref 1000), some (.int x1), some (.ref 1109), none] [.ref 1000, .int 0, .ref 1109] h rfl rfl rfl ?_
  refine tr_s (.iload_n 1) 1 4 [some (.ref 1000), some (.int x1), some (.ref 1109), none] [.int x1, .ref 1000, .int 0, .ref 1109] h rfl rfl rfl ?_
  refine tr_call (.invokevirtual 49) 49 0 1 0 m_X8_rayEndByJoining [.ref 1000, .int x1] [.int 0, .ref 1109] (some (.int v0)) h1 rfl rfl rfl rfl rfl rfl rfl rfl rfl (tr_cok rfl (Or.inr ⟨_, _, rfl, tr_rc (hh_rd (hh_obj hL (k := 0) rfl).1) (by decide)⟩)) c_0 ?_
  have hL0 := c_0.2
  refine tr_s .i2l 1 8 [some (.ref 1000), some (.int x1), some (.ref 1109), none] [.long v0.toInt64, .int 0, .ref 1109] h1 rfl rfl rfl ?_
  refine tr_las 1109 v0.toInt64 _ rfl (by decide) (hh_obj hL0 (k := 109) rfl).1 (hh_obj hL0 (k := 109) rfl).2 ?_
  have hL1 : hh_L (ev_wr h1 1109 (.inr (100, (hh_v h1 109).set 0 (.long v0.toInt64)))) := hh_L_sv (sl := 0) (v := .long v0.toInt64) hL0 (show hh_t[109]? = some (.inr (100, [2])) from rfl) rfl ⟨_, rfl⟩
  refine tr_goto 9 18 rfl rfl rfl ?_
  refine tr_ic 0 0 (by decide) rfl ?_
  exact tl_ret hL1 .ireturn 1 (some (.int 0)) rfl rfl rfl rfl hr
theorem sx_L_rayCat_0_4_1 {g : tr_g} {d : Nat} {h : ev_AH} {r : ev_O × ev_AH} {x1 v0 : Int32} {h1 hx : ev_AH} (hL : hh_L h) (cx : tr_L g d m_X8_rayCat 0 [some (.ref 1000), some (.int x1)] [] h (.inr 1, hx)) (hr : r = (.inl (some (.int 1)), hx)) : tr_L g (d + 1) m_L_rayCat 0 [some (.ref 1000), some (.int x1), some (.ref 1109), none] [] h r := by
  refine tr_s (.aload_n 2) 1 1 [some (.ref 1000), some (.int x1), some (.ref 1109), none] [.ref 1109] h rfl rfl rfl ?_
  refine tr_ic 0 0 (by decide) rfl ?_
  refine tr_s (.aload_n 0) 1 3 [some (.ref 1000), some (.int x1), some (.ref 1109), none] [.ref 1000, .int 0, .ref 1109] h rfl rfl rfl ?_
  refine tr_s (.iload_n 1) 1 4 [some (.ref 1000), some (.int x1), some (.ref 1109), none] [.int x1, .ref 1000, .int 0, .ref 1109] h rfl rfl rfl ?_
  refine tr_callh (.invokevirtual 52) 52 0 1 0 m_X8_rayCat [.ref 1000, .int x1] [.int 0, .ref 1109] 1 13 3 hx rfl rfl rfl rfl rfl rfl rfl rfl rfl (tr_cok rfl (Or.inr ⟨_, _, rfl, tr_rc (hh_rd (hh_obj hL (k := 0) rfl).1) (by decide)⟩)) rfl rfl cx ?_
  refine tr_ic 1 1 (by decide) rfl ?_
  exact tl_ret cx.2 .ireturn 1 (some (.int 1)) rfl rfl rfl rfl hr
theorem sx_L_rayCat_0_4_3 {g : tr_g} {d : Nat} {h : ev_AH} {r : ev_O × ev_AH} {x1 v0 : Int32} {h1 hx : ev_AH} (hL : hh_L h) (cx : tr_L g d m_X8_rayCat 0 [some (.ref 1000), some (.int x1)] [] h (.inr 3, hx)) (hr : r = (.inl (some (.int 2)), hx)) : tr_L g (d + 1) m_L_rayCat 0 [some (.ref 1000), some (.int x1), some (.ref 1109), none] [] h r := by
  refine tr_s (.aload_n 2) 1 1 [some (.ref 1000), some (.int x1), some (.ref 1109), none] [.ref 1109] h rfl rfl rfl ?_
  refine tr_ic 0 0 (by decide) rfl ?_
  refine tr_s (.aload_n 0) 1 3 [some (.ref 1000), some (.int x1), some (.ref 1109), none] [.ref 1000, .int 0, .ref 1109] h rfl rfl rfl ?_
  refine tr_s (.iload_n 1) 1 4 [some (.ref 1000), some (.int x1), some (.ref 1109), none] [.int x1, .ref 1000, .int 0, .ref 1109] h rfl rfl rfl ?_
  refine tr_callh (.invokevirtual 52) 52 0 1 0 m_X8_rayCat [.ref 1000, .int x1] [.int 0, .ref 1109] 3 16 3 hx rfl rfl rfl rfl rfl rfl rfl rfl rfl (tr_cok rfl (Or.inr ⟨_, _, rfl, tr_rc (hh_rd (hh_obj hL (k := 0) rfl).1) (by decide)⟩)) rfl rfl cx ?_
  refine tr_ic 2 2 (by decide) rfl ?_
  exact tl_ret cx.2 .ireturn 1 (some (.int 2)) rfl rfl rfl rfl hr
theorem sg_L_rayCat_0 {g : tr_g} {d : Nat} {h : ev_AH} {r : ev_O × ev_AH} {x1 v0 : Int32} {h1 : ev_AH} (hL : hh_L h) (c_0 : tr_L g d m_X8_rayCat 0 [some (.ref 1000), some (.int x1)] [] h (.inl (some (.int v0)), h1)) (hr : r = (.inl (some (.int 0)), ev_wr h1 1109 (.inr (100, (hh_v h1 109).set 0 (.long v0.toInt64))))) : tr_L g (d + 1) m_L_rayCat 0 [some (.ref 1000), some (.int x1), some (.ref 1109), none] [] h r := by
  refine tr_s (.aload_n 2) 1 1 [some (.ref 1000), some (.int x1), some (.ref 1109), none] [.ref 1109] h rfl rfl rfl ?_
  refine tr_ic 0 0 (by decide) rfl ?_
  refine tr_s (.aload_n 0) 1 3 [some (.ref 1000), some (.int x1), some (.ref 1109), none] [.ref 1000, .int 0, .ref 1109] h rfl rfl rfl ?_
  refine tr_s (.iload_n 1) 1 4 [some (.ref 1000), some (.int x1), some (.ref 1109), none] [.int x1, .ref 1000, .int 0, .ref 1109] h rfl rfl rfl ?_
  refine tr_call (.invokevirtual 52) 52 0 1 0 m_X8_rayCat [.ref 1000, .int x1] [.int 0, .ref 1109] (some (.int v0)) h1 rfl rfl rfl rfl rfl rfl rfl rfl rfl (tr_cok rfl (Or.inr ⟨_, _, rfl, tr_rc (hh_rd (hh_obj hL (k := 0) rfl).1) (by decide)⟩)) c_0 ?_
  have hL0 := c_0.2
  refine tr_s .i2l 1 8 [some (.ref 1000), some (.int x1), some (.ref 1109), none] [.long v0.toInt64, .int 0, .ref 1109] h1 rfl rfl rfl ?_
  refine tr_las 1109 v0.toInt64 _ rfl (by decide) (hh_obj hL0 (k := 109) rfl).1 (hh_obj hL0 (k := 109) rfl).2 ?_
  have hL1 : hh_L (ev_wr h1 1109 (.inr (100, (hh_v h1 109).set 0 (.long v0.toInt64)))) := hh_L_sv (sl := 0) (v := .long v0.toInt64) hL0 (show hh_t[109]? = some (.inr (100, [2])) from rfl) rfl ⟨_, rfl⟩
  refine tr_goto 9 18 rfl rfl rfl ?_
  refine tr_ic 0 0 (by decide) rfl ?_
  exact tl_ret hL1 .ireturn 1 (some (.int 0)) rfl rfl rfl rfl hr
theorem sx_L_rayLength_0_4_1 {g : tr_g} {d : Nat} {h : ev_AH} {r : ev_O × ev_AH} {x1 v0 : Int32} {h1 hx : ev_AH} (hL : hh_L h) (cx : tr_L g d m_X8_rayLength 0 [some (.ref 1000), some (.int x1)] [] h (.inr 1, hx)) (hr : r = (.inl (some (.int 1)), hx)) : tr_L g (d + 1) m_L_rayLength 0 [some (.ref 1000), some (.int x1), some (.ref 1109), none] [] h r := by
  refine tr_s (.aload_n 2) 1 1 [some (.ref 1000), some (.int x1), some (.ref 1109), none] [.ref 1109] h rfl rfl rfl ?_
  refine tr_ic 0 0 (by decide) rfl ?_
  refine tr_s (.aload_n 0) 1 3 [some (.ref 1000), some (.int x1), some (.ref 1109), none] [.ref 1000, .int 0, .ref 1109] h rfl rfl rfl ?_
  refine tr_s (.iload_n 1) 1 4 [some (.ref 1000), some (.int x1), some (.ref 1109), none] [.int x1, .ref 1000, .int 0, .ref 1109] h rfl rfl rfl ?_
  refine tr_callh (.invokevirtual 55) 55 0 1 0 m_X8_rayLength [.ref 1000, .int x1] [.int 0, .ref 1109] 1 13 3 hx rfl rfl rfl rfl rfl rfl rfl rfl rfl (tr_cok rfl (Or.inr ⟨_, _, rfl, tr_rc (hh_rd (hh_obj hL (k := 0) rfl).1) (by decide)⟩)) rfl rfl cx ?_
  refine tr_ic 1 1 (by decide) rfl ?_
  exact tl_ret cx.2 .ireturn 1 (some (.int 1)) rfl rfl rfl rfl hr
theorem sg_L_rayLength_0 {g : tr_g} {d : Nat} {h : ev_AH} {r : ev_O × ev_AH} {x1 v0 : Int32} {h1 : ev_AH} (hL : hh_L h) (c_0 : tr_L g d m_X8_rayLength 0 [some (.ref 1000), some (.int x1)] [] h (.inl (some (.int v0)), h1)) (hr : r = (.inl (some (.int 0)), ev_wr h1 1109 (.inr (100, (hh_v h1 109).set 0 (.long v0.toInt64))))) : tr_L g (d + 1) m_L_rayLength 0 [some (.ref 1000), some (.int x1), some (.ref 1109), none] [] h r := by
  refine tr_s (.aload_n 2) 1 1 [some (.ref 1000), some (.int x1), some (.ref 1109), none] [.ref 1109] h rfl rfl rfl ?_
  refine tr_ic 0 0 (by decide) rfl ?_
  refine tr_s (.aload_n 0) 1 3 [some (.ref 1000), some (.int x1), some (.ref 1109), none] [.ref 1000, .int 0, .ref 1109] h rfl rfl rfl ?_
  refine tr_s (.iload_n 1) 1 4 [some (.ref 1000), some (.int x1), some (.ref 1109), none] [.int x1, .ref 1000, .int 0, .ref 1109] h rfl rfl rfl ?_
  refine tr_call (.invokevirtual 55) 55 0 1 0 m_X8_rayLength [.ref 1000, .int x1] [.int 0, .ref 1109] (some (.int v0)) h1 rfl rfl rfl rfl rfl rfl rfl rfl rfl (tr_cok rfl (Or.inr ⟨_, _, rfl, tr_rc (hh_rd (hh_obj hL (k := 0) rfl).1) (by decide)⟩)) c_0 ?_
  have hL0 := c_0.2
  refine tr_s .i2l 1 8 [some (.ref 1000), some (.int x1), some (.ref 1109), none] [.long v0.toInt64, .int 0, .ref 1109] h1 rfl rfl rfl ?_
  refine tr_las 1109 v0.toInt64 _ rfl (by decide) (hh_obj hL0 (k := 109) rfl).1 (hh_obj hL0 (k := 109) rfl).2 ?_
  have hL1 : hh_L (ev_wr h1 1109 (.inr (100, (hh_v h1 109).set 0 (.long v0.toInt64)))) := hh_L_sv (sl := 0) (v := .long v0.toInt64) hL0 (show hh_t[109]? = some (.inr (100, [2])) from rfl) rfl ⟨_, rfl⟩
  refine tr_goto 6 15 rfl rfl rfl ?_
  refine tr_ic 0 0 (by decide) rfl ?_
  exact tl_ret hL1 .ireturn 1 (some (.int 0)) rfl rfl rfl rfl hr
theorem sx_L_rayBounces_0_4_1 {g : tr_g} {d : Nat} {h : ev_AH} {r : ev_O × ev_AH} {x1 v0 : Int32} {h1 hx : ev_AH} (hL : hh_L h) (cx : tr_L g d m_X8_rayBounces 0 [some (.ref 1000), some (.int x1)] [] h (.inr 1, hx)) (hr : r = (.inl (some (.int 1)), hx)) : tr_L g (d + 1) m_L_rayBounces 0 [some (.ref 1000), some (.int x1), some (.ref 1109), none] [] h r := by
  refine tr_s (.aload_n 2) 1 1 [some (.ref 1000), some (.int x1), some (.ref 1109), none] [.ref 1109] h rfl rfl rfl ?_
  refine tr_ic 0 0 (by decide) rfl ?_
  refine tr_s (.aload_n 0) 1 3 [some (.ref 1000), some (.int x1), some (.ref 1109), none] [.ref 1000, .int 0, .ref 1109] h rfl rfl rfl ?_
  refine tr_s (.iload_n 1) 1 4 [some (.ref 1000), some (.int x1), some (.ref 1109), none] [.int x1, .ref 1000, .int 0, .ref 1109] h rfl rfl rfl ?_
  refine tr_callh (.invokevirtual 58) 58 0 1 0 m_X8_rayBounces [.ref 1000, .int x1] [.int 0, .ref 1109] 1 13 3 hx rfl rfl rfl rfl rfl rfl rfl rfl rfl (tr_cok rfl (Or.inr ⟨_, _, rfl, tr_rc (hh_rd (hh_obj hL (k := 0) rfl).1) (by decide)⟩)) rfl rfl cx ?_
  refine tr_ic 1 1 (by decide) rfl ?_
  exact tl_ret cx.2 .ireturn 1 (some (.int 1)) rfl rfl rfl rfl hr
theorem sg_L_rayBounces_0 {g : tr_g} {d : Nat} {h : ev_AH} {r : ev_O × ev_AH} {x1 v0 : Int32} {h1 : ev_AH} (hL : hh_L h) (c_0 : tr_L g d m_X8_rayBounces 0 [some (.ref 1000), some (.int x1)] [] h (.inl (some (.int v0)), h1)) (hr : r = (.inl (some (.int 0)), ev_wr h1 1109 (.inr (100, (hh_v h1 109).set 0 (.long v0.toInt64))))) : tr_L g (d + 1) m_L_rayBounces 0 [some (.ref 1000), some (.int x1), some (.ref 1109), none] [] h r := by
  refine tr_s (.aload_n 2) 1 1 [some (.ref 1000), some (.int x1), some (.ref 1109), none] [.ref 1109] h rfl rfl rfl ?_
  refine tr_ic 0 0 (by decide) rfl ?_
  refine tr_s (.aload_n 0) 1 3 [some (.ref 1000), some (.int x1), some (.ref 1109), none] [.ref 1000, .int 0, .ref 1109] h rfl rfl rfl ?_
  refine tr_s (.iload_n 1) 1 4 [some (.ref 1000), some (.int x1), some (.ref 1109), none] [.int x1, .ref 1000, .int 0, .ref 1109] h rfl rfl rfl ?_
  refine tr_call (.invokevirtual 58) 58 0 1 0 m_X8_rayBounces [.ref 1000, .int x1] [.int 0, .ref 1109] (some (.int v0)) h1 rfl rfl rfl rfl rfl rfl rfl rfl rfl (tr_cok rfl (Or.inr ⟨_, _, rfl, tr_rc (hh_rd (hh_obj hL (k := 0) rfl).1) (by decide)⟩)) c_0 ?_
  have hL0 := c_0.2
  refine tr_s .i2l 1 8 [some (.ref 1000), some (.int x1), some (.ref 1109), none] [.long v0.toInt64, .int 0, .ref 1109] h1 rfl rfl rfl ?_
  refine tr_las 1109 v0.toInt64 _ rfl (by decide) (hh_obj hL0 (k := 109) rfl).1 (hh_obj hL0 (k := 109) rfl).2 ?_
  have hL1 : hh_L (ev_wr h1 1109 (.inr (100, (hh_v h1 109).set 0 (.long v0.toInt64)))) := hh_L_sv (sl := 0) (v := .long v0.toInt64) hL0 (show hh_t[109]? = some (.inr (100, [2])) from rfl) rfl ⟨_, rfl⟩
  refine tr_goto 6 15 rfl rfl rfl ?_
  refine tr_ic 0 0 (by decide) rfl ?_
  exact tl_ret hL1 .ireturn 1 (some (.int 0)) rfl rfl rfl rfl hr
theorem sx_L_leastEffort_0_5_0 {g : tr_g} {d : Nat} {h : ev_AH} {r : ev_O × ev_AH} {x1 x2 v0 : Int32} {h1 hx : ev_AH} (hL : hh_L h) (cx : tr_L g d m_X8_leastEffort 0 [some (.ref 1000), some (.int x1), some (.int x2), none] [] h (.inr 0, hx)) (hr : r = (.inl (some (.int 2)), hx)) : tr_L g (d + 1) m_L_leastEffort 0 [some (.ref 1000), some (.int x1), some (.int x2), some (.ref 1109), none] [] h r := by
  refine tr_s (.aload_n 3) 1 1 [some (.ref 1000), some (.int x1), some (.int x2), some (.ref 1109), none] [.ref 1109] h rfl rfl rfl ?_
  refine tr_ic 0 0 (by decide) rfl ?_
  refine tr_s (.aload_n 0) 1 3 [some (.ref 1000), some (.int x1), some (.int x2), some (.ref 1109), none] [.ref 1000, .int 0, .ref 1109] h rfl rfl rfl ?_
  refine tr_s (.iload_n 1) 1 4 [some (.ref 1000), some (.int x1), some (.int x2), some (.ref 1109), none] [.int x1, .ref 1000, .int 0, .ref 1109] h rfl rfl rfl ?_
  refine tr_s (.iload_n 2) 1 5 [some (.ref 1000), some (.int x1), some (.int x2), some (.ref 1109), none] [.int x2, .int x1, .ref 1000, .int 0, .ref 1109] h rfl rfl rfl ?_
  refine tr_callh (.invokevirtual 61) 61 0 2 0 m_X8_leastEffort [.ref 1000, .int x1, .int x2] [.int 0, .ref 1109] 0 19 4 hx rfl rfl rfl rfl rfl rfl rfl rfl rfl (tr_cok rfl (Or.inr ⟨_, _, rfl, tr_rc (hh_rd (hh_obj hL (k := 0) rfl).1) (by decide)⟩)) rfl rfl cx ?_
  refine tr_ic 2 2 (by decide) rfl ?_
  exact tl_ret cx.2 .ireturn 1 (some (.int 2)) rfl rfl rfl rfl hr
theorem sx_L_leastEffort_0_5_1 {g : tr_g} {d : Nat} {h : ev_AH} {r : ev_O × ev_AH} {x1 x2 v0 : Int32} {h1 hx : ev_AH} (hL : hh_L h) (cx : tr_L g d m_X8_leastEffort 0 [some (.ref 1000), some (.int x1), some (.int x2), none] [] h (.inr 1, hx)) (hr : r = (.inl (some (.int 1)), hx)) : tr_L g (d + 1) m_L_leastEffort 0 [some (.ref 1000), some (.int x1), some (.int x2), some (.ref 1109), none] [] h r := by
  refine tr_s (.aload_n 3) 1 1 [some (.ref 1000), some (.int x1), some (.int x2), some (.ref 1109), none] [.ref 1109] h rfl rfl rfl ?_
  refine tr_ic 0 0 (by decide) rfl ?_
  refine tr_s (.aload_n 0) 1 3 [some (.ref 1000), some (.int x1), some (.int x2), some (.ref 1109), none] [.ref 1000, .int 0, .ref 1109] h rfl rfl rfl ?_
  refine tr_s (.iload_n 1) 1 4 [some (.ref 1000), some (.int x1), some (.int x2), some (.ref 1109), none] [.int x1, .ref 1000, .int 0, .ref 1109] h rfl rfl rfl ?_
  refine tr_s (.iload_n 2) 1 5 [some (.ref 1000), some (.int x1), some (.int x2), some (.ref 1109), none] [.int x2, .int x1, .ref 1000, .int 0, .ref 1109] h rfl rfl rfl ?_
  refine tr_callh (.invokevirtual 61) 61 0 2 0 m_X8_leastEffort [.ref 1000, .int x1, .int x2] [.int 0, .ref 1109] 1 15 4 hx rfl rfl rfl rfl rfl rfl rfl rfl rfl (tr_cok rfl (Or.inr ⟨_, _, rfl, tr_rc (hh_rd (hh_obj hL (k := 0) rfl).1) (by decide)⟩)) rfl rfl cx ?_
  refine tr_ic 1 1 (by decide) rfl ?_
  exact tl_ret cx.2 .ireturn 1 (some (.int 1)) rfl rfl rfl rfl hr
theorem sx_L_leastEffort_0_5_3 {g : tr_g} {d : Nat} {h : ev_AH} {r : ev_O × ev_AH} {x1 x2 v0 : Int32} {h1 hx : ev_AH} (hL : hh_L h) (cx : tr_L g d m_X8_leastEffort 0 [some (.ref 1000), some (.int x1), some (.int x2), none] [] h (.inr 3, hx)) (hr : r = (.inl (some (.int 3)), hx)) : tr_L g (d + 1) m_L_leastEffort 0 [some (.ref 1000), some (.int x1), some (.int x2), some (.ref 1109), none] [] h r := by
  refine tr_s (.aload_n 3) 1 1 [some (.ref 1000), some (.int x1), some (.int x2), some (.ref 1109), none] [.ref 1109] h rfl rfl rfl ?_
  refine tr_ic 0 0 (by decide) rfl ?_
  refine tr_s (.aload_n 0) 1 3 [some (.ref 1000), some (.int x1), some (.int x2), some (.ref 1109), none] [.ref 1000, .int 0, .ref 1109] h rfl rfl rfl ?_
  refine tr_s (.iload_n 1) 1 4 [some (.ref 1000), some (.int x1), some (.int x2), some (.ref 1109), none] [.int x1, .ref 1000, .int 0, .ref 1109] h rfl rfl rfl ?_
  refine tr_s (.iload_n 2) 1 5 [some (.ref 1000), some (.int x1), some (.int x2), some (.ref 1109), none] [.int x2, .int x1, .ref 1000, .int 0, .ref 1109] h rfl rfl rfl ?_
  refine tr_callh (.invokevirtual 61) 61 0 2 0 m_X8_leastEffort [.ref 1000, .int x1, .int x2] [.int 0, .ref 1109] 3 23 4 hx rfl rfl rfl rfl rfl rfl rfl rfl rfl (tr_cok rfl (Or.inr ⟨_, _, rfl, tr_rc (hh_rd (hh_obj hL (k := 0) rfl).1) (by decide)⟩)) rfl rfl cx ?_
  refine tr_ic 3 3 (by decide) rfl ?_
  exact tl_ret cx.2 .ireturn 1 (some (.int 3)) rfl rfl rfl rfl hr
theorem sg_L_leastEffort_0 {g : tr_g} {d : Nat} {h : ev_AH} {r : ev_O × ev_AH} {x1 x2 v0 : Int32} {h1 : ev_AH} (hL : hh_L h) (c_0 : tr_L g d m_X8_leastEffort 0 [some (.ref 1000), some (.int x1), some (.int x2), none] [] h (.inl (some (.int v0)), h1)) (hr : r = (.inl (some (.int 0)), ev_wr h1 1109 (.inr (100, (hh_v h1 109).set 0 (.long v0.toInt64))))) : tr_L g (d + 1) m_L_leastEffort 0 [some (.ref 1000), some (.int x1), some (.int x2), some (.ref 1109), none] [] h r := by
  refine tr_s (.aload_n 3) 1 1 [some (.ref 1000), some (.int x1), some (.int x2), some (.ref 1109), none] [.ref 1109] h rfl rfl rfl ?_
  refine tr_ic 0 0 (by decide) rfl ?_
  refine tr_s (.aload_n 0) 1 3 [some (.ref 1000), some (.int x1), some (.int x2), some (.ref 1109), none] [.ref 1000, .int 0, .ref 1109] h rfl rfl rfl ?_
  refine tr_s (.iload_n 1) 1 4 [some (.ref 1000), some (.int x1), some (.int x2), some (.ref 1109), none] [.int x1, .ref 1000, .int 0, .ref 1109] h rfl rfl rfl ?_
  refine tr_s (.iload_n 2) 1 5 [some (.ref 1000), some (.int x1), some (.int x2), some (.ref 1109), none] [.int x2, .int x1, .ref 1000, .int 0, .ref 1109] h rfl rfl rfl ?_
  refine tr_call (.invokevirtual 61) 61 0 2 0 m_X8_leastEffort [.ref 1000, .int x1, .int x2] [.int 0, .ref 1109] (some (.int v0)) h1 rfl rfl rfl rfl rfl rfl rfl rfl rfl (tr_cok rfl (Or.inr ⟨_, _, rfl, tr_rc (hh_rd (hh_obj hL (k := 0) rfl).1) (by decide)⟩)) c_0 ?_
  have hL0 := c_0.2
  refine tr_s .i2l 1 9 [some (.ref 1000), some (.int x1), some (.int x2), some (.ref 1109), none] [.long v0.toInt64, .int 0, .ref 1109] h1 rfl rfl rfl ?_
  refine tr_las 1109 v0.toInt64 _ rfl (by decide) (hh_obj hL0 (k := 109) rfl).1 (hh_obj hL0 (k := 109) rfl).2 ?_
  have hL1 : hh_L (ev_wr h1 1109 (.inr (100, (hh_v h1 109).set 0 (.long v0.toInt64)))) := hh_L_sv (sl := 0) (v := .long v0.toInt64) hL0 (show hh_t[109]? = some (.inr (100, [2])) from rfl) rfl ⟨_, rfl⟩
  refine tr_goto 15 25 rfl rfl rfl ?_
  refine tr_ic 0 0 (by decide) rfl ?_
  exact tl_ret hL1 .ireturn 1 (some (.int 0)) rfl rfl rfl rfl hr
theorem sx_L_leastEffortByRounds_0_5_0 {g : tr_g} {d : Nat} {h : ev_AH} {r : ev_O × ev_AH} {x1 x2 v0 : Int32} {h1 hx : ev_AH} (hL : hh_L h) (cx : tr_L g d m_X8_leastEffortByRounds 0 [some (.ref 1000), some (.int x1), some (.int x2), none] [] h (.inr 0, hx)) (hr : r = (.inl (some (.int 2)), hx)) : tr_L g (d + 1) m_L_leastEffortByRounds 0 [some (.ref 1000), some (.int x1), some (.int x2), some (.ref 1109), none] [] h r := by
  refine tr_s (.aload_n 3) 1 1 [some (.ref 1000), some (.int x1), some (.int x2), some (.ref 1109), none] [.ref 1109] h rfl rfl rfl ?_
  refine tr_ic 0 0 (by decide) rfl ?_
  refine tr_s (.aload_n 0) 1 3 [some (.ref 1000), some (.int x1), some (.int x2), some (.ref 1109), none] [.ref 1000, .int 0, .ref 1109] h rfl rfl rfl ?_
  refine tr_s (.iload_n 1) 1 4 [some (.ref 1000), some (.int x1), some (.int x2), some (.ref 1109), none] [.int x1, .ref 1000, .int 0, .ref 1109] h rfl rfl rfl ?_
  refine tr_s (.iload_n 2) 1 5 [some (.ref 1000), some (.int x1), some (.int x2), some (.ref 1109), none] [.int x2, .int x1, .ref 1000, .int 0, .ref 1109] h rfl rfl rfl ?_
  refine tr_callh (.invokevirtual 65) 65 0 2 0 m_X8_leastEffortByRounds [.ref 1000, .int x1, .int x2] [.int 0, .ref 1109] 0 19 4 hx rfl rfl rfl rfl rfl rfl rfl rfl rfl (tr_cok rfl (Or.inr ⟨_, _, rfl, tr_rc (hh_rd (hh_obj hL (k := 0) rfl).1) (by decide)⟩)) rfl rfl cx ?_
  refine tr_ic 2 2 (by decide) rfl ?_
  exact tl_ret cx.2 .ireturn 1 (some (.int 2)) rfl rfl rfl rfl hr
theorem sx_L_leastEffortByRounds_0_5_1 {g : tr_g} {d : Nat} {h : ev_AH} {r : ev_O × ev_AH} {x1 x2 v0 : Int32} {h1 hx : ev_AH} (hL : hh_L h) (cx : tr_L g d m_X8_leastEffortByRounds 0 [some (.ref 1000), some (.int x1), some (.int x2), none] [] h (.inr 1, hx)) (hr : r = (.inl (some (.int 1)), hx)) : tr_L g (d + 1) m_L_leastEffortByRounds 0 [some (.ref 1000), some (.int x1), some (.int x2), some (.ref 1109), none] [] h r := by
  refine tr_s (.aload_n 3) 1 1 [some (.ref 1000), some (.int x1), some (.int x2), some (.ref 1109), none] [.ref 1109] h rfl rfl rfl ?_
  refine tr_ic 0 0 (by decide) rfl ?_
  refine tr_s (.aload_n 0) 1 3 [some (.ref 1000), some (.int x1), some (.int x2), some (.ref 1109), none] [.ref 1000, .int 0, .ref 1109] h rfl rfl rfl ?_
  refine tr_s (.iload_n 1) 1 4 [some (.ref 1000), some (.int x1), some (.int x2), some (.ref 1109), none] [.int x1, .ref 1000, .int 0, .ref 1109] h rfl rfl rfl ?_
  refine tr_s (.iload_n 2) 1 5 [some (.ref 1000), some (.int x1), some (.int x2), some (.ref 1109), none] [.int x2, .int x1, .ref 1000, .int 0, .ref 1109] h rfl rfl rfl ?_
  refine tr_callh (.invokevirtual 65) 65 0 2 0 m_X8_leastEffortByRounds [.ref 1000, .int x1, .int x2] [.int 0, .ref 1109] 1 15 4 hx rfl rfl rfl rfl rfl rfl rfl rfl rfl (tr_cok rfl (Or.inr ⟨_, _, rfl, tr_rc (hh_rd (hh_obj hL (k := 0) rfl).1) (by decide)⟩)) rfl rfl cx ?_
  refine tr_ic 1 1 (by decide) rfl ?_
  exact tl_ret cx.2 .ireturn 1 (some (.int 1)) rfl rfl rfl rfl hr
theorem sx_L_leastEffortByRounds_0_5_3 {g : tr_g} {d : Nat} {h : ev_AH} {r : ev_O × ev_AH} {x1 x2 v0 : Int32} {h1 hx : ev_AH} (hL : hh_L h) (cx : tr_L g d m_X8_leastEffortByRounds 0 [some (.ref 1000), some (.int x1), some (.int x2), none] [] h (.inr 3, hx)) (hr : r = (.inl (some (.int 3)), hx)) : tr_L g (d + 1) m_L_leastEffortByRounds 0 [some (.ref 1000), some (.int x1), some (.int x2), some (.ref 1109), none] [] h r := by
  refine tr_s (.aload_n 3) 1 1 [some (.ref 1000), some (.int x1), some (.int x2), some (.ref 1109), none] [.ref 1109] h rfl rfl rfl ?_
  refine tr_ic 0 0 (by decide) rfl ?_
  refine tr_s (.aload_n 0) 1 3 [some (.ref 1000), some (.int x1), some (.int x2), some (.ref 1109), none] [.ref 1000, .int 0, .ref 1109] h rfl rfl rfl ?_
  refine tr_s (.iload_n 1) 1 4 [some (.ref 1000), some (.int x1), some (.int x2), some (.ref 1109), none] [.int x1, .ref 1000, .int 0, .ref 1109] h rfl rfl rfl ?_
  refine tr_s (.iload_n 2) 1 5 [some (.ref 1000), some (.int x1), some (.int x2), some (.ref 1109), none] [.int x2, .int x1, .ref 1000, .int 0, .ref 1109] h rfl rfl rfl ?_
  refine tr_callh (.invokevirtual 65) 65 0 2 0 m_X8_leastEffortByRounds [.ref 1000, .int x1, .int x2] [.int 0, .ref 1109] 3 23 4 hx rfl rfl rfl rfl rfl rfl rfl rfl rfl (tr_cok rfl (Or.inr ⟨_, _, rfl, tr_rc (hh_rd (hh_obj hL (k := 0) rfl).1) (by decide)⟩)) rfl rfl cx ?_
  refine tr_ic 3 3 (by decide) rfl ?_
  exact tl_ret cx.2 .ireturn 1 (some (.int 3)) rfl rfl rfl rfl hr
theorem sg_L_leastEffortByRounds_0 {g : tr_g} {d : Nat} {h : ev_AH} {r : ev_O × ev_AH} {x1 x2 v0 : Int32} {h1 : ev_AH} (hL : hh_L h) (c_0 : tr_L g d m_X8_leastEffortByRounds 0 [some (.ref 1000), some (.int x1), some (.int x2), none] [] h (.inl (some (.int v0)), h1)) (hr : r = (.inl (some (.int 0)), ev_wr h1 1109 (.inr (100, (hh_v h1 109).set 0 (.long v0.toInt64))))) : tr_L g (d + 1) m_L_leastEffortByRounds 0 [some (.ref 1000), some (.int x1), some (.int x2), some (.ref 1109), none] [] h r := by
  refine tr_s (.aload_n 3) 1 1 [some (.ref 1000), some (.int x1), some (.int x2), some (.ref 1109), none] [.ref 1109] h rfl rfl rfl ?_
  refine tr_ic 0 0 (by decide) rfl ?_
  refine tr_s (.aload_n 0) 1 3 [some (.ref 1000), some (.int x1), some (.int x2), some (.ref 1109), none] [.ref 1000, .int 0, .ref 1109] h rfl rfl rfl ?_
  refine tr_s (.iload_n 1) 1 4 [some (.ref 1000), some (.int x1), some (.int x2), some (.ref 1109), none] [.int x1, .ref 1000, .int 0, .ref 1109] h rfl rfl rfl ?_
  refine tr_s (.iload_n 2) 1 5 [some (.ref 1000), some (.int x1), some (.int x2), some (.ref 1109), none] [.int x2, .int x1, .ref 1000, .int 0, .ref 1109] h rfl rfl rfl ?_
  refine tr_call (.invokevirtual 65) 65 0 2 0 m_X8_leastEffortByRounds [.ref 1000, .int x1, .int x2] [.int 0, .ref 1109] (some (.int v0)) h1 rfl rfl rfl rfl rfl rfl rfl rfl rfl (tr_cok rfl (Or.inr ⟨_, _, rfl, tr_rc (hh_rd (hh_obj hL (k := 0) rfl).1) (by decide)⟩)) c_0 ?_
  have hL0 := c_0.2
  refine tr_s .i2l 1 9 [some (.ref 1000), some (.int x1), some (.int x2), some (.ref 1109), none] [.long v0.toInt64, .int 0, .ref 1109] h1 rfl rfl rfl ?_
  refine tr_las 1109 v0.toInt64 _ rfl (by decide) (hh_obj hL0 (k := 109) rfl).1 (hh_obj hL0 (k := 109) rfl).2 ?_
  have hL1 : hh_L (ev_wr h1 1109 (.inr (100, (hh_v h1 109).set 0 (.long v0.toInt64)))) := hh_L_sv (sl := 0) (v := .long v0.toInt64) hL0 (show hh_t[109]? = some (.inr (100, [2])) from rfl) rfl ⟨_, rfl⟩
  refine tr_goto 15 25 rfl rfl rfl ?_
  refine tr_ic 0 0 (by decide) rfl ?_
  exact tl_ret hL1 .ireturn 1 (some (.int 0)) rfl rfl rfl rfl hr
theorem sx_L_portByLength_0_4_3 {g : tr_g} {d : Nat} {h : ev_AH} {r : ev_O × ev_AH} {x1 v0 : Int32} {h1 hx : ev_AH} (hL : hh_L h) (cx : tr_L g d m_X8_portByLength 0 [some (.ref 1000), some (.int x1), none, none] [] h (.inr 3, hx)) (hr : r = (.inl (some (.int 1)), hx)) : tr_L g (d + 1) m_L_portByLength 0 [some (.ref 1000), some (.int x1), some (.ref 1109), none] [] h r := by
  refine tr_s (.aload_n 2) 1 1 [some (.ref 1000), some (.int x1), some (.ref 1109), none] [.ref 1109] h rfl rfl rfl ?_
  refine tr_ic 0 0 (by decide) rfl ?_
  refine tr_s (.aload_n 0) 1 3 [some (.ref 1000), some (.int x1), some (.ref 1109), none] [.ref 1000, .int 0, .ref 1109] h rfl rfl rfl ?_
  refine tr_s (.iload_n 1) 1 4 [some (.ref 1000), some (.int x1), some (.ref 1109), none] [.int x1, .ref 1000, .int 0, .ref 1109] h rfl rfl rfl ?_
  refine tr_callh (.invokevirtual 68) 68 0 1 0 m_X8_portByLength [.ref 1000, .int x1] [.int 0, .ref 1109] 3 13 3 hx rfl rfl rfl rfl rfl rfl rfl rfl rfl (tr_cok rfl (Or.inr ⟨_, _, rfl, tr_rc (hh_rd (hh_obj hL (k := 0) rfl).1) (by decide)⟩)) rfl rfl cx ?_
  refine tr_ic 1 1 (by decide) rfl ?_
  exact tl_ret cx.2 .ireturn 1 (some (.int 1)) rfl rfl rfl rfl hr
theorem sg_L_portByLength_0 {g : tr_g} {d : Nat} {h : ev_AH} {r : ev_O × ev_AH} {x1 v0 : Int32} {h1 : ev_AH} (hL : hh_L h) (c_0 : tr_L g d m_X8_portByLength 0 [some (.ref 1000), some (.int x1), none, none] [] h (.inl (some (.int v0)), h1)) (hr : r = (.inl (some (.int 0)), ev_wr h1 1109 (.inr (100, (hh_v h1 109).set 0 (.long v0.toInt64))))) : tr_L g (d + 1) m_L_portByLength 0 [some (.ref 1000), some (.int x1), some (.ref 1109), none] [] h r := by
  refine tr_s (.aload_n 2) 1 1 [some (.ref 1000), some (.int x1), some (.ref 1109), none] [.ref 1109] h rfl rfl rfl ?_
  refine tr_ic 0 0 (by decide) rfl ?_
  refine tr_s (.aload_n 0) 1 3 [some (.ref 1000), some (.int x1), some (.ref 1109), none] [.ref 1000, .int 0, .ref 1109] h rfl rfl rfl ?_
  refine tr_s (.iload_n 1) 1 4 [some (.ref 1000), some (.int x1), some (.ref 1109), none] [.int x1, .ref 1000, .int 0, .ref 1109] h rfl rfl rfl ?_
  refine tr_call (.invokevirtual 68) 68 0 1 0 m_X8_portByLength [.ref 1000, .int x1] [.int 0, .ref 1109] (some (.int v0)) h1 rfl rfl rfl rfl rfl rfl rfl rfl rfl (tr_cok rfl (Or.inr ⟨_, _, rfl, tr_rc (hh_rd (hh_obj hL (k := 0) rfl).1) (by decide)⟩)) c_0 ?_
  have hL0 := c_0.2
  refine tr_s .i2l 1 8 [some (.ref 1000), some (.int x1), some (.ref 1109), none] [.long v0.toInt64, .int 0, .ref 1109] h1 rfl rfl rfl ?_
  refine tr_las 1109 v0.toInt64 _ rfl (by decide) (hh_obj hL0 (k := 109) rfl).1 (hh_obj hL0 (k := 109) rfl).2 ?_
  have hL1 : hh_L (ev_wr h1 1109 (.inr (100, (hh_v h1 109).set 0 (.long v0.toInt64)))) := hh_L_sv (sl := 0) (v := .long v0.toInt64) hL0 (show hh_t[109]? = some (.inr (100, [2])) from rfl) rfl ⟨_, rfl⟩
  refine tr_goto 6 15 rfl rfl rfl ?_
  refine tr_ic 0 0 (by decide) rfl ?_
  exact tl_ret hL1 .ireturn 1 (some (.int 0)) rfl rfl rfl rfl hr
theorem sx_L_testify_0_5_1 {g : tr_g} {d : Nat} {h : ev_AH} {r : ev_O × ev_AH} {x1 x2 v0 : Int32} {h1 hx : ev_AH} (hL : hh_L h) (cx : tr_L g d m_X8_testify 0 [some (.ref 1000), some (.int x1), some (.int x2)] [] h (.inr 1, hx)) (hr : r = (.inl (some (.int 1)), hx)) : tr_L g (d + 1) m_L_testify 0 [some (.ref 1000), some (.int x1), some (.int x2), some (.ref 1109), none] [] h r := by
  refine tr_s (.aload_n 3) 1 1 [some (.ref 1000), some (.int x1), some (.int x2), some (.ref 1109), none] [.ref 1109] h rfl rfl rfl ?_
  refine tr_ic 0 0 (by decide) rfl ?_
  refine tr_s (.aload_n 0) 1 3 [some (.ref 1000), some (.int x1), some (.int x2), some (.ref 1109), none] [.ref 1000, .int 0, .ref 1109] h rfl rfl rfl ?_
  refine tr_s (.iload_n 1) 1 4 [some (.ref 1000), some (.int x1), some (.int x2), some (.ref 1109), none] [.int x1, .ref 1000, .int 0, .ref 1109] h rfl rfl rfl ?_
  refine tr_s (.iload_n 2) 1 5 [some (.ref 1000), some (.int x1), some (.int x2), some (.ref 1109), none] [.int x2, .int x1, .ref 1000, .int 0, .ref 1109] h rfl rfl rfl ?_
  refine tr_callh (.invokevirtual 71) 71 0 2 0 m_X8_testify [.ref 1000, .int x1, .int x2] [.int 0, .ref 1109] 1 15 4 hx rfl rfl rfl rfl rfl rfl rfl rfl rfl (tr_cok rfl (Or.inr ⟨_, _, rfl, tr_rc (hh_rd (hh_obj hL (k := 0) rfl).1) (by decide)⟩)) rfl rfl cx ?_
  refine tr_ic 1 1 (by decide) rfl ?_
  exact tl_ret cx.2 .ireturn 1 (some (.int 1)) rfl rfl rfl rfl hr
theorem sx_L_testify_0_5_2 {g : tr_g} {d : Nat} {h : ev_AH} {r : ev_O × ev_AH} {x1 x2 v0 : Int32} {h1 hx : ev_AH} (hL : hh_L h) (cx : tr_L g d m_X8_testify 0 [some (.ref 1000), some (.int x1), some (.int x2)] [] h (.inr 2, hx)) (hr : r = (.inl (some (.int 2)), hx)) : tr_L g (d + 1) m_L_testify 0 [some (.ref 1000), some (.int x1), some (.int x2), some (.ref 1109), none] [] h r := by
  refine tr_s (.aload_n 3) 1 1 [some (.ref 1000), some (.int x1), some (.int x2), some (.ref 1109), none] [.ref 1109] h rfl rfl rfl ?_
  refine tr_ic 0 0 (by decide) rfl ?_
  refine tr_s (.aload_n 0) 1 3 [some (.ref 1000), some (.int x1), some (.int x2), some (.ref 1109), none] [.ref 1000, .int 0, .ref 1109] h rfl rfl rfl ?_
  refine tr_s (.iload_n 1) 1 4 [some (.ref 1000), some (.int x1), some (.int x2), some (.ref 1109), none] [.int x1, .ref 1000, .int 0, .ref 1109] h rfl rfl rfl ?_
  refine tr_s (.iload_n 2) 1 5 [some (.ref 1000), some (.int x1), some (.int x2), some (.ref 1109), none] [.int x2, .int x1, .ref 1000, .int 0, .ref 1109] h rfl rfl rfl ?_
  refine tr_callh (.invokevirtual 71) 71 0 2 0 m_X8_testify [.ref 1000, .int x1, .int x2] [.int 0, .ref 1109] 2 19 4 hx rfl rfl rfl rfl rfl rfl rfl rfl rfl (tr_cok rfl (Or.inr ⟨_, _, rfl, tr_rc (hh_rd (hh_obj hL (k := 0) rfl).1) (by decide)⟩)) rfl rfl cx ?_
  refine tr_ic 2 2 (by decide) rfl ?_
  exact tl_ret cx.2 .ireturn 1 (some (.int 2)) rfl rfl rfl rfl hr
theorem sg_L_testify_0 {g : tr_g} {d : Nat} {h : ev_AH} {r : ev_O × ev_AH} {x1 x2 v0 : Int32} {h1 : ev_AH} (hL : hh_L h) (c_0 : tr_L g d m_X8_testify 0 [some (.ref 1000), some (.int x1), some (.int x2)] [] h (.inl (some (.int v0)), h1)) (hr : r = (.inl (some (.int 0)), ev_wr h1 1109 (.inr (100, (hh_v h1 109).set 0 (.long v0.toInt64))))) : tr_L g (d + 1) m_L_testify 0 [some (.ref 1000), some (.int x1), some (.int x2), some (.ref 1109), none] [] h r := by
  refine tr_s (.aload_n 3) 1 1 [some (.ref 1000), some (.int x1), some (.int x2), some (.ref 1109), none] [.ref 1109] h rfl rfl rfl ?_
  refine tr_ic 0 0 (by decide) rfl ?_
  refine tr_s (.aload_n 0) 1 3 [some (.ref 1000), some (.int x1), some (.int x2), some (.ref 1109), none] [.ref 1000, .int 0, .ref 1109] h rfl rfl rfl ?_
  refine tr_s (.iload_n 1) 1 4 [some (.ref 1000), some (.int x1), some (.int x2), some (.ref 1109), none] [.int x1, .ref 1000, .int 0, .ref 1109] h rfl rfl rfl ?_
  refine tr_s (.iload_n 2) 1 5 [some (.ref 1000), some (.int x1), some (.int x2), some (.ref 1109), none] [.int x2, .int x1, .ref 1000, .int 0, .ref 1109] h rfl rfl rfl ?_
  refine tr_call (.invokevirtual 71) 71 0 2 0 m_X8_testify [.ref 1000, .int x1, .int x2] [.int 0, .ref 1109] (some (.int v0)) h1 rfl rfl rfl rfl rfl rfl rfl rfl rfl (tr_cok rfl (Or.inr ⟨_, _, rfl, tr_rc (hh_rd (hh_obj hL (k := 0) rfl).1) (by decide)⟩)) c_0 ?_
  have hL0 := c_0.2
  refine tr_s .i2l 1 9 [some (.ref 1000), some (.int x1), some (.int x2), some (.ref 1109), none] [.long v0.toInt64, .int 0, .ref 1109] h1 rfl rfl rfl ?_
  refine tr_las 1109 v0.toInt64 _ rfl (by decide) (hh_obj hL0 (k := 109) rfl).1 (hh_obj hL0 (k := 109) rfl).2 ?_
  have hL1 : hh_L (ev_wr h1 1109 (.inr (100, (hh_v h1 109).set 0 (.long v0.toInt64)))) := hh_L_sv (sl := 0) (v := .long v0.toInt64) hL0 (show hh_t[109]? = some (.inr (100, [2])) from rfl) rfl ⟨_, rfl⟩
  refine tr_goto 11 21 rfl rfl rfl ?_
  refine tr_ic 0 0 (by decide) rfl ?_
  exact tl_ret hL1 .ireturn 1 (some (.int 0)) rfl rfl rfl rfl hr
theorem sx_L_firstVotes_0_4_1 {g : tr_g} {d : Nat} {h : ev_AH} {r : ev_O × ev_AH} {x1 v0 : Int32} {h1 hx : ev_AH} (hL : hh_L h) (cx : tr_L g d m_X8_firstVotes 0 [some (.ref 1000), some (.int x1)] [] h (.inr 1, hx)) (hr : r = (.inl (some (.int 1)), hx)) : tr_L g (d + 1) m_L_firstVotes 0 [some (.ref 1000), some (.int x1), some (.ref 1109), none] [] h r := by
  refine tr_s (.aload_n 2) 1 1 [some (.ref 1000), some (.int x1), some (.ref 1109), none] [.ref 1109] h rfl rfl rfl ?_
  refine tr_ic 0 0 (by decide) rfl ?_
  refine tr_s (.aload_n 0) 1 3 [some (.ref 1000), some (.int x1), some (.ref 1109), none] [.ref 1000, .int 0, .ref 1109] h rfl rfl rfl ?_
  refine tr_s (.iload_n 1) 1 4 [some (.ref 1000), some (.int x1), some (.ref 1109), none] [.int x1, .ref 1000, .int 0, .ref 1109] h rfl rfl rfl ?_
  refine tr_callh (.invokevirtual 74) 74 0 1 0 m_X8_firstVotes [.ref 1000, .int x1] [.int 0, .ref 1109] 1 13 3 hx rfl rfl rfl rfl rfl rfl rfl rfl rfl (tr_cok rfl (Or.inr ⟨_, _, rfl, tr_rc (hh_rd (hh_obj hL (k := 0) rfl).1) (by decide)⟩)) rfl rfl cx ?_
  refine tr_ic 1 1 (by decide) rfl ?_
  exact tl_ret cx.2 .ireturn 1 (some (.int 1)) rfl rfl rfl rfl hr
theorem sg_L_firstVotes_0 {g : tr_g} {d : Nat} {h : ev_AH} {r : ev_O × ev_AH} {x1 v0 : Int32} {h1 : ev_AH} (hL : hh_L h) (c_0 : tr_L g d m_X8_firstVotes 0 [some (.ref 1000), some (.int x1)] [] h (.inl (some (.int v0)), h1)) (hr : r = (.inl (some (.int 0)), ev_wr h1 1109 (.inr (100, (hh_v h1 109).set 0 (.long v0.toInt64))))) : tr_L g (d + 1) m_L_firstVotes 0 [some (.ref 1000), some (.int x1), some (.ref 1109), none] [] h r := by
  refine tr_s (.aload_n 2) 1 1 [some (.ref 1000), some (.int x1), some (.ref 1109), none] [.ref 1109] h rfl rfl rfl ?_
  refine tr_ic 0 0 (by decide) rfl ?_
  refine tr_s (.aload_n 0) 1 3 [some (.ref 1000), some (.int x1), some (.ref 1109), none] [.ref 1000, .int 0, .ref 1109] h rfl rfl rfl ?_
  refine tr_s (.iload_n 1) 1 4 [some (.ref 1000), some (.int x1), some (.ref 1109), none] [.int x1, .ref 1000, .int 0, .ref 1109] h rfl rfl rfl ?_
  refine tr_call (.invokevirtual 74) 74 0 1 0 m_X8_firstVotes [.ref 1000, .int x1] [.int 0, .ref 1109] (some (.int v0)) h1 rfl rfl rfl rfl rfl rfl rfl rfl rfl (tr_cok rfl (Or.inr ⟨_, _, rfl, tr_rc (hh_rd (hh_obj hL (k := 0) rfl).1) (by decide)⟩)) c_0 ?_
  have hL0 := c_0.2
  refine tr_s .i2l 1 8 [some (.ref 1000), some (.int x1), some (.ref 1109), none] [.long v0.toInt64, .int 0, .ref 1109] h1 rfl rfl rfl ?_
  refine tr_las 1109 v0.toInt64 _ rfl (by decide) (hh_obj hL0 (k := 109) rfl).1 (hh_obj hL0 (k := 109) rfl).2 ?_
  have hL1 : hh_L (ev_wr h1 1109 (.inr (100, (hh_v h1 109).set 0 (.long v0.toInt64)))) := hh_L_sv (sl := 0) (v := .long v0.toInt64) hL0 (show hh_t[109]? = some (.inr (100, [2])) from rfl) rfl ⟨_, rfl⟩
  refine tr_goto 6 15 rfl rfl rfl ?_
  refine tr_ic 0 0 (by decide) rfl ?_
  exact tl_ret hL1 .ireturn 1 (some (.int 0)) rfl rfl rfl rfl hr
theorem sx_L_prefer_0_5_1 {g : tr_g} {d : Nat} {h : ev_AH} {r : ev_O × ev_AH} {x1 x2 v0 : Int32} {h1 hx : ev_AH} (hL : hh_L h) (cx : tr_L g d m_X8_prefer 0 [some (.ref 1000), some (.int x1), some (.int x2)] [] h (.inr 1, hx)) (hr : r = (.inl (some (.int 1)), hx)) : tr_L g (d + 1) m_L_prefer 0 [some (.ref 1000), some (.int x1), some (.int x2), some (.ref 1109), none] [] h r := by
  refine tr_s (.aload_n 3) 1 1 [some (.ref 1000), some (.int x1), some (.int x2), some (.ref 1109), none] [.ref 1109] h rfl rfl rfl ?_
  refine tr_ic 0 0 (by decide) rfl ?_
  refine tr_s (.aload_n 0) 1 3 [some (.ref 1000), some (.int x1), some (.int x2), some (.ref 1109), none] [.ref 1000, .int 0, .ref 1109] h rfl rfl rfl ?_
  refine tr_s (.iload_n 1) 1 4 [some (.ref 1000), some (.int x1), some (.int x2), some (.ref 1109), none] [.int x1, .ref 1000, .int 0, .ref 1109] h rfl rfl rfl ?_
  refine tr_s (.iload_n 2) 1 5 [some (.ref 1000), some (.int x1), some (.int x2), some (.ref 1109), none] [.int x2, .int x1, .ref 1000, .int 0, .ref 1109] h rfl rfl rfl ?_
  refine tr_callh (.invokevirtual 78) 78 0 2 0 m_X8_prefer [.ref 1000, .int x1, .int x2] [.int 0, .ref 1109] 1 15 4 hx rfl rfl rfl rfl rfl rfl rfl rfl rfl (tr_cok rfl (Or.inr ⟨_, _, rfl, tr_rc (hh_rd (hh_obj hL (k := 0) rfl).1) (by decide)⟩)) rfl rfl cx ?_
  refine tr_ic 1 1 (by decide) rfl ?_
  exact tl_ret cx.2 .ireturn 1 (some (.int 1)) rfl rfl rfl rfl hr
theorem sg_L_prefer_0 {g : tr_g} {d : Nat} {h : ev_AH} {r : ev_O × ev_AH} {x1 x2 v0 : Int32} {h1 : ev_AH} (hL : hh_L h) (c_0 : tr_L g d m_X8_prefer 0 [some (.ref 1000), some (.int x1), some (.int x2)] [] h (.inl (some (.int v0)), h1)) (hr : r = (.inl (some (.int 0)), ev_wr h1 1109 (.inr (100, (hh_v h1 109).set 0 (.long v0.toInt64))))) : tr_L g (d + 1) m_L_prefer 0 [some (.ref 1000), some (.int x1), some (.int x2), some (.ref 1109), none] [] h r := by
  refine tr_s (.aload_n 3) 1 1 [some (.ref 1000), some (.int x1), some (.int x2), some (.ref 1109), none] [.ref 1109] h rfl rfl rfl ?_
  refine tr_ic 0 0 (by decide) rfl ?_
  refine tr_s (.aload_n 0) 1 3 [some (.ref 1000), some (.int x1), some (.int x2), some (.ref 1109), none] [.ref 1000, .int 0, .ref 1109] h rfl rfl rfl ?_
  refine tr_s (.iload_n 1) 1 4 [some (.ref 1000), some (.int x1), some (.int x2), some (.ref 1109), none] [.int x1, .ref 1000, .int 0, .ref 1109] h rfl rfl rfl ?_
  refine tr_s (.iload_n 2) 1 5 [some (.ref 1000), some (.int x1), some (.int x2), some (.ref 1109), none] [.int x2, .int x1, .ref 1000, .int 0, .ref 1109] h rfl rfl rfl ?_
  refine tr_call (.invokevirtual 78) 78 0 2 0 m_X8_prefer [.ref 1000, .int x1, .int x2] [.int 0, .ref 1109] (some (.int v0)) h1 rfl rfl rfl rfl rfl rfl rfl rfl rfl (tr_cok rfl (Or.inr ⟨_, _, rfl, tr_rc (hh_rd (hh_obj hL (k := 0) rfl).1) (by decide)⟩)) c_0 ?_
  have hL0 := c_0.2
  refine tr_s .i2l 1 9 [some (.ref 1000), some (.int x1), some (.int x2), some (.ref 1109), none] [.long v0.toInt64, .int 0, .ref 1109] h1 rfl rfl rfl ?_
  refine tr_las 1109 v0.toInt64 _ rfl (by decide) (hh_obj hL0 (k := 109) rfl).1 (hh_obj hL0 (k := 109) rfl).2 ?_
  have hL1 : hh_L (ev_wr h1 1109 (.inr (100, (hh_v h1 109).set 0 (.long v0.toInt64)))) := hh_L_sv (sl := 0) (v := .long v0.toInt64) hL0 (show hh_t[109]? = some (.inr (100, [2])) from rfl) rfl ⟨_, rfl⟩
  refine tr_goto 7 17 rfl rfl rfl ?_
  refine tr_ic 0 0 (by decide) rfl ?_
  exact tl_ret hL1 .ireturn 1 (some (.int 0)) rfl rfl rfl rfl hr
theorem sx_L_pointsOf_0_4_1 {g : tr_g} {d : Nat} {h : ev_AH} {r : ev_O × ev_AH} {x1 v0 : Int32} {h1 hx : ev_AH} (hL : hh_L h) (cx : tr_L g d m_X8_pointsOf 0 [some (.ref 1000), some (.int x1)] [] h (.inr 1, hx)) (hr : r = (.inl (some (.int 1)), hx)) : tr_L g (d + 1) m_L_pointsOf 0 [some (.ref 1000), some (.int x1), some (.ref 1109), none] [] h r := by
  refine tr_s (.aload_n 2) 1 1 [some (.ref 1000), some (.int x1), some (.ref 1109), none] [.ref 1109] h rfl rfl rfl ?_
  refine tr_ic 0 0 (by decide) rfl ?_
  refine tr_s (.aload_n 0) 1 3 [some (.ref 1000), some (.int x1), some (.ref 1109), none] [.ref 1000, .int 0, .ref 1109] h rfl rfl rfl ?_
  refine tr_s (.iload_n 1) 1 4 [some (.ref 1000), some (.int x1), some (.ref 1109), none] [.int x1, .ref 1000, .int 0, .ref 1109] h rfl rfl rfl ?_
  refine tr_callh (.invokevirtual 82) 82 0 1 0 m_X8_pointsOf [.ref 1000, .int x1] [.int 0, .ref 1109] 1 13 3 hx rfl rfl rfl rfl rfl rfl rfl rfl rfl (tr_cok rfl (Or.inr ⟨_, _, rfl, tr_rc (hh_rd (hh_obj hL (k := 0) rfl).1) (by decide)⟩)) rfl rfl cx ?_
  refine tr_ic 1 1 (by decide) rfl ?_
  exact tl_ret cx.2 .ireturn 1 (some (.int 1)) rfl rfl rfl rfl hr
theorem sg_L_pointsOf_0 {g : tr_g} {d : Nat} {h : ev_AH} {r : ev_O × ev_AH} {x1 v0 : Int32} {h1 : ev_AH} (hL : hh_L h) (c_0 : tr_L g d m_X8_pointsOf 0 [some (.ref 1000), some (.int x1)] [] h (.inl (some (.int v0)), h1)) (hr : r = (.inl (some (.int 0)), ev_wr h1 1109 (.inr (100, (hh_v h1 109).set 0 (.long v0.toInt64))))) : tr_L g (d + 1) m_L_pointsOf 0 [some (.ref 1000), some (.int x1), some (.ref 1109), none] [] h r := by
  refine tr_s (.aload_n 2) 1 1 [some (.ref 1000), some (.int x1), some (.ref 1109), none] [.ref 1109] h rfl rfl rfl ?_
  refine tr_ic 0 0 (by decide) rfl ?_
  refine tr_s (.aload_n 0) 1 3 [some (.ref 1000), some (.int x1), some (.ref 1109), none] [.ref 1000, .int 0, .ref 1109] h rfl rfl rfl ?_
  refine tr_s (.iload_n 1) 1 4 [some (.ref 1000), some (.int x1), some (.ref 1109), none] [.int x1, .ref 1000, .int 0, .ref 1109] h rfl rfl rfl ?_
  refine tr_call (.invokevirtual 82) 82 0 1 0 m_X8_pointsOf [.ref 1000, .int x1] [.int 0, .ref 1109] (some (.int v0)) h1 rfl rfl rfl rfl rfl rfl rfl rfl rfl (tr_cok rfl (Or.inr ⟨_, _, rfl, tr_rc (hh_rd (hh_obj hL (k := 0) rfl).1) (by decide)⟩)) c_0 ?_
  have hL0 := c_0.2
  refine tr_s .i2l 1 8 [some (.ref 1000), some (.int x1), some (.ref 1109), none] [.long v0.toInt64, .int 0, .ref 1109] h1 rfl rfl rfl ?_
  refine tr_las 1109 v0.toInt64 _ rfl (by decide) (hh_obj hL0 (k := 109) rfl).1 (hh_obj hL0 (k := 109) rfl).2 ?_
  have hL1 : hh_L (ev_wr h1 1109 (.inr (100, (hh_v h1 109).set 0 (.long v0.toInt64)))) := hh_L_sv (sl := 0) (v := .long v0.toInt64) hL0 (show hh_t[109]? = some (.inr (100, [2])) from rfl) rfl ⟨_, rfl⟩
  refine tr_goto 6 15 rfl rfl rfl ?_
  refine tr_ic 0 0 (by decide) rfl ?_
  exact tl_ret hL1 .ireturn 1 (some (.int 0)) rfl rfl rfl rfl hr
theorem sx_L_pointsWinner_0_3_3 {g : tr_g} {d : Nat} {h : ev_AH} {r : ev_O × ev_AH} {h1 hx : ev_AH} {v0 : Int32} (hL : hh_L h) (cx : tr_L g d m_X8_pointsWinner 0 [some (.ref 1000)] [] h (.inr 3, hx)) (hr : r = (.inl (some (.int 1)), hx)) : tr_L g (d + 1) m_L_pointsWinner 0 [some (.ref 1000), some (.ref 1109), none] [] h r := by
  refine tr_s (.aload_n 1) 1 1 [some (.ref 1000), some (.ref 1109), none] [.ref 1109] h rfl rfl rfl ?_
  refine tr_ic 0 0 (by decide) rfl ?_
  refine tr_s (.aload_n 0) 1 3 [some (.ref 1000), some (.ref 1109), none] [.ref 1000, .int 0, .ref 1109] h rfl rfl rfl ?_
  refine tr_callh (.invokevirtual 85) 85 0 0 0 m_X8_pointsWinner [.ref 1000] [.int 0, .ref 1109] 3 12 2 hx rfl rfl rfl rfl rfl rfl rfl rfl rfl (tr_cok rfl (Or.inr ⟨_, _, rfl, tr_rc (hh_rd (hh_obj hL (k := 0) rfl).1) (by decide)⟩)) rfl rfl cx ?_
  refine tr_ic 1 1 (by decide) rfl ?_
  exact tl_ret cx.2 .ireturn 1 (some (.int 1)) rfl rfl rfl rfl hr
theorem sg_L_pointsWinner_0 {g : tr_g} {d : Nat} {h : ev_AH} {r : ev_O × ev_AH} {h1 : ev_AH} {v0 : Int32} (hL : hh_L h) (c_0 : tr_L g d m_X8_pointsWinner 0 [some (.ref 1000)] [] h (.inl (some (.int v0)), h1)) (hr : r = (.inl (some (.int 0)), ev_wr h1 1109 (.inr (100, (hh_v h1 109).set 0 (.long v0.toInt64))))) : tr_L g (d + 1) m_L_pointsWinner 0 [some (.ref 1000), some (.ref 1109), none] [] h r := by
  refine tr_s (.aload_n 1) 1 1 [some (.ref 1000), some (.ref 1109), none] [.ref 1109] h rfl rfl rfl ?_
  refine tr_ic 0 0 (by decide) rfl ?_
  refine tr_s (.aload_n 0) 1 3 [some (.ref 1000), some (.ref 1109), none] [.ref 1000, .int 0, .ref 1109] h rfl rfl rfl ?_
  refine tr_call (.invokevirtual 85) 85 0 0 0 m_X8_pointsWinner [.ref 1000] [.int 0, .ref 1109] (some (.int v0)) h1 rfl rfl rfl rfl rfl rfl rfl rfl rfl (tr_cok rfl (Or.inr ⟨_, _, rfl, tr_rc (hh_rd (hh_obj hL (k := 0) rfl).1) (by decide)⟩)) c_0 ?_
  have hL0 := c_0.2
  refine tr_s .i2l 1 7 [some (.ref 1000), some (.ref 1109), none] [.long v0.toInt64, .int 0, .ref 1109] h1 rfl rfl rfl ?_
  refine tr_las 1109 v0.toInt64 _ rfl (by decide) (hh_obj hL0 (k := 109) rfl).1 (hh_obj hL0 (k := 109) rfl).2 ?_
  have hL1 : hh_L (ev_wr h1 1109 (.inr (100, (hh_v h1 109).set 0 (.long v0.toInt64)))) := hh_L_sv (sl := 0) (v := .long v0.toInt64) hL0 (show hh_t[109]? = some (.inr (100, [2])) from rfl) rfl ⟨_, rfl⟩
  refine tr_goto 6 14 rfl rfl rfl ?_
  refine tr_ic 0 0 (by decide) rfl ?_
  exact tl_ret hL1 .ireturn 1 (some (.int 0)) rfl rfl rfl rfl hr
theorem sx_L_roundsWinner_0_3_3 {g : tr_g} {d : Nat} {h : ev_AH} {r : ev_O × ev_AH} {h1 hx : ev_AH} {v0 : Int32} (hL : hh_L h) (cx : tr_L g d m_X8_roundsWinner 0 [some (.ref 1000)] [] h (.inr 3, hx)) (hr : r = (.inl (some (.int 1)), hx)) : tr_L g (d + 1) m_L_roundsWinner 0 [some (.ref 1000), some (.ref 1109), none] [] h r := by
  refine tr_s (.aload_n 1) 1 1 [some (.ref 1000), some (.ref 1109), none] [.ref 1109] h rfl rfl rfl ?_
  refine tr_ic 0 0 (by decide) rfl ?_
  refine tr_s (.aload_n 0) 1 3 [some (.ref 1000), some (.ref 1109), none] [.ref 1000, .int 0, .ref 1109] h rfl rfl rfl ?_
  refine tr_callh (.invokevirtual 89) 89 0 0 0 m_X8_roundsWinner [.ref 1000] [.int 0, .ref 1109] 3 12 2 hx rfl rfl rfl rfl rfl rfl rfl rfl rfl (tr_cok rfl (Or.inr ⟨_, _, rfl, tr_rc (hh_rd (hh_obj hL (k := 0) rfl).1) (by decide)⟩)) rfl rfl cx ?_
  refine tr_ic 1 1 (by decide) rfl ?_
  exact tl_ret cx.2 .ireturn 1 (some (.int 1)) rfl rfl rfl rfl hr
theorem sg_L_roundsWinner_0 {g : tr_g} {d : Nat} {h : ev_AH} {r : ev_O × ev_AH} {h1 : ev_AH} {v0 : Int32} (hL : hh_L h) (c_0 : tr_L g d m_X8_roundsWinner 0 [some (.ref 1000)] [] h (.inl (some (.int v0)), h1)) (hr : r = (.inl (some (.int 0)), ev_wr h1 1109 (.inr (100, (hh_v h1 109).set 0 (.long v0.toInt64))))) : tr_L g (d + 1) m_L_roundsWinner 0 [some (.ref 1000), some (.ref 1109), none] [] h r := by
  refine tr_s (.aload_n 1) 1 1 [some (.ref 1000), some (.ref 1109), none] [.ref 1109] h rfl rfl rfl ?_
  refine tr_ic 0 0 (by decide) rfl ?_
  refine tr_s (.aload_n 0) 1 3 [some (.ref 1000), some (.ref 1109), none] [.ref 1000, .int 0, .ref 1109] h rfl rfl rfl ?_
  refine tr_call (.invokevirtual 89) 89 0 0 0 m_X8_roundsWinner [.ref 1000] [.int 0, .ref 1109] (some (.int v0)) h1 rfl rfl rfl rfl rfl rfl rfl rfl rfl (tr_cok rfl (Or.inr ⟨_, _, rfl, tr_rc (hh_rd (hh_obj hL (k := 0) rfl).1) (by decide)⟩)) c_0 ?_
  have hL0 := c_0.2
  refine tr_s .i2l 1 7 [some (.ref 1000), some (.ref 1109), none] [.long v0.toInt64, .int 0, .ref 1109] h1 rfl rfl rfl ?_
  refine tr_las 1109 v0.toInt64 _ rfl (by decide) (hh_obj hL0 (k := 109) rfl).1 (hh_obj hL0 (k := 109) rfl).2 ?_
  have hL1 : hh_L (ev_wr h1 1109 (.inr (100, (hh_v h1 109).set 0 (.long v0.toInt64)))) := hh_L_sv (sl := 0) (v := .long v0.toInt64) hL0 (show hh_t[109]? = some (.inr (100, [2])) from rfl) rfl ⟨_, rfl⟩
  refine tr_goto 6 14 rfl rfl rfl ?_
  refine tr_ic 0 0 (by decide) rfl ?_
  exact tl_ret hL1 .ireturn 1 (some (.int 0)) rfl rfl rfl rfl hr
theorem sx_L_rounds_0_3_3 {g : tr_g} {d : Nat} {h : ev_AH} {r : ev_O × ev_AH} {h1 hx : ev_AH} {v0 : Int32} (hL : hh_L h) (cx : tr_L g d m_X8_rounds 0 [some (.ref 1000)] [] h (.inr 3, hx)) (hr : r = (.inl (some (.int 1)), hx)) : tr_L g (d + 1) m_L_rounds 0 [some (.ref 1000), some (.ref 1109), none] [] h r := by
  refine tr_s (.aload_n 1) 1 1 [some (.ref 1000), some (.ref 1109), none] [.ref 1109] h rfl rfl rfl ?_
  refine tr_ic 0 0 (by decide) rfl ?_
  refine tr_s (.aload_n 0) 1 3 [some (.ref 1000), some (.ref 1109), none] [.ref 1000, .int 0, .ref 1109] h rfl rfl rfl ?_
  refine tr_callh (.invokevirtual 92) 92 0 0 0 m_X8_rounds [.ref 1000] [.int 0, .ref 1109] 3 12 2 hx rfl rfl rfl rfl rfl rfl rfl rfl rfl (tr_cok rfl (Or.inr ⟨_, _, rfl, tr_rc (hh_rd (hh_obj hL (k := 0) rfl).1) (by decide)⟩)) rfl rfl cx ?_
  refine tr_ic 1 1 (by decide) rfl ?_
  exact tl_ret cx.2 .ireturn 1 (some (.int 1)) rfl rfl rfl rfl hr
theorem sg_L_rounds_0 {g : tr_g} {d : Nat} {h : ev_AH} {r : ev_O × ev_AH} {h1 : ev_AH} {v0 : Int32} (hL : hh_L h) (c_0 : tr_L g d m_X8_rounds 0 [some (.ref 1000)] [] h (.inl (some (.int v0)), h1)) (hr : r = (.inl (some (.int 0)), ev_wr h1 1109 (.inr (100, (hh_v h1 109).set 0 (.long v0.toInt64))))) : tr_L g (d + 1) m_L_rounds 0 [some (.ref 1000), some (.ref 1109), none] [] h r := by
  refine tr_s (.aload_n 1) 1 1 [some (.ref 1000), some (.ref 1109), none] [.ref 1109] h rfl rfl rfl ?_
  refine tr_ic 0 0 (by decide) rfl ?_
  refine tr_s (.aload_n 0) 1 3 [some (.ref 1000), some (.ref 1109), none] [.ref 1000, .int 0, .ref 1109] h rfl rfl rfl ?_
  refine tr_call (.invokevirtual 92) 92 0 0 0 m_X8_rounds [.ref 1000] [.int 0, .ref 1109] (some (.int v0)) h1 rfl rfl rfl rfl rfl rfl rfl rfl rfl (tr_cok rfl (Or.inr ⟨_, _, rfl, tr_rc (hh_rd (hh_obj hL (k := 0) rfl).1) (by decide)⟩)) c_0 ?_
  have hL0 := c_0.2
  refine tr_s .i2l 1 7 [some (.ref 1000), some (.ref 1109), none] [.long v0.toInt64, .int 0, .ref 1109] h1 rfl rfl rfl ?_
  refine tr_las 1109 v0.toInt64 _ rfl (by decide) (hh_obj hL0 (k := 109) rfl).1 (hh_obj hL0 (k := 109) rfl).2 ?_
  have hL1 : hh_L (ev_wr h1 1109 (.inr (100, (hh_v h1 109).set 0 (.long v0.toInt64)))) := hh_L_sv (sl := 0) (v := .long v0.toInt64) hL0 (show hh_t[109]? = some (.inr (100, [2])) from rfl) rfl ⟨_, rfl⟩
  refine tr_goto 6 14 rfl rfl rfl ?_
  refine tr_ic 0 0 (by decide) rfl ?_
  exact tl_ret hL1 .ireturn 1 (some (.int 0)) rfl rfl rfl rfl hr
theorem sx_L_strengthOf_0_5_1 {g : tr_g} {d : Nat} {h : ev_AH} {r : ev_O × ev_AH} {x1 x2 v0 : Int32} {h1 hx : ev_AH} (hL : hh_L h) (cx : tr_L g d m_X8_strengthOf 0 [some (.ref 1000), some (.int x1), some (.int x2)] [] h (.inr 1, hx)) (hr : r = (.inl (some (.int 1)), hx)) : tr_L g (d + 1) m_L_strengthOf 0 [some (.ref 1000), some (.int x1), some (.int x2), some (.ref 1109), none] [] h r := by
  refine tr_s (.aload_n 3) 1 1 [some (.ref 1000), some (.int x1), some (.int x2), some (.ref 1109), none] [.ref 1109] h rfl rfl rfl ?_
  refine tr_ic 0 0 (by decide) rfl ?_
  refine tr_s (.aload_n 0) 1 3 [some (.ref 1000), some (.int x1), some (.int x2), some (.ref 1109), none] [.ref 1000, .int 0, .ref 1109] h rfl rfl rfl ?_
  refine tr_s (.iload_n 1) 1 4 [some (.ref 1000), some (.int x1), some (.int x2), some (.ref 1109), none] [.int x1, .ref 1000, .int 0, .ref 1109] h rfl rfl rfl ?_
  refine tr_s (.iload_n 2) 1 5 [some (.ref 1000), some (.int x1), some (.int x2), some (.ref 1109), none] [.int x2, .int x1, .ref 1000, .int 0, .ref 1109] h rfl rfl rfl ?_
  refine tr_callh (.invokevirtual 96) 96 0 2 0 m_X8_strengthOf [.ref 1000, .int x1, .int x2] [.int 0, .ref 1109] 1 15 4 hx rfl rfl rfl rfl rfl rfl rfl rfl rfl (tr_cok rfl (Or.inr ⟨_, _, rfl, tr_rc (hh_rd (hh_obj hL (k := 0) rfl).1) (by decide)⟩)) rfl rfl cx ?_
  refine tr_ic 1 1 (by decide) rfl ?_
  exact tl_ret cx.2 .ireturn 1 (some (.int 1)) rfl rfl rfl rfl hr
theorem sg_L_strengthOf_0 {g : tr_g} {d : Nat} {h : ev_AH} {r : ev_O × ev_AH} {x1 x2 v0 : Int32} {h1 : ev_AH} (hL : hh_L h) (c_0 : tr_L g d m_X8_strengthOf 0 [some (.ref 1000), some (.int x1), some (.int x2)] [] h (.inl (some (.int v0)), h1)) (hr : r = (.inl (some (.int 0)), ev_wr h1 1109 (.inr (100, (hh_v h1 109).set 0 (.long v0.toInt64))))) : tr_L g (d + 1) m_L_strengthOf 0 [some (.ref 1000), some (.int x1), some (.int x2), some (.ref 1109), none] [] h r := by
  refine tr_s (.aload_n 3) 1 1 [some (.ref 1000), some (.int x1), some (.int x2), some (.ref 1109), none] [.ref 1109] h rfl rfl rfl ?_
  refine tr_ic 0 0 (by decide) rfl ?_
  refine tr_s (.aload_n 0) 1 3 [some (.ref 1000), some (.int x1), some (.int x2), some (.ref 1109), none] [.ref 1000, .int 0, .ref 1109] h rfl rfl rfl ?_
  refine tr_s (.iload_n 1) 1 4 [some (.ref 1000), some (.int x1), some (.int x2), some (.ref 1109), none] [.int x1, .ref 1000, .int 0, .ref 1109] h rfl rfl rfl ?_
  refine tr_s (.iload_n 2) 1 5 [some (.ref 1000), some (.int x1), some (.int x2), some (.ref 1109), none] [.int x2, .int x1, .ref 1000, .int 0, .ref 1109] h rfl rfl rfl ?_
  refine tr_call (.invokevirtual 96) 96 0 2 0 m_X8_strengthOf [.ref 1000, .int x1, .int x2] [.int 0, .ref 1109] (some (.int v0)) h1 rfl rfl rfl rfl rfl rfl rfl rfl rfl (tr_cok rfl (Or.inr ⟨_, _, rfl, tr_rc (hh_rd (hh_obj hL (k := 0) rfl).1) (by decide)⟩)) c_0 ?_
  have hL0 := c_0.2
  refine tr_s .i2l 1 9 [some (.ref 1000), some (.int x1), some (.int x2), some (.ref 1109), none] [.long v0.toInt64, .int 0, .ref 1109] h1 rfl rfl rfl ?_
  refine tr_las 1109 v0.toInt64 _ rfl (by decide) (hh_obj hL0 (k := 109) rfl).1 (hh_obj hL0 (k := 109) rfl).2 ?_
  have hL1 : hh_L (ev_wr h1 1109 (.inr (100, (hh_v h1 109).set 0 (.long v0.toInt64)))) := hh_L_sv (sl := 0) (v := .long v0.toInt64) hL0 (show hh_t[109]? = some (.inr (100, [2])) from rfl) rfl ⟨_, rfl⟩
  refine tr_goto 7 17 rfl rfl rfl ?_
  refine tr_ic 0 0 (by decide) rfl ?_
  exact tl_ret hL1 .ireturn 1 (some (.int 0)) rfl rfl rfl rfl hr
theorem sx_L_strengthByTrying_0_5_1 {g : tr_g} {d : Nat} {h : ev_AH} {r : ev_O × ev_AH} {x1 x2 v0 : Int32} {h1 hx : ev_AH} (hL : hh_L h) (cx : tr_L g d m_X8_strengthByTrying 0 [some (.ref 1000), some (.int x1), some (.int x2)] [] h (.inr 1, hx)) (hr : r = (.inl (some (.int 1)), hx)) : tr_L g (d + 1) m_L_strengthByTrying 0 [some (.ref 1000), some (.int x1), some (.int x2), some (.ref 1109), none] [] h r := by
  refine tr_s (.aload_n 3) 1 1 [some (.ref 1000), some (.int x1), some (.int x2), some (.ref 1109), none] [.ref 1109] h rfl rfl rfl ?_
  refine tr_ic 0 0 (by decide) rfl ?_
  refine tr_s (.aload_n 0) 1 3 [some (.ref 1000), some (.int x1), some (.int x2), some (.ref 1109), none] [.ref 1000, .int 0, .ref 1109] h rfl rfl rfl ?_
  refine tr_s (.iload_n 1) 1 4 [some (.ref 1000), some (.int x1), some (.int x2), some (.ref 1109), none] [.int x1, .ref 1000, .int 0, .ref 1109] h rfl rfl rfl ?_
  refine tr_s (.iload_n 2) 1 5 [some (.ref 1000), some (.int x1), some (.int x2), some (.ref 1109), none] [.int x2, .int x1, .ref 1000, .int 0, .ref 1109] h rfl rfl rfl ?_
  refine tr_callh (.invokevirtual 99) 99 0 2 0 m_X8_strengthByTrying [.ref 1000, .int x1, .int x2] [.int 0, .ref 1109] 1 15 4 hx rfl rfl rfl rfl rfl rfl rfl rfl rfl (tr_cok rfl (Or.inr ⟨_, _, rfl, tr_rc (hh_rd (hh_obj hL (k := 0) rfl).1) (by decide)⟩)) rfl rfl cx ?_
  refine tr_ic 1 1 (by decide) rfl ?_
  exact tl_ret cx.2 .ireturn 1 (some (.int 1)) rfl rfl rfl rfl hr
theorem sg_L_strengthByTrying_0 {g : tr_g} {d : Nat} {h : ev_AH} {r : ev_O × ev_AH} {x1 x2 v0 : Int32} {h1 : ev_AH} (hL : hh_L h) (c_0 : tr_L g d m_X8_strengthByTrying 0 [some (.ref 1000), some (.int x1), some (.int x2)] [] h (.inl (some (.int v0)), h1)) (hr : r = (.inl (some (.int 0)), ev_wr h1 1109 (.inr (100, (hh_v h1 109).set 0 (.long v0.toInt64))))) : tr_L g (d + 1) m_L_strengthByTrying 0 [some (.ref 1000), some (.int x1), some (.int x2), some (.ref 1109), none] [] h r := by
  refine tr_s (.aload_n 3) 1 1 [some (.ref 1000), some (.int x1), some (.int x2), some (.ref 1109), none] [.ref 1109] h rfl rfl rfl ?_
  refine tr_ic 0 0 (by decide) rfl ?_
  refine tr_s (.aload_n 0) 1 3 [some (.ref 1000), some (.int x1), some (.int x2), some (.ref 1109), none] [.ref 1000, .int 0, .ref 1109] h rfl rfl rfl ?_
  refine tr_s (.iload_n 1) 1 4 [some (.ref 1000), some (.int x1), some (.int x2), some (.ref 1109), none] [.int x1, .ref 1000, .int 0, .ref 1109] h rfl rfl rfl ?_
  refine tr_s (.iload_n 2) 1 5 [some (.ref 1000), some (.int x1), some (.int x2), some (.ref 1109), none] [.int x2, .int x1, .ref 1000, .int 0, .ref 1109] h rfl rfl rfl ?_
  refine tr_call (.invokevirtual 99) 99 0 2 0 m_X8_strengthByTrying [.ref 1000, .int x1, .int x2] [.int 0, .ref 1109] (some (.int v0)) h1 rfl rfl rfl rfl rfl rfl rfl rfl rfl (tr_cok rfl (Or.inr ⟨_, _, rfl, tr_rc (hh_rd (hh_obj hL (k := 0) rfl).1) (by decide)⟩)) c_0 ?_
  have hL0 := c_0.2
  refine tr_s .i2l 1 9 [some (.ref 1000), some (.int x1), some (.int x2), some (.ref 1109), none] [.long v0.toInt64, .int 0, .ref 1109] h1 rfl rfl rfl ?_
  refine tr_las 1109 v0.toInt64 _ rfl (by decide) (hh_obj hL0 (k := 109) rfl).1 (hh_obj hL0 (k := 109) rfl).2 ?_
  have hL1 : hh_L (ev_wr h1 1109 (.inr (100, (hh_v h1 109).set 0 (.long v0.toInt64)))) := hh_L_sv (sl := 0) (v := .long v0.toInt64) hL0 (show hh_t[109]? = some (.inr (100, [2])) from rfl) rfl ⟨_, rfl⟩
  refine tr_goto 7 17 rfl rfl rfl ?_
  refine tr_ic 0 0 (by decide) rfl ?_
  exact tl_ret hL1 .ireturn 1 (some (.int 0)) rfl rfl rfl rfl hr
theorem sx_L_strengthWinner_0_3_3 {g : tr_g} {d : Nat} {h : ev_AH} {r : ev_O × ev_AH} {h1 hx : ev_AH} {v0 : Int32} (hL : hh_L h) (cx : tr_L g d m_X8_strengthWinner 0 [some (.ref 1000)] [] h (.inr 3, hx)) (hr : r = (.inl (some (.int 1)), hx)) : tr_L g (d + 1) m_L_strengthWinner 0 [some (.ref 1000), some (.ref 1109), none] [] h r := by
  refine tr_s (.aload_n 1) 1 1 [some (.ref 1000), some (.ref 1109), none] [.ref 1109] h rfl rfl rfl ?_
  refine tr_ic 0 0 (by decide) rfl ?_
  refine tr_s (.aload_n 0) 1 3 [some (.ref 1000), some (.ref 1109), none] [.ref 1000, .int 0, .ref 1109] h rfl rfl rfl ?_
  refine tr_callh (.invokevirtual 102) 102 0 0 0 m_X8_strengthWinner [.ref 1000] [.int 0, .ref 1109] 3 12 2 hx rfl rfl rfl rfl rfl rfl rfl rfl rfl (tr_cok rfl (Or.inr ⟨_, _, rfl, tr_rc (hh_rd (hh_obj hL (k := 0) rfl).1) (by decide)⟩)) rfl rfl cx ?_
  refine tr_ic 1 1 (by decide) rfl ?_
  exact tl_ret cx.2 .ireturn 1 (some (.int 1)) rfl rfl rfl rfl hr
theorem sg_L_strengthWinner_0 {g : tr_g} {d : Nat} {h : ev_AH} {r : ev_O × ev_AH} {h1 : ev_AH} {v0 : Int32} (hL : hh_L h) (c_0 : tr_L g d m_X8_strengthWinner 0 [some (.ref 1000)] [] h (.inl (some (.int v0)), h1)) (hr : r = (.inl (some (.int 0)), ev_wr h1 1109 (.inr (100, (hh_v h1 109).set 0 (.long v0.toInt64))))) : tr_L g (d + 1) m_L_strengthWinner 0 [some (.ref 1000), some (.ref 1109), none] [] h r := by
  refine tr_s (.aload_n 1) 1 1 [some (.ref 1000), some (.ref 1109), none] [.ref 1109] h rfl rfl rfl ?_
  refine tr_ic 0 0 (by decide) rfl ?_
  refine tr_s (.aload_n 0) 1 3 [some (.ref 1000), some (.ref 1109), none] [.ref 1000, .int 0, .ref 1109] h rfl rfl rfl ?_
  refine tr_call (.invokevirtual 102) 102 0 0 0 m_X8_strengthWinner [.ref 1000] [.int 0, .ref 1109] (some (.int v0)) h1 rfl rfl rfl rfl rfl rfl rfl rfl rfl (tr_cok rfl (Or.inr ⟨_, _, rfl, tr_rc (hh_rd (hh_obj hL (k := 0) rfl).1) (by decide)⟩)) c_0 ?_
  have hL0 := c_0.2
  refine tr_s .i2l 1 7 [some (.ref 1000), some (.ref 1109), none] [.long v0.toInt64, .int 0, .ref 1109] h1 rfl rfl rfl ?_
  refine tr_las 1109 v0.toInt64 _ rfl (by decide) (hh_obj hL0 (k := 109) rfl).1 (hh_obj hL0 (k := 109) rfl).2 ?_
  have hL1 : hh_L (ev_wr h1 1109 (.inr (100, (hh_v h1 109).set 0 (.long v0.toInt64)))) := hh_L_sv (sl := 0) (v := .long v0.toInt64) hL0 (show hh_t[109]? = some (.inr (100, [2])) from rfl) rfl ⟨_, rfl⟩
  refine tr_goto 6 14 rfl rfl rfl ?_
  refine tr_ic 0 0 (by decide) rfl ?_
  exact tl_ret hL1 .ireturn 1 (some (.int 0)) rfl rfl rfl rfl hr
theorem sx_L_isDominant_0_4_1 {g : tr_g} {d : Nat} {h : ev_AH} {r : ev_O × ev_AH} {x1 v0 : Int32} {h1 hx : ev_AH} (hL : hh_L h) (cx : tr_L g d m_X8_isDominant 0 [some (.ref 1000), some (.int x1)] [] h (.inr 1, hx)) (hr : r = (.inl (some (.int 1)), hx)) : tr_L g (d + 1) m_L_isDominant 0 [some (.ref 1000), some (.int x1), some (.ref 1109), none] [] h r := by
  refine tr_s (.aload_n 2) 1 1 [some (.ref 1000), some (.int x1), some (.ref 1109), none] [.ref 1109] h rfl rfl rfl ?_
  refine tr_ic 0 0 (by decide) rfl ?_
  refine tr_s (.aload_n 0) 1 3 [some (.ref 1000), some (.int x1), some (.ref 1109), none] [.ref 1000, .int 0, .ref 1109] h rfl rfl rfl ?_
  refine tr_s (.iload_n 1) 1 4 [some (.ref 1000), some (.int x1), some (.ref 1109), none] [.int x1, .ref 1000, .int 0, .ref 1109] h rfl rfl rfl ?_
  refine tr_callh (.invokevirtual 105) 105 0 1 0 m_X8_isDominant [.ref 1000, .int x1] [.int 0, .ref 1109] 1 20 3 hx rfl rfl rfl rfl rfl rfl rfl rfl rfl (tr_cok rfl (Or.inr ⟨_, _, rfl, tr_rc (hh_rd (hh_obj hL (k := 0) rfl).1) (by decide)⟩)) rfl rfl cx ?_
  refine tr_ic 1 1 (by decide) rfl ?_
  exact tl_ret cx.2 .ireturn 1 (some (.int 1)) rfl rfl rfl rfl hr
theorem sg_L_isDominant_0 {g : tr_g} {d : Nat} {h : ev_AH} {r : ev_O × ev_AH} {x1 v0 : Int32} {h1 : ev_AH} (hL : hh_L h) (c_0 : tr_L g d m_X8_isDominant 0 [some (.ref 1000), some (.int x1)] [] h (.inl (some (.int v0)), h1)) (t : v0 = 0 → tr_L g (d + 1) m_L_isDominant 14 [some (.ref 1000), some (.int x1), some (.ref 1109), none] [.int 0, .ref 1109] h1 r) (f : v0 ≠ 0 → tr_L g (d + 1) m_L_isDominant 10 [some (.ref 1000), some (.int x1), some (.ref 1109), none] [.int 0, .ref 1109] h1 r) : tr_L g (d + 1) m_L_isDominant 0 [some (.ref 1000), some (.int x1), some (.ref 1109), none] [] h r := by
  refine tr_s (.aload_n 2) 1 1 [some (.ref 1000), some (.int x1), some (.ref 1109), none] [.ref 1109] h rfl rfl rfl ?_
  refine tr_ic 0 0 (by decide) rfl ?_
  refine tr_s (.aload_n 0) 1 3 [some (.ref 1000), some (.int x1), some (.ref 1109), none] [.ref 1000, .int 0, .ref 1109] h rfl rfl rfl ?_
  refine tr_s (.iload_n 1) 1 4 [some (.ref 1000), some (.int x1), some (.ref 1109), none] [.int x1, .ref 1000, .int 0, .ref 1109] h rfl rfl rfl ?_
  refine tr_call (.invokevirtual 105) 105 0 1 0 m_X8_isDominant [.ref 1000, .int x1] [.int 0, .ref 1109] (some (.int v0)) h1 rfl rfl rfl rfl rfl rfl rfl rfl rfl (tr_cok rfl (Or.inr ⟨_, _, rfl, tr_rc (hh_rd (hh_obj hL (k := 0) rfl).1) (by decide)⟩)) c_0 ?_
  have hL0 := c_0.2
  exact tr_if1 .eq 7 14 v0 rfl rfl rfl (fun hc => t ((tr_eq hc).1 rfl)) (fun hc => f ((tr_eq hc).2 rfl))
theorem sg_L_isDominant_10 {g : tr_g} {d : Nat} {h : ev_AH} {r : ev_O × ev_AH} {w0 w1 w2 w3 : Option Value} {s1 : Int32} (hL : hh_L h) (ej0 : s1 = 0) (hr : r = (.inl (some (.int 0)), ev_wr h 1109 (.inr (100, (hh_v h 109).set 0 (.long (1 : Int64)))))) : tr_L g d m_L_isDominant 10 [w0, w1, w2, w3] [.int s1, .ref 1109] h r := by
  refine tr_s (.lconst 1) 1 11 [w0, w1, w2, w3] [.long (1 : Int64), .int s1, .ref 1109] h rfl rfl rfl ?_
  refine tr_goto 4 15 rfl rfl rfl ?_
  subst ej0
  refine tr_las 1109 (1 : Int64) _ rfl (by decide) (hh_obj hL (k := 109) rfl).1 (hh_obj hL (k := 109) rfl).2 ?_
  have hL0 : hh_L (ev_wr h 1109 (.inr (100, (hh_v h 109).set 0 (.long (1 : Int64))))) := hh_L_sv (sl := 0) (v := .long (1 : Int64)) hL (show hh_t[109]? = some (.inr (100, [2])) from rfl) rfl ⟨_, rfl⟩
  refine tr_goto 6 22 rfl rfl rfl ?_
  refine tr_ic 0 0 (by decide) rfl ?_
  exact tl_ret hL0 .ireturn 1 (some (.int 0)) rfl rfl rfl rfl hr
theorem sg_L_isDominant_14 {g : tr_g} {d : Nat} {h : ev_AH} {r : ev_O × ev_AH} {w0 w1 w2 w3 : Option Value} {s1 : Int32} (hL : hh_L h) (ej0 : s1 = 0) (hr : r = (.inl (some (.int 0)), ev_wr h 1109 (.inr (100, (hh_v h 109).set 0 (.long (0 : Int64)))))) : tr_L g d m_L_isDominant 14 [w0, w1, w2, w3] [.int s1, .ref 1109] h r := by
  refine tr_s (.lconst 0) 1 15 [w0, w1, w2, w3] [.long (0 : Int64), .int s1, .ref 1109] h rfl rfl rfl ?_
  subst ej0
  refine tr_las 1109 (0 : Int64) _ rfl (by decide) (hh_obj hL (k := 109) rfl).1 (hh_obj hL (k := 109) rfl).2 ?_
  have hL0 : hh_L (ev_wr h 1109 (.inr (100, (hh_v h 109).set 0 (.long (0 : Int64))))) := hh_L_sv (sl := 0) (v := .long (0 : Int64)) hL (show hh_t[109]? = some (.inr (100, [2])) from rfl) rfl ⟨_, rfl⟩
  refine tr_goto 6 22 rfl rfl rfl ?_
  refine tr_ic 0 0 (by decide) rfl ?_
  exact tl_ret hL0 .ireturn 1 (some (.int 0)) rfl rfl rfl rfl hr
theorem sx_L_setMethod_0_4_1 {g : tr_g} {d : Nat} {h : ev_AH} {r : ev_O × ev_AH} {x1 v0 : Int32} {h1 hx : ev_AH} (hL : hh_L h) (cx : tr_L g d m_X8_setMethod 0 [some (.ref 1000), some (.int x1), none] [] h (.inr 1, hx)) (hr : r = (.inl (some (.int 1)), hx)) : tr_L g (d + 1) m_L_setMethod 0 [some (.ref 1000), some (.int x1), some (.ref 1109), none] [] h r := by
  refine tr_s (.aload_n 2) 1 1 [some (.ref 1000), some (.int x1), some (.ref 1109), none] [.ref 1109] h rfl rfl rfl ?_
  refine tr_ic 0 0 (by decide) rfl ?_
  refine tr_s (.aload_n 0) 1 3 [some (.ref 1000), some (.int x1), some (.ref 1109), none] [.ref 1000, .int 0, .ref 1109] h rfl rfl rfl ?_
  refine tr_s (.iload_n 1) 1 4 [some (.ref 1000), some (.int x1), some (.ref 1109), none] [.int x1, .ref 1000, .int 0, .ref 1109] h rfl rfl rfl ?_
  refine tr_callh (.invokevirtual 109) 109 0 1 0 m_X8_setMethod [.ref 1000, .int x1] [.int 0, .ref 1109] 1 13 3 hx rfl rfl rfl rfl rfl rfl rfl rfl rfl (tr_cok rfl (Or.inr ⟨_, _, rfl, tr_rc (hh_rd (hh_obj hL (k := 0) rfl).1) (by decide)⟩)) rfl rfl cx ?_
  refine tr_ic 1 1 (by decide) rfl ?_
  exact tl_ret cx.2 .ireturn 1 (some (.int 1)) rfl rfl rfl rfl hr
theorem sg_L_setMethod_0 {g : tr_g} {d : Nat} {h : ev_AH} {r : ev_O × ev_AH} {x1 v0 : Int32} {h1 : ev_AH} (hL : hh_L h) (c_0 : tr_L g d m_X8_setMethod 0 [some (.ref 1000), some (.int x1), none] [] h (.inl (some (.int v0)), h1)) (hr : r = (.inl (some (.int 0)), ev_wr h1 1109 (.inr (100, (hh_v h1 109).set 0 (.long v0.toInt64))))) : tr_L g (d + 1) m_L_setMethod 0 [some (.ref 1000), some (.int x1), some (.ref 1109), none] [] h r := by
  refine tr_s (.aload_n 2) 1 1 [some (.ref 1000), some (.int x1), some (.ref 1109), none] [.ref 1109] h rfl rfl rfl ?_
  refine tr_ic 0 0 (by decide) rfl ?_
  refine tr_s (.aload_n 0) 1 3 [some (.ref 1000), some (.int x1), some (.ref 1109), none] [.ref 1000, .int 0, .ref 1109] h rfl rfl rfl ?_
  refine tr_s (.iload_n 1) 1 4 [some (.ref 1000), some (.int x1), some (.ref 1109), none] [.int x1, .ref 1000, .int 0, .ref 1109] h rfl rfl rfl ?_
  refine tr_call (.invokevirtual 109) 109 0 1 0 m_X8_setMethod [.ref 1000, .int x1] [.int 0, .ref 1109] (some (.int v0)) h1 rfl rfl rfl rfl rfl rfl rfl rfl rfl (tr_cok rfl (Or.inr ⟨_, _, rfl, tr_rc (hh_rd (hh_obj hL (k := 0) rfl).1) (by decide)⟩)) c_0 ?_
  have hL0 := c_0.2
  refine tr_s .i2l 1 8 [some (.ref 1000), some (.int x1), some (.ref 1109), none] [.long v0.toInt64, .int 0, .ref 1109] h1 rfl rfl rfl ?_
  refine tr_las 1109 v0.toInt64 _ rfl (by decide) (hh_obj hL0 (k := 109) rfl).1 (hh_obj hL0 (k := 109) rfl).2 ?_
  have hL1 : hh_L (ev_wr h1 1109 (.inr (100, (hh_v h1 109).set 0 (.long v0.toInt64)))) := hh_L_sv (sl := 0) (v := .long v0.toInt64) hL0 (show hh_t[109]? = some (.inr (100, [2])) from rfl) rfl ⟨_, rfl⟩
  refine tr_goto 6 15 rfl rfl rfl ?_
  refine tr_ic 0 0 (by decide) rfl ?_
  exact tl_ret hL1 .ireturn 1 (some (.int 0)) rfl rfl rfl rfl hr
theorem sx_L_deliberate_0_3_2 {g : tr_g} {d : Nat} {h : ev_AH} {r : ev_O × ev_AH} {h1 hx : ev_AH} {v0 : Int32} (hL : hh_L h) (cx : tr_L g d m_X8_deliberate 0 [some (.ref 1000)] [] h (.inr 2, hx)) (hr : r = (.inl (some (.int 1)), hx)) : tr_L g (d + 1) m_L_deliberate 0 [some (.ref 1000), some (.ref 1109), none] [] h r := by
  refine tr_s (.aload_n 1) 1 1 [some (.ref 1000), some (.ref 1109), none] [.ref 1109] h rfl rfl rfl ?_
  refine tr_ic 0 0 (by decide) rfl ?_
  refine tr_s (.aload_n 0) 1 3 [some (.ref 1000), some (.ref 1109), none] [.ref 1000, .int 0, .ref 1109] h rfl rfl rfl ?_
  refine tr_callh (.invokevirtual 113) 113 0 0 0 m_X8_deliberate [.ref 1000] [.int 0, .ref 1109] 2 12 2 hx rfl rfl rfl rfl rfl rfl rfl rfl rfl (tr_cok rfl (Or.inr ⟨_, _, rfl, tr_rc (hh_rd (hh_obj hL (k := 0) rfl).1) (by decide)⟩)) rfl rfl cx ?_
  refine tr_ic 1 1 (by decide) rfl ?_
  exact tl_ret cx.2 .ireturn 1 (some (.int 1)) rfl rfl rfl rfl hr
theorem sg_L_deliberate_0 {g : tr_g} {d : Nat} {h : ev_AH} {r : ev_O × ev_AH} {h1 : ev_AH} {v0 : Int32} (hL : hh_L h) (c_0 : tr_L g d m_X8_deliberate 0 [some (.ref 1000)] [] h (.inl (some (.int v0)), h1)) (hr : r = (.inl (some (.int 0)), ev_wr h1 1109 (.inr (100, (hh_v h1 109).set 0 (.long v0.toInt64))))) : tr_L g (d + 1) m_L_deliberate 0 [some (.ref 1000), some (.ref 1109), none] [] h r := by
  refine tr_s (.aload_n 1) 1 1 [some (.ref 1000), some (.ref 1109), none] [.ref 1109] h rfl rfl rfl ?_
  refine tr_ic 0 0 (by decide) rfl ?_
  refine tr_s (.aload_n 0) 1 3 [some (.ref 1000), some (.ref 1109), none] [.ref 1000, .int 0, .ref 1109] h rfl rfl rfl ?_
  refine tr_call (.invokevirtual 113) 113 0 0 0 m_X8_deliberate [.ref 1000] [.int 0, .ref 1109] (some (.int v0)) h1 rfl rfl rfl rfl rfl rfl rfl rfl rfl (tr_cok rfl (Or.inr ⟨_, _, rfl, tr_rc (hh_rd (hh_obj hL (k := 0) rfl).1) (by decide)⟩)) c_0 ?_
  have hL0 := c_0.2
  refine tr_s .i2l 1 7 [some (.ref 1000), some (.ref 1109), none] [.long v0.toInt64, .int 0, .ref 1109] h1 rfl rfl rfl ?_
  refine tr_las 1109 v0.toInt64 _ rfl (by decide) (hh_obj hL0 (k := 109) rfl).1 (hh_obj hL0 (k := 109) rfl).2 ?_
  have hL1 : hh_L (ev_wr h1 1109 (.inr (100, (hh_v h1 109).set 0 (.long v0.toInt64)))) := hh_L_sv (sl := 0) (v := .long v0.toInt64) hL0 (show hh_t[109]? = some (.inr (100, [2])) from rfl) rfl ⟨_, rfl⟩
  refine tr_goto 6 14 rfl rfl rfl ?_
  refine tr_ic 0 0 (by decide) rfl ?_
  exact tl_ret hL1 .ireturn 1 (some (.int 0)) rfl rfl rfl rfl hr
theorem sx_L_retry_0_3_2 {g : tr_g} {d : Nat} {h : ev_AH} {r : ev_O × ev_AH} {h1 hx : ev_AH} {v0 : Int32} (hL : hh_L h) (cx : tr_L g d m_X8_retry 0 [some (.ref 1000)] [] h (.inr 2, hx)) (hr : r = (.inl (some (.int 1)), hx)) : tr_L g (d + 1) m_L_retry 0 [some (.ref 1000), some (.ref 1109), none] [] h r := by
  refine tr_s (.aload_n 1) 1 1 [some (.ref 1000), some (.ref 1109), none] [.ref 1109] h rfl rfl rfl ?_
  refine tr_ic 0 0 (by decide) rfl ?_
  refine tr_s (.aload_n 0) 1 3 [some (.ref 1000), some (.ref 1109), none] [.ref 1000, .int 0, .ref 1109] h rfl rfl rfl ?_
  refine tr_callh (.invokevirtual 116) 116 0 0 0 m_X8_retry [.ref 1000] [.int 0, .ref 1109] 2 12 2 hx rfl rfl rfl rfl rfl rfl rfl rfl rfl (tr_cok rfl (Or.inr ⟨_, _, rfl, tr_rc (hh_rd (hh_obj hL (k := 0) rfl).1) (by decide)⟩)) rfl rfl cx ?_
  refine tr_ic 1 1 (by decide) rfl ?_
  exact tl_ret cx.2 .ireturn 1 (some (.int 1)) rfl rfl rfl rfl hr
theorem sg_L_retry_0 {g : tr_g} {d : Nat} {h : ev_AH} {r : ev_O × ev_AH} {h1 : ev_AH} {v0 : Int32} (hL : hh_L h) (c_0 : tr_L g d m_X8_retry 0 [some (.ref 1000)] [] h (.inl (some (.int v0)), h1)) (hr : r = (.inl (some (.int 0)), ev_wr h1 1109 (.inr (100, (hh_v h1 109).set 0 (.long v0.toInt64))))) : tr_L g (d + 1) m_L_retry 0 [some (.ref 1000), some (.ref 1109), none] [] h r := by
  refine tr_s (.aload_n 1) 1 1 [some (.ref 1000), some (.ref 1109), none] [.ref 1109] h rfl rfl rfl ?_
  refine tr_ic 0 0 (by decide) rfl ?_
  refine tr_s (.aload_n 0) 1 3 [some (.ref 1000), some (.ref 1109), none] [.ref 1000, .int 0, .ref 1109] h rfl rfl rfl ?_
  refine tr_call (.invokevirtual 116) 116 0 0 0 m_X8_retry [.ref 1000] [.int 0, .ref 1109] (some (.int v0)) h1 rfl rfl rfl rfl rfl rfl rfl rfl rfl (tr_cok rfl (Or.inr ⟨_, _, rfl, tr_rc (hh_rd (hh_obj hL (k := 0) rfl).1) (by decide)⟩)) c_0 ?_
  have hL0 := c_0.2
  refine tr_s .i2l 1 7 [some (.ref 1000), some (.ref 1109), none] [.long v0.toInt64, .int 0, .ref 1109] h1 rfl rfl rfl ?_
  refine tr_las 1109 v0.toInt64 _ rfl (by decide) (hh_obj hL0 (k := 109) rfl).1 (hh_obj hL0 (k := 109) rfl).2 ?_
  have hL1 : hh_L (ev_wr h1 1109 (.inr (100, (hh_v h1 109).set 0 (.long v0.toInt64)))) := hh_L_sv (sl := 0) (v := .long v0.toInt64) hL0 (show hh_t[109]? = some (.inr (100, [2])) from rfl) rfl ⟨_, rfl⟩
  refine tr_goto 6 14 rfl rfl rfl ?_
  refine tr_ic 0 0 (by decide) rfl ?_
  exact tl_ret hL1 .ireturn 1 (some (.int 0)) rfl rfl rfl rfl hr
theorem sx_L_verdictAt_0_4_3 {g : tr_g} {d : Nat} {h : ev_AH} {r : ev_O × ev_AH} {x1 v0 : Int32} {h1 hx : ev_AH} (hL : hh_L h) (cx : tr_L g d m_X8_verdictAt 0 [some (.ref 1000), some (.int x1)] [] h (.inr 3, hx)) (hr : r = (.inl (some (.int 1)), hx)) : tr_L g (d + 1) m_L_verdictAt 0 [some (.ref 1000), some (.int x1), some (.ref 1109), none] [] h r := by
  refine tr_s (.aload_n 2) 1 1 [some (.ref 1000), some (.int x1), some (.ref 1109), none] [.ref 1109] h rfl rfl rfl ?_
  refine tr_ic 0 0 (by decide) rfl ?_
  refine tr_s (.aload_n 0) 1 3 [some (.ref 1000), some (.int x1), some (.ref 1109), none] [.ref 1000, .int 0, .ref 1109] h rfl rfl rfl ?_
  refine tr_s (.iload_n 1) 1 4 [some (.ref 1000), some (.int x1), some (.ref 1109), none] [.int x1, .ref 1000, .int 0, .ref 1109] h rfl rfl rfl ?_
  refine tr_callh (.invokevirtual 119) 119 0 1 0 m_X8_verdictAt [.ref 1000, .int x1] [.int 0, .ref 1109] 3 13 3 hx rfl rfl rfl rfl rfl rfl rfl rfl rfl (tr_cok rfl (Or.inr ⟨_, _, rfl, tr_rc (hh_rd (hh_obj hL (k := 0) rfl).1) (by decide)⟩)) rfl rfl cx ?_
  refine tr_ic 1 1 (by decide) rfl ?_
  exact tl_ret cx.2 .ireturn 1 (some (.int 1)) rfl rfl rfl rfl hr
theorem sg_L_verdictAt_0 {g : tr_g} {d : Nat} {h : ev_AH} {r : ev_O × ev_AH} {x1 v0 : Int32} {h1 : ev_AH} (hL : hh_L h) (c_0 : tr_L g d m_X8_verdictAt 0 [some (.ref 1000), some (.int x1)] [] h (.inl (some (.int v0)), h1)) (hr : r = (.inl (some (.int 0)), ev_wr h1 1109 (.inr (100, (hh_v h1 109).set 0 (.long v0.toInt64))))) : tr_L g (d + 1) m_L_verdictAt 0 [some (.ref 1000), some (.int x1), some (.ref 1109), none] [] h r := by
  refine tr_s (.aload_n 2) 1 1 [some (.ref 1000), some (.int x1), some (.ref 1109), none] [.ref 1109] h rfl rfl rfl ?_
  refine tr_ic 0 0 (by decide) rfl ?_
  refine tr_s (.aload_n 0) 1 3 [some (.ref 1000), some (.int x1), some (.ref 1109), none] [.ref 1000, .int 0, .ref 1109] h rfl rfl rfl ?_
  refine tr_s (.iload_n 1) 1 4 [some (.ref 1000), some (.int x1), some (.ref 1109), none] [.int x1, .ref 1000, .int 0, .ref 1109] h rfl rfl rfl ?_
  refine tr_call (.invokevirtual 119) 119 0 1 0 m_X8_verdictAt [.ref 1000, .int x1] [.int 0, .ref 1109] (some (.int v0)) h1 rfl rfl rfl rfl rfl rfl rfl rfl rfl (tr_cok rfl (Or.inr ⟨_, _, rfl, tr_rc (hh_rd (hh_obj hL (k := 0) rfl).1) (by decide)⟩)) c_0 ?_
  have hL0 := c_0.2
  refine tr_s .i2l 1 8 [some (.ref 1000), some (.int x1), some (.ref 1109), none] [.long v0.toInt64, .int 0, .ref 1109] h1 rfl rfl rfl ?_
  refine tr_las 1109 v0.toInt64 _ rfl (by decide) (hh_obj hL0 (k := 109) rfl).1 (hh_obj hL0 (k := 109) rfl).2 ?_
  have hL1 : hh_L (ev_wr h1 1109 (.inr (100, (hh_v h1 109).set 0 (.long v0.toInt64)))) := hh_L_sv (sl := 0) (v := .long v0.toInt64) hL0 (show hh_t[109]? = some (.inr (100, [2])) from rfl) rfl ⟨_, rfl⟩
  refine tr_goto 6 15 rfl rfl rfl ?_
  refine tr_ic 0 0 (by decide) rfl ?_
  exact tl_ret hL1 .ireturn 1 (some (.int 0)) rfl rfl rfl rfl hr
theorem sx_L_catByHeard_0_4_3 {g : tr_g} {d : Nat} {h : ev_AH} {r : ev_O × ev_AH} {x1 v0 : Int32} {h1 hx : ev_AH} (hL : hh_L h) (cx : tr_L g d m_X8_catByHeard 0 [some (.ref 1000), some (.int x1), none, none] [] h (.inr 3, hx)) (hr : r = (.inl (some (.int 1)), hx)) : tr_L g (d + 1) m_L_catByHeard 0 [some (.ref 1000), some (.int x1), some (.ref 1109), none] [] h r := by
  refine tr_s (.aload_n 2) 1 1 [some (.ref 1000), some (.int x1), some (.ref 1109), none] [.ref 1109] h rfl rfl rfl ?_
  refine tr_ic 0 0 (by decide) rfl ?_
  refine tr_s (.aload_n 0) 1 3 [some (.ref 1000), some (.int x1), some (.ref 1109), none] [.ref 1000, .int 0, .ref 1109] h rfl rfl rfl ?_
  refine tr_s (.iload_n 1) 1 4 [some (.ref 1000), some (.int x1), some (.ref 1109), none] [.int x1, .ref 1000, .int 0, .ref 1109] h rfl rfl rfl ?_
  refine tr_callh (.invokevirtual 122) 122 0 1 0 m_X8_catByHeard [.ref 1000, .int x1] [.int 0, .ref 1109] 3 13 3 hx rfl rfl rfl rfl rfl rfl rfl rfl rfl (tr_cok rfl (Or.inr ⟨_, _, rfl, tr_rc (hh_rd (hh_obj hL (k := 0) rfl).1) (by decide)⟩)) rfl rfl cx ?_
  refine tr_ic 1 1 (by decide) rfl ?_
  exact tl_ret cx.2 .ireturn 1 (some (.int 1)) rfl rfl rfl rfl hr
theorem sg_L_catByHeard_0 {g : tr_g} {d : Nat} {h : ev_AH} {r : ev_O × ev_AH} {x1 v0 : Int32} {h1 : ev_AH} (hL : hh_L h) (c_0 : tr_L g d m_X8_catByHeard 0 [some (.ref 1000), some (.int x1), none, none] [] h (.inl (some (.int v0)), h1)) (hr : r = (.inl (some (.int 0)), ev_wr h1 1109 (.inr (100, (hh_v h1 109).set 0 (.long v0.toInt64))))) : tr_L g (d + 1) m_L_catByHeard 0 [some (.ref 1000), some (.int x1), some (.ref 1109), none] [] h r := by
  refine tr_s (.aload_n 2) 1 1 [some (.ref 1000), some (.int x1), some (.ref 1109), none] [.ref 1109] h rfl rfl rfl ?_
  refine tr_ic 0 0 (by decide) rfl ?_
  refine tr_s (.aload_n 0) 1 3 [some (.ref 1000), some (.int x1), some (.ref 1109), none] [.ref 1000, .int 0, .ref 1109] h rfl rfl rfl ?_
  refine tr_s (.iload_n 1) 1 4 [some (.ref 1000), some (.int x1), some (.ref 1109), none] [.int x1, .ref 1000, .int 0, .ref 1109] h rfl rfl rfl ?_
  refine tr_call (.invokevirtual 122) 122 0 1 0 m_X8_catByHeard [.ref 1000, .int x1] [.int 0, .ref 1109] (some (.int v0)) h1 rfl rfl rfl rfl rfl rfl rfl rfl rfl (tr_cok rfl (Or.inr ⟨_, _, rfl, tr_rc (hh_rd (hh_obj hL (k := 0) rfl).1) (by decide)⟩)) c_0 ?_
  have hL0 := c_0.2
  refine tr_s .i2l 1 8 [some (.ref 1000), some (.int x1), some (.ref 1109), none] [.long v0.toInt64, .int 0, .ref 1109] h1 rfl rfl rfl ?_
  refine tr_las 1109 v0.toInt64 _ rfl (by decide) (hh_obj hL0 (k := 109) rfl).1 (hh_obj hL0 (k := 109) rfl).2 ?_
  have hL1 : hh_L (ev_wr h1 1109 (.inr (100, (hh_v h1 109).set 0 (.long v0.toInt64)))) := hh_L_sv (sl := 0) (v := .long v0.toInt64) hL0 (show hh_t[109]? = some (.inr (100, [2])) from rfl) rfl ⟨_, rfl⟩
  refine tr_goto 6 15 rfl rfl rfl ?_
  refine tr_ic 0 0 (by decide) rfl ?_
  exact tl_ret hL1 .ireturn 1 (some (.int 0)) rfl rfl rfl rfl hr
theorem sx_L_meanHeard_0_3_4 {g : tr_g} {d : Nat} {h : ev_AH} {r : ev_O × ev_AH} {h1 hx : ev_AH} {v0 : UInt64} (hL : hh_L h) (cx : tr_L g d m_X8_meanHeard 0 [some (.ref 1000)] [] h (.inr 4, hx)) (hr : r = (.inl (some (.int 1)), hx)) : tr_L g (d + 1) m_L_meanHeard 0 [some (.ref 1000), some (.ref 1110), none] [] h r := by
  refine tr_s (.aload_n 1) 1 1 [some (.ref 1000), some (.ref 1110), none] [.ref 1110] h rfl rfl rfl ?_
  refine tr_ic 0 0 (by decide) rfl ?_
  refine tr_s (.aload_n 0) 1 3 [some (.ref 1000), some (.ref 1110), none] [.ref 1000, .int 0, .ref 1110] h rfl rfl rfl ?_
  refine tr_callh (.invokevirtual 125) 125 0 0 0 m_X8_meanHeard [.ref 1000] [.int 0, .ref 1110] 4 11 2 hx rfl rfl rfl rfl rfl rfl rfl rfl rfl (tr_cok rfl (Or.inr ⟨_, _, rfl, tr_rc (hh_rd (hh_obj hL (k := 0) rfl).1) (by decide)⟩)) rfl rfl cx ?_
  refine tr_ic 1 1 (by decide) rfl ?_
  exact tl_ret cx.2 .ireturn 1 (some (.int 1)) rfl rfl rfl rfl hr
theorem sg_L_meanHeard_0 {g : tr_g} {d : Nat} {h : ev_AH} {r : ev_O × ev_AH} {h1 : ev_AH} {v0 : UInt64} (hL : hh_L h) (c_0 : tr_L g d m_X8_meanHeard 0 [some (.ref 1000)] [] h (.inl (some (.double v0)), h1)) (hr : r = (.inl (some (.int 0)), ev_wr h1 1110 (.inr (101, (hh_v h1 110).set 0 (.double v0))))) : tr_L g (d + 1) m_L_meanHeard 0 [some (.ref 1000), some (.ref 1110), none] [] h r := by
  refine tr_s (.aload_n 1) 1 1 [some (.ref 1000), some (.ref 1110), none] [.ref 1110] h rfl rfl rfl ?_
  refine tr_ic 0 0 (by decide) rfl ?_
  refine tr_s (.aload_n 0) 1 3 [some (.ref 1000), some (.ref 1110), none] [.ref 1000, .int 0, .ref 1110] h rfl rfl rfl ?_
  refine tr_call (.invokevirtual 125) 125 0 0 0 m_X8_meanHeard [.ref 1000] [.int 0, .ref 1110] (some (.double v0)) h1 rfl rfl rfl rfl rfl rfl rfl rfl rfl (tr_cok rfl (Or.inr ⟨_, _, rfl, tr_rc (hh_rd (hh_obj hL (k := 0) rfl).1) (by decide)⟩)) c_0 ?_
  have hL0 := c_0.2
  refine tr_das 1110 v0 _ rfl (by decide) (hh_obj hL0 (k := 110) rfl).1 (hh_obj hL0 (k := 110) rfl).2 ?_
  have hL1 : hh_L (ev_wr h1 1110 (.inr (101, (hh_v h1 110).set 0 (.double v0)))) := hh_L_sv (sl := 0) (v := .double v0) hL0 (show hh_t[110]? = some (.inr (101, [3])) from rfl) rfl ⟨_, rfl⟩
  refine tr_goto 6 13 rfl rfl rfl ?_
  refine tr_ic 0 0 (by decide) rfl ?_
  exact tl_ret hL1 .ireturn 1 (some (.int 0)) rfl rfl rfl rfl hr
theorem sx_L_hungShare_0_3_4 {g : tr_g} {d : Nat} {h : ev_AH} {r : ev_O × ev_AH} {h1 hx : ev_AH} {v0 : UInt32} (hL : hh_L h) (cx : tr_L g d m_X8_hungShare 0 [some (.ref 1000)] [] h (.inr 4, hx)) (hr : r = (.inl (some (.int 1)), hx)) : tr_L g (d + 1) m_L_hungShare 0 [some (.ref 1000), some (.ref 1110), none] [] h r := by
  refine tr_s (.aload_n 1) 1 1 [some (.ref 1000), some (.ref 1110), none] [.ref 1110] h rfl rfl rfl ?_
  refine tr_ic 0 0 (by decide) rfl ?_
  refine tr_s (.aload_n 0) 1 3 [some (.ref 1000), some (.ref 1110), none] [.ref 1000, .int 0, .ref 1110] h rfl rfl rfl ?_
  refine tr_callh (.invokevirtual 131) 131 0 0 0 m_X8_hungShare [.ref 1000] [.int 0, .ref 1110] 4 12 2 hx rfl rfl rfl rfl rfl rfl rfl rfl rfl (tr_cok rfl (Or.inr ⟨_, _, rfl, tr_rc (hh_rd (hh_obj hL (k := 0) rfl).1) (by decide)⟩)) rfl rfl cx ?_
  refine tr_ic 1 1 (by decide) rfl ?_
  exact tl_ret cx.2 .ireturn 1 (some (.int 1)) rfl rfl rfl rfl hr
theorem sg_L_hungShare_0 {g : tr_g} {d : Nat} {h : ev_AH} {r : ev_O × ev_AH} {h1 : ev_AH} {v0 : UInt32} (hL : hh_L h) (c_0 : tr_L g d m_X8_hungShare 0 [some (.ref 1000)] [] h (.inl (some (.float v0)), h1)) (nn0 : FP.f2d v0 &&& 0x7fffffffffffffff ≤ 0x7ff0000000000000) (hr : r = (.inl (some (.int 0)), ev_wr h1 1110 (.inr (101, (hh_v h1 110).set 0 (.double (FP.f2d v0)))))) : tr_L g (d + 1) m_L_hungShare 0 [some (.ref 1000), some (.ref 1110), none] [] h r := by
  refine tr_s (.aload_n 1) 1 1 [some (.ref 1000), some (.ref 1110), none] [.ref 1110] h rfl rfl rfl ?_
  refine tr_ic 0 0 (by decide) rfl ?_
  refine tr_s (.aload_n 0) 1 3 [some (.ref 1000), some (.ref 1110), none] [.ref 1000, .int 0, .ref 1110] h rfl rfl rfl ?_
  refine tr_call (.invokevirtual 131) 131 0 0 0 m_X8_hungShare [.ref 1000] [.int 0, .ref 1110] (some (.float v0)) h1 rfl rfl rfl rfl rfl rfl rfl rfl rfl (tr_cok rfl (Or.inr ⟨_, _, rfl, tr_rc (hh_rd (hh_obj hL (k := 0) rfl).1) (by decide)⟩)) c_0 ?_
  have hL0 := c_0.2
  refine tr_s .f2d 1 7 [some (.ref 1000), some (.ref 1110), none] [.double (FP.f2d v0), .int 0, .ref 1110] h1 rfl rfl (by simp only [Option.toList, List.cons_append, List.nil_append, ev_s, ev_ldi, ev_sti, ev_p, decide_eq_true nn0, cond_true]) ?_
  refine tr_das 1110 (FP.f2d v0) _ rfl (by decide) (hh_obj hL0 (k := 110) rfl).1 (hh_obj hL0 (k := 110) rfl).2 ?_
  have hL1 : hh_L (ev_wr h1 1110 (.inr (101, (hh_v h1 110).set 0 (.double (FP.f2d v0))))) := hh_L_sv (sl := 0) (v := .double (FP.f2d v0)) hL0 (show hh_t[110]? = some (.inr (101, [3])) from rfl) rfl ⟨_, rfl⟩
  refine tr_goto 6 14 rfl rfl rfl ?_
  refine tr_ic 0 0 (by decide) rfl ?_
  exact tl_ret hL1 .ireturn 1 (some (.int 0)) rfl rfl rfl rfl hr
theorem sx_L_writeRow_0_4_0 {g : tr_g} {d : Nat} {h : ev_AH} {r : ev_O × ev_AH} {x1 v0 : Int32} {h1 hx : ev_AH} (hL : hh_L h) (cx : tr_L g d m_X8_writeRow 0 [some (.ref 1000), some (.int x1), none, none, none] [] h (.inr 0, hx)) (hr : r = (.inl (some (.int 1)), hx)) : tr_L g (d + 1) m_L_writeRow 0 [some (.ref 1000), some (.int x1), some (.ref 1109), none] [] h r := by
  refine tr_s (.aload_n 2) 1 1 [some (.ref 1000), some (.int x1), some (.ref 1109), none] [.ref 1109] h rfl rfl rfl ?_
  refine tr_ic 0 0 (by decide) rfl ?_
  refine tr_s (.aload_n 0) 1 3 [some (.ref 1000), some (.int x1), some (.ref 1109), none] [.ref 1000, .int 0, .ref 1109] h rfl rfl rfl ?_
  refine tr_s (.iload_n 1) 1 4 [some (.ref 1000), some (.int x1), some (.ref 1109), none] [.int x1, .ref 1000, .int 0, .ref 1109] h rfl rfl rfl ?_
  refine tr_callh (.invokevirtual 135) 135 0 1 0 m_X8_writeRow [.ref 1000, .int x1] [.int 0, .ref 1109] 0 13 3 hx rfl rfl rfl rfl rfl rfl rfl rfl rfl (tr_cok rfl (Or.inr ⟨_, _, rfl, tr_rc (hh_rd (hh_obj hL (k := 0) rfl).1) (by decide)⟩)) rfl rfl cx ?_
  refine tr_ic 1 1 (by decide) rfl ?_
  exact tl_ret cx.2 .ireturn 1 (some (.int 1)) rfl rfl rfl rfl hr
theorem sg_L_writeRow_0 {g : tr_g} {d : Nat} {h : ev_AH} {r : ev_O × ev_AH} {x1 v0 : Int32} {h1 : ev_AH} (hL : hh_L h) (c_0 : tr_L g d m_X8_writeRow 0 [some (.ref 1000), some (.int x1), none, none, none] [] h (.inl (some (.int v0)), h1)) (hr : r = (.inl (some (.int 0)), ev_wr h1 1109 (.inr (100, (hh_v h1 109).set 0 (.long v0.toInt64))))) : tr_L g (d + 1) m_L_writeRow 0 [some (.ref 1000), some (.int x1), some (.ref 1109), none] [] h r := by
  refine tr_s (.aload_n 2) 1 1 [some (.ref 1000), some (.int x1), some (.ref 1109), none] [.ref 1109] h rfl rfl rfl ?_
  refine tr_ic 0 0 (by decide) rfl ?_
  refine tr_s (.aload_n 0) 1 3 [some (.ref 1000), some (.int x1), some (.ref 1109), none] [.ref 1000, .int 0, .ref 1109] h rfl rfl rfl ?_
  refine tr_s (.iload_n 1) 1 4 [some (.ref 1000), some (.int x1), some (.ref 1109), none] [.int x1, .ref 1000, .int 0, .ref 1109] h rfl rfl rfl ?_
  refine tr_call (.invokevirtual 135) 135 0 1 0 m_X8_writeRow [.ref 1000, .int x1] [.int 0, .ref 1109] (some (.int v0)) h1 rfl rfl rfl rfl rfl rfl rfl rfl rfl (tr_cok rfl (Or.inr ⟨_, _, rfl, tr_rc (hh_rd (hh_obj hL (k := 0) rfl).1) (by decide)⟩)) c_0 ?_
  have hL0 := c_0.2
  refine tr_s .i2l 1 8 [some (.ref 1000), some (.int x1), some (.ref 1109), none] [.long v0.toInt64, .int 0, .ref 1109] h1 rfl rfl rfl ?_
  refine tr_las 1109 v0.toInt64 _ rfl (by decide) (hh_obj hL0 (k := 109) rfl).1 (hh_obj hL0 (k := 109) rfl).2 ?_
  have hL1 : hh_L (ev_wr h1 1109 (.inr (100, (hh_v h1 109).set 0 (.long v0.toInt64)))) := hh_L_sv (sl := 0) (v := .long v0.toInt64) hL0 (show hh_t[109]? = some (.inr (100, [2])) from rfl) rfl ⟨_, rfl⟩
  refine tr_goto 6 15 rfl rfl rfl ?_
  refine tr_ic 0 0 (by decide) rfl ?_
  exact tl_ret hL1 .ireturn 1 (some (.int 0)) rfl rfl rfl rfl hr
theorem sx_L_writeCat_0_4_0 {g : tr_g} {d : Nat} {h : ev_AH} {r : ev_O × ev_AH} {x1 v0 : Int32} {h1 hx : ev_AH} (hL : hh_L h) (cx : tr_L g d m_X8_writeCat 0 [some (.ref 1000), some (.int x1), none] [] h (.inr 0, hx)) (hr : r = (.inl (some (.int 1)), hx)) : tr_L g (d + 1) m_L_writeCat 0 [some (.ref 1000), some (.int x1), some (.ref 1109), none] [] h r := by
  refine tr_s (.aload_n 2) 1 1 [some (.ref 1000), some (.int x1), some (.ref 1109), none] [.ref 1109] h rfl rfl rfl ?_
  refine tr_ic 0 0 (by decide) rfl ?_
  refine tr_s (.aload_n 0) 1 3 [some (.ref 1000), some (.int x1), some (.ref 1109), none] [.ref 1000, .int 0, .ref 1109] h rfl rfl rfl ?_
  refine tr_s (.iload_n 1) 1 4 [some (.ref 1000), some (.int x1), some (.ref 1109), none] [.int x1, .ref 1000, .int 0, .ref 1109] h rfl rfl rfl ?_
  refine tr_callh (.invokevirtual 138) 138 0 1 0 m_X8_writeCat [.ref 1000, .int x1] [.int 0, .ref 1109] 0 13 3 hx rfl rfl rfl rfl rfl rfl rfl rfl rfl (tr_cok rfl (Or.inr ⟨_, _, rfl, tr_rc (hh_rd (hh_obj hL (k := 0) rfl).1) (by decide)⟩)) rfl rfl cx ?_
  refine tr_ic 1 1 (by decide) rfl ?_
  exact tl_ret cx.2 .ireturn 1 (some (.int 1)) rfl rfl rfl rfl hr
theorem sg_L_writeCat_0 {g : tr_g} {d : Nat} {h : ev_AH} {r : ev_O × ev_AH} {x1 v0 : Int32} {h1 : ev_AH} (hL : hh_L h) (c_0 : tr_L g d m_X8_writeCat 0 [some (.ref 1000), some (.int x1), none] [] h (.inl (some (.int v0)), h1)) (hr : r = (.inl (some (.int 0)), ev_wr h1 1109 (.inr (100, (hh_v h1 109).set 0 (.long v0.toInt64))))) : tr_L g (d + 1) m_L_writeCat 0 [some (.ref 1000), some (.int x1), some (.ref 1109), none] [] h r := by
  refine tr_s (.aload_n 2) 1 1 [some (.ref 1000), some (.int x1), some (.ref 1109), none] [.ref 1109] h rfl rfl rfl ?_
  refine tr_ic 0 0 (by decide) rfl ?_
  refine tr_s (.aload_n 0) 1 3 [some (.ref 1000), some (.int x1), some (.ref 1109), none] [.ref 1000, .int 0, .ref 1109] h rfl rfl rfl ?_
  refine tr_s (.iload_n 1) 1 4 [some (.ref 1000), some (.int x1), some (.ref 1109), none] [.int x1, .ref 1000, .int 0, .ref 1109] h rfl rfl rfl ?_
  refine tr_call (.invokevirtual 138) 138 0 1 0 m_X8_writeCat [.ref 1000, .int x1] [.int 0, .ref 1109] (some (.int v0)) h1 rfl rfl rfl rfl rfl rfl rfl rfl rfl (tr_cok rfl (Or.inr ⟨_, _, rfl, tr_rc (hh_rd (hh_obj hL (k := 0) rfl).1) (by decide)⟩)) c_0 ?_
  have hL0 := c_0.2
  refine tr_s .i2l 1 8 [some (.ref 1000), some (.int x1), some (.ref 1109), none] [.long v0.toInt64, .int 0, .ref 1109] h1 rfl rfl rfl ?_
  refine tr_las 1109 v0.toInt64 _ rfl (by decide) (hh_obj hL0 (k := 109) rfl).1 (hh_obj hL0 (k := 109) rfl).2 ?_
  have hL1 : hh_L (ev_wr h1 1109 (.inr (100, (hh_v h1 109).set 0 (.long v0.toInt64)))) := hh_L_sv (sl := 0) (v := .long v0.toInt64) hL0 (show hh_t[109]? = some (.inr (100, [2])) from rfl) rfl ⟨_, rfl⟩
  refine tr_goto 6 15 rfl rfl rfl ?_
  refine tr_ic 0 0 (by decide) rfl ?_
  exact tl_ret hL1 .ireturn 1 (some (.int 0)) rfl rfl rfl rfl hr
theorem sx_L_outputAt_0_4_0 {g : tr_g} {d : Nat} {h : ev_AH} {r : ev_O × ev_AH} {x1 v0 : Int32} {h1 hx : ev_AH} (hL : hh_L h) (cx : tr_L g d m_X8_outputAt 0 [some (.ref 1000), some (.int x1)] [] h (.inr 0, hx)) (hr : r = (.inl (some (.int 1)), hx)) : tr_L g (d + 1) m_L_outputAt 0 [some (.ref 1000), some (.int x1), some (.ref 1109), none] [] h r := by
  refine tr_s (.aload_n 2) 1 1 [some (.ref 1000), some (.int x1), some (.ref 1109), none] [.ref 1109] h rfl rfl rfl ?_
  refine tr_ic 0 0 (by decide) rfl ?_
  refine tr_s (.aload_n 0) 1 3 [some (.ref 1000), some (.int x1), some (.ref 1109), none] [.ref 1000, .int 0, .ref 1109] h rfl rfl rfl ?_
  refine tr_s (.iload_n 1) 1 4 [some (.ref 1000), some (.int x1), some (.ref 1109), none] [.int x1, .ref 1000, .int 0, .ref 1109] h rfl rfl rfl ?_
  refine tr_callh (.invokevirtual 141) 141 0 1 0 m_X8_outputAt [.ref 1000, .int x1] [.int 0, .ref 1109] 0 13 3 hx rfl rfl rfl rfl rfl rfl rfl rfl rfl (tr_cok rfl (Or.inr ⟨_, _, rfl, tr_rc (hh_rd (hh_obj hL (k := 0) rfl).1) (by decide)⟩)) rfl rfl cx ?_
  refine tr_ic 1 1 (by decide) rfl ?_
  exact tl_ret cx.2 .ireturn 1 (some (.int 1)) rfl rfl rfl rfl hr
theorem sg_L_outputAt_0 {g : tr_g} {d : Nat} {h : ev_AH} {r : ev_O × ev_AH} {x1 v0 : Int32} {h1 : ev_AH} (hL : hh_L h) (c_0 : tr_L g d m_X8_outputAt 0 [some (.ref 1000), some (.int x1)] [] h (.inl (some (.int v0)), h1)) (hr : r = (.inl (some (.int 0)), ev_wr h1 1109 (.inr (100, (hh_v h1 109).set 0 (.long v0.toInt64))))) : tr_L g (d + 1) m_L_outputAt 0 [some (.ref 1000), some (.int x1), some (.ref 1109), none] [] h r := by
  refine tr_s (.aload_n 2) 1 1 [some (.ref 1000), some (.int x1), some (.ref 1109), none] [.ref 1109] h rfl rfl rfl ?_
  refine tr_ic 0 0 (by decide) rfl ?_
  refine tr_s (.aload_n 0) 1 3 [some (.ref 1000), some (.int x1), some (.ref 1109), none] [.ref 1000, .int 0, .ref 1109] h rfl rfl rfl ?_
  refine tr_s (.iload_n 1) 1 4 [some (.ref 1000), some (.int x1), some (.ref 1109), none] [.int x1, .ref 1000, .int 0, .ref 1109] h rfl rfl rfl ?_
  refine tr_call (.invokevirtual 141) 141 0 1 0 m_X8_outputAt [.ref 1000, .int x1] [.int 0, .ref 1109] (some (.int v0)) h1 rfl rfl rfl rfl rfl rfl rfl rfl rfl (tr_cok rfl (Or.inr ⟨_, _, rfl, tr_rc (hh_rd (hh_obj hL (k := 0) rfl).1) (by decide)⟩)) c_0 ?_
  have hL0 := c_0.2
  refine tr_s .i2l 1 8 [some (.ref 1000), some (.int x1), some (.ref 1109), none] [.long v0.toInt64, .int 0, .ref 1109] h1 rfl rfl rfl ?_
  refine tr_las 1109 v0.toInt64 _ rfl (by decide) (hh_obj hL0 (k := 109) rfl).1 (hh_obj hL0 (k := 109) rfl).2 ?_
  have hL1 : hh_L (ev_wr h1 1109 (.inr (100, (hh_v h1 109).set 0 (.long v0.toInt64)))) := hh_L_sv (sl := 0) (v := .long v0.toInt64) hL0 (show hh_t[109]? = some (.inr (100, [2])) from rfl) rfl ⟨_, rfl⟩
  refine tr_goto 6 15 rfl rfl rfl ?_
  refine tr_ic 0 0 (by decide) rfl ?_
  exact tl_ret hL1 .ireturn 1 (some (.int 0)) rfl rfl rfl rfl hr
theorem sx_L_appendInput_0_4_1 {g : tr_g} {d : Nat} {h : ev_AH} {r : ev_O × ev_AH} {x1 v0 : Int32} {h1 hx : ev_AH} (hL : hh_L h) (cx : tr_L g d m_X8_appendInput 0 [some (.ref 1000), some (.int x1)] [] h (.inr 1, hx)) (hr : r = (.inl (some (.int 1)), hx)) : tr_L g (d + 1) m_L_appendInput 0 [some (.ref 1000), some (.int x1), some (.ref 1109), none] [] h r := by
  refine tr_s (.aload_n 2) 1 1 [some (.ref 1000), some (.int x1), some (.ref 1109), none] [.ref 1109] h rfl rfl rfl ?_
  refine tr_ic 0 0 (by decide) rfl ?_
  refine tr_s (.aload_n 0) 1 3 [some (.ref 1000), some (.int x1), some (.ref 1109), none] [.ref 1000, .int 0, .ref 1109] h rfl rfl rfl ?_
  refine tr_s (.iload_n 1) 1 4 [some (.ref 1000), some (.int x1), some (.ref 1109), none] [.int x1, .ref 1000, .int 0, .ref 1109] h rfl rfl rfl ?_
  refine tr_callh (.invokevirtual 144) 144 0 1 0 m_X8_appendInput [.ref 1000, .int x1] [.int 0, .ref 1109] 1 13 3 hx rfl rfl rfl rfl rfl rfl rfl rfl rfl (tr_cok rfl (Or.inr ⟨_, _, rfl, tr_rc (hh_rd (hh_obj hL (k := 0) rfl).1) (by decide)⟩)) rfl rfl cx ?_
  refine tr_ic 1 1 (by decide) rfl ?_
  exact tl_ret cx.2 .ireturn 1 (some (.int 1)) rfl rfl rfl rfl hr
theorem sx_L_appendInput_0_4_5 {g : tr_g} {d : Nat} {h : ev_AH} {r : ev_O × ev_AH} {x1 v0 : Int32} {h1 hx : ev_AH} (hL : hh_L h) (cx : tr_L g d m_X8_appendInput 0 [some (.ref 1000), some (.int x1)] [] h (.inr 5, hx)) (hr : r = (.inl (some (.int 2)), hx)) : tr_L g (d + 1) m_L_appendInput 0 [some (.ref 1000), some (.int x1), some (.ref 1109), none] [] h r := by
  refine tr_s (.aload_n 2) 1 1 [some (.ref 1000), some (.int x1), some (.ref 1109), none] [.ref 1109] h rfl rfl rfl ?_
  refine tr_ic 0 0 (by decide) rfl ?_
  refine tr_s (.aload_n 0) 1 3 [some (.ref 1000), some (.int x1), some (.ref 1109), none] [.ref 1000, .int 0, .ref 1109] h rfl rfl rfl ?_
  refine tr_s (.iload_n 1) 1 4 [some (.ref 1000), some (.int x1), some (.ref 1109), none] [.int x1, .ref 1000, .int 0, .ref 1109] h rfl rfl rfl ?_
  refine tr_callh (.invokevirtual 144) 144 0 1 0 m_X8_appendInput [.ref 1000, .int x1] [.int 0, .ref 1109] 5 16 3 hx rfl rfl rfl rfl rfl rfl rfl rfl rfl (tr_cok rfl (Or.inr ⟨_, _, rfl, tr_rc (hh_rd (hh_obj hL (k := 0) rfl).1) (by decide)⟩)) rfl rfl cx ?_
  refine tr_ic 2 2 (by decide) rfl ?_
  exact tl_ret cx.2 .ireturn 1 (some (.int 2)) rfl rfl rfl rfl hr
theorem sg_L_appendInput_0 {g : tr_g} {d : Nat} {h : ev_AH} {r : ev_O × ev_AH} {x1 v0 : Int32} {h1 : ev_AH} (hL : hh_L h) (c_0 : tr_L g d m_X8_appendInput 0 [some (.ref 1000), some (.int x1)] [] h (.inl (some (.int v0)), h1)) (hr : r = (.inl (some (.int 0)), ev_wr h1 1109 (.inr (100, (hh_v h1 109).set 0 (.long v0.toInt64))))) : tr_L g (d + 1) m_L_appendInput 0 [some (.ref 1000), some (.int x1), some (.ref 1109), none] [] h r := by
  refine tr_s (.aload_n 2) 1 1 [some (.ref 1000), some (.int x1), some (.ref 1109), none] [.ref 1109] h rfl rfl rfl ?_
  refine tr_ic 0 0 (by decide) rfl ?_
  refine tr_s (.aload_n 0) 1 3 [some (.ref 1000), some (.int x1), some (.ref 1109), none] [.ref 1000, .int 0, .ref 1109] h rfl rfl rfl ?_
  refine tr_s (.iload_n 1) 1 4 [some (.ref 1000), some (.int x1), some (.ref 1109), none] [.int x1, .ref 1000, .int 0, .ref 1109] h rfl rfl rfl ?_
  refine tr_call (.invokevirtual 144) 144 0 1 0 m_X8_appendInput [.ref 1000, .int x1] [.int 0, .ref 1109] (some (.int v0)) h1 rfl rfl rfl rfl rfl rfl rfl rfl rfl (tr_cok rfl (Or.inr ⟨_, _, rfl, tr_rc (hh_rd (hh_obj hL (k := 0) rfl).1) (by decide)⟩)) c_0 ?_
  have hL0 := c_0.2
  refine tr_s .i2l 1 8 [some (.ref 1000), some (.int x1), some (.ref 1109), none] [.long v0.toInt64, .int 0, .ref 1109] h1 rfl rfl rfl ?_
  refine tr_las 1109 v0.toInt64 _ rfl (by decide) (hh_obj hL0 (k := 109) rfl).1 (hh_obj hL0 (k := 109) rfl).2 ?_
  have hL1 : hh_L (ev_wr h1 1109 (.inr (100, (hh_v h1 109).set 0 (.long v0.toInt64)))) := hh_L_sv (sl := 0) (v := .long v0.toInt64) hL0 (show hh_t[109]? = some (.inr (100, [2])) from rfl) rfl ⟨_, rfl⟩
  refine tr_goto 9 18 rfl rfl rfl ?_
  refine tr_ic 0 0 (by decide) rfl ?_
  exact tl_ret hL1 .ireturn 1 (some (.int 0)) rfl rfl rfl rfl hr
theorem sx_L_execute_0_3_1 {g : tr_g} {d : Nat} {h : ev_AH} {r : ev_O × ev_AH} {h1 hx : ev_AH} {v0 : Int32} (hL : hh_L h) (cx : tr_L g d m_X8_execute 0 [some (.ref 1000), none, none, none, none] [] h (.inr 1, hx)) (hr : r = (.inl (some (.int 1)), hx)) : tr_L g (d + 1) m_L_execute 0 [some (.ref 1000), some (.ref 1109), none] [] h r := by
  refine tr_s (.aload_n 1) 1 1 [some (.ref 1000), some (.ref 1109), none] [.ref 1109] h rfl rfl rfl ?_
  refine tr_ic 0 0 (by decide) rfl ?_
  refine tr_s (.aload_n 0) 1 3 [some (.ref 1000), some (.ref 1109), none] [.ref 1000, .int 0, .ref 1109] h rfl rfl rfl ?_
  refine tr_callh (.invokevirtual 149) 149 0 0 0 m_X8_execute [.ref 1000] [.int 0, .ref 1109] 1 12 2 hx rfl rfl rfl rfl rfl rfl rfl rfl rfl (tr_cok rfl (Or.inr ⟨_, _, rfl, tr_rc (hh_rd (hh_obj hL (k := 0) rfl).1) (by decide)⟩)) rfl rfl cx ?_
  refine tr_ic 1 1 (by decide) rfl ?_
  exact tl_ret cx.2 .ireturn 1 (some (.int 1)) rfl rfl rfl rfl hr
theorem sx_L_execute_0_3_2 {g : tr_g} {d : Nat} {h : ev_AH} {r : ev_O × ev_AH} {h1 hx : ev_AH} {v0 : Int32} (hL : hh_L h) (cx : tr_L g d m_X8_execute 0 [some (.ref 1000), none, none, none, none] [] h (.inr 2, hx)) (hr : r = (.inl (some (.int 3)), hx)) : tr_L g (d + 1) m_L_execute 0 [some (.ref 1000), some (.ref 1109), none] [] h r := by
  refine tr_s (.aload_n 1) 1 1 [some (.ref 1000), some (.ref 1109), none] [.ref 1109] h rfl rfl rfl ?_
  refine tr_ic 0 0 (by decide) rfl ?_
  refine tr_s (.aload_n 0) 1 3 [some (.ref 1000), some (.ref 1109), none] [.ref 1000, .int 0, .ref 1109] h rfl rfl rfl ?_
  refine tr_callh (.invokevirtual 149) 149 0 0 0 m_X8_execute [.ref 1000] [.int 0, .ref 1109] 2 18 2 hx rfl rfl rfl rfl rfl rfl rfl rfl rfl (tr_cok rfl (Or.inr ⟨_, _, rfl, tr_rc (hh_rd (hh_obj hL (k := 0) rfl).1) (by decide)⟩)) rfl rfl cx ?_
  refine tr_ic 3 3 (by decide) rfl ?_
  exact tl_ret cx.2 .ireturn 1 (some (.int 3)) rfl rfl rfl rfl hr
theorem sx_L_execute_0_3_5 {g : tr_g} {d : Nat} {h : ev_AH} {r : ev_O × ev_AH} {h1 hx : ev_AH} {v0 : Int32} (hL : hh_L h) (cx : tr_L g d m_X8_execute 0 [some (.ref 1000), none, none, none, none] [] h (.inr 5, hx)) (hr : r = (.inl (some (.int 2)), hx)) : tr_L g (d + 1) m_L_execute 0 [some (.ref 1000), some (.ref 1109), none] [] h r := by
  refine tr_s (.aload_n 1) 1 1 [some (.ref 1000), some (.ref 1109), none] [.ref 1109] h rfl rfl rfl ?_
  refine tr_ic 0 0 (by decide) rfl ?_
  refine tr_s (.aload_n 0) 1 3 [some (.ref 1000), some (.ref 1109), none] [.ref 1000, .int 0, .ref 1109] h rfl rfl rfl ?_
  refine tr_callh (.invokevirtual 149) 149 0 0 0 m_X8_execute [.ref 1000] [.int 0, .ref 1109] 5 15 2 hx rfl rfl rfl rfl rfl rfl rfl rfl rfl (tr_cok rfl (Or.inr ⟨_, _, rfl, tr_rc (hh_rd (hh_obj hL (k := 0) rfl).1) (by decide)⟩)) rfl rfl cx ?_
  refine tr_ic 2 2 (by decide) rfl ?_
  exact tl_ret cx.2 .ireturn 1 (some (.int 2)) rfl rfl rfl rfl hr
theorem sg_L_execute_0 {g : tr_g} {d : Nat} {h : ev_AH} {r : ev_O × ev_AH} {h1 : ev_AH} {v0 : Int32} (hL : hh_L h) (c_0 : tr_L g d m_X8_execute 0 [some (.ref 1000), none, none, none, none] [] h (.inl (some (.int v0)), h1)) (hr : r = (.inl (some (.int 0)), ev_wr h1 1109 (.inr (100, (hh_v h1 109).set 0 (.long v0.toInt64))))) : tr_L g (d + 1) m_L_execute 0 [some (.ref 1000), some (.ref 1109), none] [] h r := by
  refine tr_s (.aload_n 1) 1 1 [some (.ref 1000), some (.ref 1109), none] [.ref 1109] h rfl rfl rfl ?_
  refine tr_ic 0 0 (by decide) rfl ?_
  refine tr_s (.aload_n 0) 1 3 [some (.ref 1000), some (.ref 1109), none] [.ref 1000, .int 0, .ref 1109] h rfl rfl rfl ?_
  refine tr_call (.invokevirtual 149) 149 0 0 0 m_X8_execute [.ref 1000] [.int 0, .ref 1109] (some (.int v0)) h1 rfl rfl rfl rfl rfl rfl rfl rfl rfl (tr_cok rfl (Or.inr ⟨_, _, rfl, tr_rc (hh_rd (hh_obj hL (k := 0) rfl).1) (by decide)⟩)) c_0 ?_
  have hL0 := c_0.2
  refine tr_s .i2l 1 7 [some (.ref 1000), some (.ref 1109), none] [.long v0.toInt64, .int 0, .ref 1109] h1 rfl rfl rfl ?_
  refine tr_las 1109 v0.toInt64 _ rfl (by decide) (hh_obj hL0 (k := 109) rfl).1 (hh_obj hL0 (k := 109) rfl).2 ?_
  have hL1 : hh_L (ev_wr h1 1109 (.inr (100, (hh_v h1 109).set 0 (.long v0.toInt64)))) := hh_L_sv (sl := 0) (v := .long v0.toInt64) hL0 (show hh_t[109]? = some (.inr (100, [2])) from rfl) rfl ⟨_, rfl⟩
  refine tr_goto 12 20 rfl rfl rfl ?_
  refine tr_ic 0 0 (by decide) rfl ?_
  exact tl_ret hL1 .ireturn 1 (some (.int 0)) rfl rfl rfl rfl hr
theorem sx_L_syntaxErrorOffset_0_3_3 {g : tr_g} {d : Nat} {h : ev_AH} {r : ev_O × ev_AH} {h1 hx : ev_AH} {v0 : Int32} (hL : hh_L h) (cx : tr_L g d m_X8_syntaxErrorOffset 0 [some (.ref 1000)] [] h (.inr 3, hx)) (hr : r = (.inl (some (.int 1)), hx)) : tr_L g (d + 1) m_L_syntaxErrorOffset 0 [some (.ref 1000), some (.ref 1109), none] [] h r := by
  refine tr_s (.aload_n 1) 1 1 [some (.ref 1000), some (.ref 1109), none] [.ref 1109] h rfl rfl rfl ?_
  refine tr_ic 0 0 (by decide) rfl ?_
  refine tr_s (.aload_n 0) 1 3 [some (.ref 1000), some (.ref 1109), none] [.ref 1000, .int 0, .ref 1109] h rfl rfl rfl ?_
  refine tr_callh (.invokevirtual 152) 152 0 0 0 m_X8_syntaxErrorOffset [.ref 1000] [.int 0, .ref 1109] 3 12 2 hx rfl rfl rfl rfl rfl rfl rfl rfl rfl (tr_cok rfl (Or.inr ⟨_, _, rfl, tr_rc (hh_rd (hh_obj hL (k := 0) rfl).1) (by decide)⟩)) rfl rfl cx ?_
  refine tr_ic 1 1 (by decide) rfl ?_
  exact tl_ret cx.2 .ireturn 1 (some (.int 1)) rfl rfl rfl rfl hr
theorem sg_L_syntaxErrorOffset_0 {g : tr_g} {d : Nat} {h : ev_AH} {r : ev_O × ev_AH} {h1 : ev_AH} {v0 : Int32} (hL : hh_L h) (c_0 : tr_L g d m_X8_syntaxErrorOffset 0 [some (.ref 1000)] [] h (.inl (some (.int v0)), h1)) (hr : r = (.inl (some (.int 0)), ev_wr h1 1109 (.inr (100, (hh_v h1 109).set 0 (.long v0.toInt64))))) : tr_L g (d + 1) m_L_syntaxErrorOffset 0 [some (.ref 1000), some (.ref 1109), none] [] h r := by
  refine tr_s (.aload_n 1) 1 1 [some (.ref 1000), some (.ref 1109), none] [.ref 1109] h rfl rfl rfl ?_
  refine tr_ic 0 0 (by decide) rfl ?_
  refine tr_s (.aload_n 0) 1 3 [some (.ref 1000), some (.ref 1109), none] [.ref 1000, .int 0, .ref 1109] h rfl rfl rfl ?_
  refine tr_call (.invokevirtual 152) 152 0 0 0 m_X8_syntaxErrorOffset [.ref 1000] [.int 0, .ref 1109] (some (.int v0)) h1 rfl rfl rfl rfl rfl rfl rfl rfl rfl (tr_cok rfl (Or.inr ⟨_, _, rfl, tr_rc (hh_rd (hh_obj hL (k := 0) rfl).1) (by decide)⟩)) c_0 ?_
  have hL0 := c_0.2
  refine tr_s .i2l 1 7 [some (.ref 1000), some (.ref 1109), none] [.long v0.toInt64, .int 0, .ref 1109] h1 rfl rfl rfl ?_
  refine tr_las 1109 v0.toInt64 _ rfl (by decide) (hh_obj hL0 (k := 109) rfl).1 (hh_obj hL0 (k := 109) rfl).2 ?_
  have hL1 : hh_L (ev_wr h1 1109 (.inr (100, (hh_v h1 109).set 0 (.long v0.toInt64)))) := hh_L_sv (sl := 0) (v := .long v0.toInt64) hL0 (show hh_t[109]? = some (.inr (100, [2])) from rfl) rfl ⟨_, rfl⟩
  refine tr_goto 6 14 rfl rfl rfl ?_
  refine tr_ic 0 0 (by decide) rfl ?_
  exact tl_ret hL1 .ireturn 1 (some (.int 0)) rfl rfl rfl rfl hr
theorem sx_L_rejectionReason_0_3_3 {g : tr_g} {d : Nat} {h : ev_AH} {r : ev_O × ev_AH} {h1 hx : ev_AH} {v0 : Int32} (hL : hh_L h) (cx : tr_L g d m_X8_rejectionReason 0 [some (.ref 1000)] [] h (.inr 3, hx)) (hr : r = (.inl (some (.int 1)), hx)) : tr_L g (d + 1) m_L_rejectionReason 0 [some (.ref 1000), some (.ref 1109), none] [] h r := by
  refine tr_s (.aload_n 1) 1 1 [some (.ref 1000), some (.ref 1109), none] [.ref 1109] h rfl rfl rfl ?_
  refine tr_ic 0 0 (by decide) rfl ?_
  refine tr_s (.aload_n 0) 1 3 [some (.ref 1000), some (.ref 1109), none] [.ref 1000, .int 0, .ref 1109] h rfl rfl rfl ?_
  refine tr_callh (.invokevirtual 155) 155 0 0 0 m_X8_rejectionReason [.ref 1000] [.int 0, .ref 1109] 3 12 2 hx rfl rfl rfl rfl rfl rfl rfl rfl rfl (tr_cok rfl (Or.inr ⟨_, _, rfl, tr_rc (hh_rd (hh_obj hL (k := 0) rfl).1) (by decide)⟩)) rfl rfl cx ?_
  refine tr_ic 1 1 (by decide) rfl ?_
  exact tl_ret cx.2 .ireturn 1 (some (.int 1)) rfl rfl rfl rfl hr
theorem sg_L_rejectionReason_0 {g : tr_g} {d : Nat} {h : ev_AH} {r : ev_O × ev_AH} {h1 : ev_AH} {v0 : Int32} (hL : hh_L h) (c_0 : tr_L g d m_X8_rejectionReason 0 [some (.ref 1000)] [] h (.inl (some (.int v0)), h1)) (hr : r = (.inl (some (.int 0)), ev_wr h1 1109 (.inr (100, (hh_v h1 109).set 0 (.long v0.toInt64))))) : tr_L g (d + 1) m_L_rejectionReason 0 [some (.ref 1000), some (.ref 1109), none] [] h r := by
  refine tr_s (.aload_n 1) 1 1 [some (.ref 1000), some (.ref 1109), none] [.ref 1109] h rfl rfl rfl ?_
  refine tr_ic 0 0 (by decide) rfl ?_
  refine tr_s (.aload_n 0) 1 3 [some (.ref 1000), some (.ref 1109), none] [.ref 1000, .int 0, .ref 1109] h rfl rfl rfl ?_
  refine tr_call (.invokevirtual 155) 155 0 0 0 m_X8_rejectionReason [.ref 1000] [.int 0, .ref 1109] (some (.int v0)) h1 rfl rfl rfl rfl rfl rfl rfl rfl rfl (tr_cok rfl (Or.inr ⟨_, _, rfl, tr_rc (hh_rd (hh_obj hL (k := 0) rfl).1) (by decide)⟩)) c_0 ?_
  have hL0 := c_0.2
  refine tr_s .i2l 1 7 [some (.ref 1000), some (.ref 1109), none] [.long v0.toInt64, .int 0, .ref 1109] h1 rfl rfl rfl ?_
  refine tr_las 1109 v0.toInt64 _ rfl (by decide) (hh_obj hL0 (k := 109) rfl).1 (hh_obj hL0 (k := 109) rfl).2 ?_
  have hL1 : hh_L (ev_wr h1 1109 (.inr (100, (hh_v h1 109).set 0 (.long v0.toInt64)))) := hh_L_sv (sl := 0) (v := .long v0.toInt64) hL0 (show hh_t[109]? = some (.inr (100, [2])) from rfl) rfl ⟨_, rfl⟩
  refine tr_goto 6 14 rfl rfl rfl ?_
  refine tr_ic 0 0 (by decide) rfl ?_
  exact tl_ret hL1 .ireturn 1 (some (.int 0)) rfl rfl rfl rfl hr
theorem sx_L_rejectionDetail_0_3_3 {g : tr_g} {d : Nat} {h : ev_AH} {r : ev_O × ev_AH} {h1 hx : ev_AH} {v0 : Int32} (hL : hh_L h) (cx : tr_L g d m_X8_rejectionDetail 0 [some (.ref 1000)] [] h (.inr 3, hx)) (hr : r = (.inl (some (.int 1)), hx)) : tr_L g (d + 1) m_L_rejectionDetail 0 [some (.ref 1000), some (.ref 1109), none] [] h r := by
  refine tr_s (.aload_n 1) 1 1 [some (.ref 1000), some (.ref 1109), none] [.ref 1109] h rfl rfl rfl ?_
  refine tr_ic 0 0 (by decide) rfl ?_
  refine tr_s (.aload_n 0) 1 3 [some (.ref 1000), some (.ref 1109), none] [.ref 1000, .int 0, .ref 1109] h rfl rfl rfl ?_
  refine tr_callh (.invokevirtual 158) 158 0 0 0 m_X8_rejectionDetail [.ref 1000] [.int 0, .ref 1109] 3 12 2 hx rfl rfl rfl rfl rfl rfl rfl rfl rfl (tr_cok rfl (Or.inr ⟨_, _, rfl, tr_rc (hh_rd (hh_obj hL (k := 0) rfl).1) (by decide)⟩)) rfl rfl cx ?_
  refine tr_ic 1 1 (by decide) rfl ?_
  exact tl_ret cx.2 .ireturn 1 (some (.int 1)) rfl rfl rfl rfl hr
theorem sg_L_rejectionDetail_0 {g : tr_g} {d : Nat} {h : ev_AH} {r : ev_O × ev_AH} {h1 : ev_AH} {v0 : Int32} (hL : hh_L h) (c_0 : tr_L g d m_X8_rejectionDetail 0 [some (.ref 1000)] [] h (.inl (some (.int v0)), h1)) (hr : r = (.inl (some (.int 0)), ev_wr h1 1109 (.inr (100, (hh_v h1 109).set 0 (.long v0.toInt64))))) : tr_L g (d + 1) m_L_rejectionDetail 0 [some (.ref 1000), some (.ref 1109), none] [] h r := by
  refine tr_s (.aload_n 1) 1 1 [some (.ref 1000), some (.ref 1109), none] [.ref 1109] h rfl rfl rfl ?_
  refine tr_ic 0 0 (by decide) rfl ?_
  refine tr_s (.aload_n 0) 1 3 [some (.ref 1000), some (.ref 1109), none] [.ref 1000, .int 0, .ref 1109] h rfl rfl rfl ?_
  refine tr_call (.invokevirtual 158) 158 0 0 0 m_X8_rejectionDetail [.ref 1000] [.int 0, .ref 1109] (some (.int v0)) h1 rfl rfl rfl rfl rfl rfl rfl rfl rfl (tr_cok rfl (Or.inr ⟨_, _, rfl, tr_rc (hh_rd (hh_obj hL (k := 0) rfl).1) (by decide)⟩)) c_0 ?_
  have hL0 := c_0.2
  refine tr_s .i2l 1 7 [some (.ref 1000), some (.ref 1109), none] [.long v0.toInt64, .int 0, .ref 1109] h1 rfl rfl rfl ?_
  refine tr_las 1109 v0.toInt64 _ rfl (by decide) (hh_obj hL0 (k := 109) rfl).1 (hh_obj hL0 (k := 109) rfl).2 ?_
  have hL1 : hh_L (ev_wr h1 1109 (.inr (100, (hh_v h1 109).set 0 (.long v0.toInt64)))) := hh_L_sv (sl := 0) (v := .long v0.toInt64) hL0 (show hh_t[109]? = some (.inr (100, [2])) from rfl) rfl ⟨_, rfl⟩
  refine tr_goto 6 14 rfl rfl rfl ?_
  refine tr_ic 0 0 (by decide) rfl ?_
  exact tl_ret hL1 .ireturn 1 (some (.int 0)) rfl rfl rfl rfl hr
theorem sx_L_causeReason_0_3_3 {g : tr_g} {d : Nat} {h : ev_AH} {r : ev_O × ev_AH} {h1 hx : ev_AH} {v0 : Int32} (hL : hh_L h) (cx : tr_L g d m_X8_causeReason 0 [some (.ref 1000)] [] h (.inr 3, hx)) (hr : r = (.inl (some (.int 1)), hx)) : tr_L g (d + 1) m_L_causeReason 0 [some (.ref 1000), some (.ref 1109), none] [] h r := by
  refine tr_s (.aload_n 1) 1 1 [some (.ref 1000), some (.ref 1109), none] [.ref 1109] h rfl rfl rfl ?_
  refine tr_ic 0 0 (by decide) rfl ?_
  refine tr_s (.aload_n 0) 1 3 [some (.ref 1000), some (.ref 1109), none] [.ref 1000, .int 0, .ref 1109] h rfl rfl rfl ?_
  refine tr_callh (.invokevirtual 161) 161 0 0 0 m_X8_causeReason [.ref 1000] [.int 0, .ref 1109] 3 12 2 hx rfl rfl rfl rfl rfl rfl rfl rfl rfl (tr_cok rfl (Or.inr ⟨_, _, rfl, tr_rc (hh_rd (hh_obj hL (k := 0) rfl).1) (by decide)⟩)) rfl rfl cx ?_
  refine tr_ic 1 1 (by decide) rfl ?_
  exact tl_ret cx.2 .ireturn 1 (some (.int 1)) rfl rfl rfl rfl hr
theorem sg_L_causeReason_0 {g : tr_g} {d : Nat} {h : ev_AH} {r : ev_O × ev_AH} {h1 : ev_AH} {v0 : Int32} (hL : hh_L h) (c_0 : tr_L g d m_X8_causeReason 0 [some (.ref 1000)] [] h (.inl (some (.int v0)), h1)) (hr : r = (.inl (some (.int 0)), ev_wr h1 1109 (.inr (100, (hh_v h1 109).set 0 (.long v0.toInt64))))) : tr_L g (d + 1) m_L_causeReason 0 [some (.ref 1000), some (.ref 1109), none] [] h r := by
  refine tr_s (.aload_n 1) 1 1 [some (.ref 1000), some (.ref 1109), none] [.ref 1109] h rfl rfl rfl ?_
  refine tr_ic 0 0 (by decide) rfl ?_
  refine tr_s (.aload_n 0) 1 3 [some (.ref 1000), some (.ref 1109), none] [.ref 1000, .int 0, .ref 1109] h rfl rfl rfl ?_
  refine tr_call (.invokevirtual 161) 161 0 0 0 m_X8_causeReason [.ref 1000] [.int 0, .ref 1109] (some (.int v0)) h1 rfl rfl rfl rfl rfl rfl rfl rfl rfl (tr_cok rfl (Or.inr ⟨_, _, rfl, tr_rc (hh_rd (hh_obj hL (k := 0) rfl).1) (by decide)⟩)) c_0 ?_
  have hL0 := c_0.2
  refine tr_s .i2l 1 7 [some (.ref 1000), some (.ref 1109), none] [.long v0.toInt64, .int 0, .ref 1109] h1 rfl rfl rfl ?_
  refine tr_las 1109 v0.toInt64 _ rfl (by decide) (hh_obj hL0 (k := 109) rfl).1 (hh_obj hL0 (k := 109) rfl).2 ?_
  have hL1 : hh_L (ev_wr h1 1109 (.inr (100, (hh_v h1 109).set 0 (.long v0.toInt64)))) := hh_L_sv (sl := 0) (v := .long v0.toInt64) hL0 (show hh_t[109]? = some (.inr (100, [2])) from rfl) rfl ⟨_, rfl⟩
  refine tr_goto 6 14 rfl rfl rfl ?_
  refine tr_ic 0 0 (by decide) rfl ?_
  exact tl_ret hL1 .ireturn 1 (some (.int 0)) rfl rfl rfl rfl hr
theorem sx_L_undo_0_3_5 {g : tr_g} {d : Nat} {h : ev_AH} {r : ev_O × ev_AH} {h1 hx : ev_AH} {v0 : Int32} (hL : hh_L h) (cx : tr_L g d m_X8_undo 0 [some (.ref 1000)] [] h (.inr 5, hx)) (hr : r = (.inl (some (.int 1)), hx)) : tr_L g (d + 1) m_L_undo 0 [some (.ref 1000), some (.ref 1109), none] [] h r := by
  refine tr_s (.aload_n 1) 1 1 [some (.ref 1000), some (.ref 1109), none] [.ref 1109] h rfl rfl rfl ?_
  refine tr_ic 0 0 (by decide) rfl ?_
  refine tr_s (.aload_n 0) 1 3 [some (.ref 1000), some (.ref 1109), none] [.ref 1000, .int 0, .ref 1109] h rfl rfl rfl ?_
  refine tr_callh (.invokevirtual 164) 164 0 0 0 m_X8_undo [.ref 1000] [.int 0, .ref 1109] 5 12 2 hx rfl rfl rfl rfl rfl rfl rfl rfl rfl (tr_cok rfl (Or.inr ⟨_, _, rfl, tr_rc (hh_rd (hh_obj hL (k := 0) rfl).1) (by decide)⟩)) rfl rfl cx ?_
  refine tr_ic 1 1 (by decide) rfl ?_
  exact tl_ret cx.2 .ireturn 1 (some (.int 1)) rfl rfl rfl rfl hr
theorem sg_L_undo_0 {g : tr_g} {d : Nat} {h : ev_AH} {r : ev_O × ev_AH} {h1 : ev_AH} {v0 : Int32} (hL : hh_L h) (c_0 : tr_L g d m_X8_undo 0 [some (.ref 1000)] [] h (.inl (some (.int v0)), h1)) (hr : r = (.inl (some (.int 0)), ev_wr h1 1109 (.inr (100, (hh_v h1 109).set 0 (.long v0.toInt64))))) : tr_L g (d + 1) m_L_undo 0 [some (.ref 1000), some (.ref 1109), none] [] h r := by
  refine tr_s (.aload_n 1) 1 1 [some (.ref 1000), some (.ref 1109), none] [.ref 1109] h rfl rfl rfl ?_
  refine tr_ic 0 0 (by decide) rfl ?_
  refine tr_s (.aload_n 0) 1 3 [some (.ref 1000), some (.ref 1109), none] [.ref 1000, .int 0, .ref 1109] h rfl rfl rfl ?_
  refine tr_call (.invokevirtual 164) 164 0 0 0 m_X8_undo [.ref 1000] [.int 0, .ref 1109] (some (.int v0)) h1 rfl rfl rfl rfl rfl rfl rfl rfl rfl (tr_cok rfl (Or.inr ⟨_, _, rfl, tr_rc (hh_rd (hh_obj hL (k := 0) rfl).1) (by decide)⟩)) c_0 ?_
  have hL0 := c_0.2
  refine tr_s .i2l 1 7 [some (.ref 1000), some (.ref 1109), none] [.long v0.toInt64, .int 0, .ref 1109] h1 rfl rfl rfl ?_
  refine tr_las 1109 v0.toInt64 _ rfl (by decide) (hh_obj hL0 (k := 109) rfl).1 (hh_obj hL0 (k := 109) rfl).2 ?_
  have hL1 : hh_L (ev_wr h1 1109 (.inr (100, (hh_v h1 109).set 0 (.long v0.toInt64)))) := hh_L_sv (sl := 0) (v := .long v0.toInt64) hL0 (show hh_t[109]? = some (.inr (100, [2])) from rfl) rfl ⟨_, rfl⟩
  refine tr_goto 6 14 rfl rfl rfl ?_
  refine tr_ic 0 0 (by decide) rfl ?_
  exact tl_ret hL1 .ireturn 1 (some (.int 0)) rfl rfl rfl rfl hr
theorem sx_L_restoreSnapshot_0_3_5 {g : tr_g} {d : Nat} {h : ev_AH} {r : ev_O × ev_AH} {h1 hx : ev_AH} {v0 : Int32} (hL : hh_L h) (cx : tr_L g d m_X8_restoreSnapshot 0 [some (.ref 1000)] [] h (.inr 5, hx)) (hr : r = (.inl (some (.int 1)), hx)) : tr_L g (d + 1) m_L_restoreSnapshot 0 [some (.ref 1000), some (.ref 1109), none] [] h r := by
  refine tr_s (.aload_n 1) 1 1 [some (.ref 1000), some (.ref 1109), none] [.ref 1109] h rfl rfl rfl ?_
  refine tr_ic 0 0 (by decide) rfl ?_
  refine tr_s (.aload_n 0) 1 3 [some (.ref 1000), some (.ref 1109), none] [.ref 1000, .int 0, .ref 1109] h rfl rfl rfl ?_
  refine tr_callh (.invokevirtual 167) 167 0 0 0 m_X8_restoreSnapshot [.ref 1000] [.int 0, .ref 1109] 5 12 2 hx rfl rfl rfl rfl rfl rfl rfl rfl rfl (tr_cok rfl (Or.inr ⟨_, _, rfl, tr_rc (hh_rd (hh_obj hL (k := 0) rfl).1) (by decide)⟩)) rfl rfl cx ?_
  refine tr_ic 1 1 (by decide) rfl ?_
  exact tl_ret cx.2 .ireturn 1 (some (.int 1)) rfl rfl rfl rfl hr
theorem sg_L_restoreSnapshot_0 {g : tr_g} {d : Nat} {h : ev_AH} {r : ev_O × ev_AH} {h1 : ev_AH} {v0 : Int32} (hL : hh_L h) (c_0 : tr_L g d m_X8_restoreSnapshot 0 [some (.ref 1000)] [] h (.inl (some (.int v0)), h1)) (hr : r = (.inl (some (.int 0)), ev_wr h1 1109 (.inr (100, (hh_v h1 109).set 0 (.long v0.toInt64))))) : tr_L g (d + 1) m_L_restoreSnapshot 0 [some (.ref 1000), some (.ref 1109), none] [] h r := by
  refine tr_s (.aload_n 1) 1 1 [some (.ref 1000), some (.ref 1109), none] [.ref 1109] h rfl rfl rfl ?_
  refine tr_ic 0 0 (by decide) rfl ?_
  refine tr_s (.aload_n 0) 1 3 [some (.ref 1000), some (.ref 1109), none] [.ref 1000, .int 0, .ref 1109] h rfl rfl rfl ?_
  refine tr_call (.invokevirtual 167) 167 0 0 0 m_X8_restoreSnapshot [.ref 1000] [.int 0, .ref 1109] (some (.int v0)) h1 rfl rfl rfl rfl rfl rfl rfl rfl rfl (tr_cok rfl (Or.inr ⟨_, _, rfl, tr_rc (hh_rd (hh_obj hL (k := 0) rfl).1) (by decide)⟩)) c_0 ?_
  have hL0 := c_0.2
  refine tr_s .i2l 1 7 [some (.ref 1000), some (.ref 1109), none] [.long v0.toInt64, .int 0, .ref 1109] h1 rfl rfl rfl ?_
  refine tr_las 1109 v0.toInt64 _ rfl (by decide) (hh_obj hL0 (k := 109) rfl).1 (hh_obj hL0 (k := 109) rfl).2 ?_
  have hL1 : hh_L (ev_wr h1 1109 (.inr (100, (hh_v h1 109).set 0 (.long v0.toInt64)))) := hh_L_sv (sl := 0) (v := .long v0.toInt64) hL0 (show hh_t[109]? = some (.inr (100, [2])) from rfl) rfl ⟨_, rfl⟩
  refine tr_goto 6 14 rfl rfl rfl ?_
  refine tr_ic 0 0 (by decide) rfl ?_
  exact tl_ret hL1 .ireturn 1 (some (.int 0)) rfl rfl rfl rfl hr
