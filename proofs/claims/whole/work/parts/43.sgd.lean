/-! runs of the reference, from place to place; laid by a program (wip/whole/gen/gen40.py) -/
theorem sg_X9_thrown_0 {g : tr_g} {d : Nat} {h : ev_AH} {r : ev_O × ev_AH} (hL : hh_L h) (hr : r = (.inl (some (.int (hh_i h 99 7))), h)) : tr_L g d m_X9_thrown 0 [some (.ref 1099)] [] h r := by
  refine tr_s (.aload_n 0) 1 1 [some (.ref 1099)] [.ref 1099] h rfl rfl rfl ?_
  refine tl_gi hL 41 99 8 7 [1100, 1101, 1102, 1103, 1104, 1105, 0, 0, 0, 0, 0, 0, 0, 0, 0, 0, 0, 0, 0, 0, 0, 1106, 0, 1107, 1108, 0, 0, 0] rfl rfl rfl rfl ?_
  exact tl_ret hL .ireturn 1 (some (.int (hh_i h 99 7))) rfl rfl rfl rfl hr
theorem sg_X9_addCat_0 {g : tr_g} {d : Nat} {h : ev_AH} {r : ev_O × ev_AH} {x1 x2 x3 x4 v0 v1 : Int32} {h1 h2 h3 : ev_AH} (hL : hh_L h) (c_0 : tr_L g d m_X9_keeps 0 [some (.ref 1099)] [] h (.inl none, h1)) (c_1 : tr_L g d m_X9_cats 0 [some (.ref 1099), some (.int x1), some (.int x2), some (.int x3), some (.int x4), none, none, none] [] h1 (.inl (some (.int v0)), h2)) (c_2 : tr_L g d m_X9_ends 0 [some (.ref 1099), some (.int v0), none] [] h2 (.inl (some (.int v1)), h3)) (hr : r = (.inl (some (.int v1)), h3)) : tr_L g (d + 1) m_X9_addCat 0 [some (.ref 1099), some (.int x1), some (.int x2), some (.int x3), some (.int x4)] [] h r := by
  refine tr_s (.aload_n 0) 1 1 [some (.ref 1099), some (.int x1), some (.int x2), some (.int x3), some (.int x4)] [.ref 1099] h rfl rfl rfl ?_
  refine tr_call (.invokevirtual 100) 100 0 0 8 m_X9_keeps [.ref 1099] [] none h1 rfl rfl rfl rfl rfl rfl rfl rfl rfl (tr_cok rfl (Or.inr ⟨_, _, rfl, tr_rc (hh_rd (hh_obj hL (k := 99) rfl).1) (by decide)⟩)) c_0 ?_
  have hL0 := c_0.2
  refine tr_s (.aload_n 0) 1 5 [some (.ref 1099), some (.int x1), some (.int x2), some (.int x3), some (.int x4)] [.ref 1099] h1 rfl rfl rfl ?_
  refine tr_s (.aload_n 0) 1 6 [some (.ref 1099), some (.int x1), some (.int x2), some (.int x3), some (.int x4)] [.ref 1099, .ref 1099] h1 rfl rfl rfl ?_
  refine tr_s (.iload_n 1) 1 7 [some (.ref 1099), some (.int x1), some (.int x2), some (.int x3), some (.int x4)] [.int x1, .ref 1099, .ref 1099] h1 rfl rfl rfl ?_
  refine tr_s (.iload_n 2) 1 8 [some (.ref 1099), some (.int x1), some (.int x2), some (.int x3), some (.int x4)] [.int x2, .int x1, .ref 1099, .ref 1099] h1 rfl rfl rfl ?_
  refine tr_s (.iload_n 3) 1 9 [some (.ref 1099), some (.int x1), some (.int x2), some (.int x3), some (.int x4)] [.int x3, .int x2, .int x1, .ref 1099, .ref 1099] h1 rfl rfl rfl ?_
  refine tr_s (.iload 4) 2 11 [some (.ref 1099), some (.int x1), some (.int x2), some (.int x3), some (.int x4)] [.int x4, .int x3, .int x2, .int x1, .ref 1099, .ref 1099] h1 rfl rfl rfl ?_
  refine tr_call (.invokevirtual 103) 103 0 4 8 m_X9_cats [.ref 1099, .int x1, .int x2, .int x3, .int x4] [.ref 1099] (some (.int v0)) h2 rfl rfl rfl rfl rfl rfl rfl rfl rfl (tr_cok rfl (Or.inr ⟨_, _, rfl, tr_rc (hh_rd (hh_obj hL0 (k := 99) rfl).1) (by decide)⟩)) c_1 ?_
  have hL1 := c_1.2
  refine tr_call (.invokevirtual 107) 107 0 1 8 m_X9_ends [.ref 1099, .int v0] [] (some (.int v1)) h3 rfl rfl rfl rfl rfl rfl rfl rfl rfl (tr_cok rfl (Or.inr ⟨_, _, rfl, tr_rc (hh_rd (hh_obj hL1 (k := 99) rfl).1) (by decide)⟩)) c_2 ?_
  have hL2 := c_2.2
  exact tl_ret hL2 .ireturn 1 (some (.int v1)) rfl rfl rfl rfl hr
theorem sg_X9_keeps_0 {g : tr_g} {d : Nat} {h : ev_AH} {r : ev_O × ev_AH} {h1 : ev_AH} (hL : hh_L h) (c_0 : tr_L g d m_X9_copies 0 [some (.ref 1100), some (.int 0), some (.ref 1101), some (.int 0), none] [] h (.inl none, h1)) (hr : r = (.inl (none), hh_si (hh_si h1 99 8 7 0) 99 8 12 0)) : tr_L g (d + 1) m_X9_keeps 0 [some (.ref 1099)] [] h r := by
  refine tr_s (.aload_n 0) 1 1 [some (.ref 1099)] [.ref 1099] h rfl rfl rfl ?_
  refine tl_gr hL 9 99 8 0 100 [1100, 1101, 1102, 1103, 1104, 1105, 0, 0, 0, 0, 0, 0, 0, 0, 0, 0, 0, 0, 0, 0, 0, 1106, 0, 1107, 1108, 0, 0, 0] rfl rfl rfl rfl ?_
  refine tr_ic 0 0 (by decide) rfl ?_
  refine tr_s (.aload_n 0) 1 6 [some (.ref 1099)] [.ref 1099, .int 0, .ref 1100] h rfl rfl rfl ?_
  refine tl_gr hL 13 99 8 1 101 [1100, 1101, 1102, 1103, 1104, 1105, 0, 0, 0, 0, 0, 0, 0, 0, 0, 0, 0, 0, 0, 0, 0, 1106, 0, 1107, 1108, 0, 0, 0] rfl rfl rfl rfl ?_
  refine tr_ic 0 0 (by decide) rfl ?_
  refine tr_call (.invokestatic 44) 44 2 4 0 m_X9_copies [.ref 1100, .int 0, .ref 1101, .int 0] [] none h1 rfl rfl rfl rfl rfl rfl rfl rfl rfl (tr_cok rfl (Or.inl rfl)) c_0 ?_
  have hL0 := c_0.2
  refine tr_s (.aload_n 0) 1 14 [some (.ref 1099)] [.ref 1099] h1 rfl rfl rfl ?_
  refine tr_ic 0 0 (by decide) rfl ?_
  refine tl_pf hL0 41 99 8 7 [1100, 1101, 1102, 1103, 1104, 1105, 0, 0, 0, 0, 0, 0, 0, 0, 0, 0, 0, 0, 0, 0, 0, 1106, 0, 1107, 1108, 0, 0, 0] 0 .int rfl rfl rfl rfl rfl tr_oki ?_
  have hL1 := hh_L_si (sl := 7) (x := 0) hL0 (show hh_t[99]? = some (.inr (8, [1100, 1101, 1102, 1103, 1104, 1105, 0, 0, 0, 0, 0, 0, 0, 0, 0, 0, 0, 0, 0, 0, 0, 1106, 0, 1107, 1108, 0, 0, 0])) from rfl) rfl
  refine tr_s (.aload_n 0) 1 19 [some (.ref 1099)] [.ref 1099] (hh_si h1 99 8 7 0) rfl rfl rfl ?_
  refine tr_ic 0 0 (by decide) rfl ?_
  refine tl_pf hL1 48 99 8 12 [1100, 1101, 1102, 1103, 1104, 1105, 0, 0, 0, 0, 0, 0, 0, 0, 0, 0, 0, 0, 0, 0, 0, 1106, 0, 1107, 1108, 0, 0, 0] 0 .int rfl rfl rfl rfl rfl tr_oki ?_
  have hL2 := hh_L_si (sl := 12) (x := 0) hL1 (show hh_t[99]? = some (.inr (8, [1100, 1101, 1102, 1103, 1104, 1105, 0, 0, 0, 0, 0, 0, 0, 0, 0, 0, 0, 0, 0, 0, 0, 1106, 0, 1107, 1108, 0, 0, 0])) from rfl) rfl
  exact tl_ret hL2 .return_ 1 none rfl rfl rfl rfl hr
theorem sg_X9_copies_0 {g : tr_g} {d : Nat} {h : ev_AH} {r : ev_O × ev_AH} {a0 a2 : Nat} {x1 x3 : Int32} (hL : hh_L h) (k : tr_L g d m_X9_copies 3 [some (.ref (a0 + 1000)), some (.int x1), some (.ref (a2 + 1000)), some (.int x3), some (.int 0)] [] h r) : tr_L g d m_X9_copies 0 [some (.ref (a0 + 1000)), some (.int x1), some (.ref (a2 + 1000)), some (.int x3), none] [] h r := by
  refine tr_ic 0 0 (by decide) rfl ?_
  refine tr_st (.istore 4) 2 4 0 (.int 0) rfl rfl rfl rfl rfl rfl rfl ?_
  exact k
theorem sg_X9_copies_3 {g : tr_g} {d : Nat} {h : ev_AH} {r : ev_O × ev_AH} {a0 a2 : Nat} {x1 x3 x4 : Int32} (hL : hh_L h) (t : 124 ≤ x4 → tr_L g d m_X9_copies 28 [some (.ref (a0 + 1000)), some (.int x1), some (.ref (a2 + 1000)), some (.int x3), some (.int x4)] [] h r) (f : x4 < 124 → tr_L g d m_X9_copies 10 [some (.ref (a0 + 1000)), some (.int x1), some (.ref (a2 + 1000)), some (.int x3), some (.int x4)] [] h r) : tr_L g d m_X9_copies 3 [some (.ref (a0 + 1000)), some (.int x1), some (.ref (a2 + 1000)), some (.int x3), some (.int x4)] [] h r := by
  refine tr_s (.iload 4) 2 5 [some (.ref (a0 + 1000)), some (.int x1), some (.ref (a2 + 1000)), some (.int x3), some (.int x4)] [.int x4] h rfl rfl rfl ?_
  refine tr_bi 124 124 (by decide) rfl ?_
  exact tr_if2 .ge 21 28 x4 124 rfl rfl rfl (fun hc => t ((tr_ge hc).1 rfl)) (fun hc => f ((tr_ge hc).2 rfl))
theorem sg_X9_copies_10 {g : tr_g} {d : Nat} {h : ev_AH} {r : ev_O × ev_AH} {a0 a2 j0 j1 : Nat} {x1 x3 x4 : Int32} {l0 l1 : List Int32} (hL : hh_L h) (e0 : x1 + x4 = Int32.ofNat j0) (m0 : h.1[a0]? = some (.inl (0, l0))) (z0 : l0.length < 2147483648) (b0 : j0 < l0.length) (e1 : x3 + x4 = Int32.ofNat j1) (m1 : h.1[a2]? = some (.inl (0, l1))) (z1 : l1.length < 2147483648) (b1 : j1 < l1.length) (k : tr_L g d m_X9_copies 3 [some (.ref (a0 + 1000)), some (.int x1), some (.ref (a2 + 1000)), some (.int x3), some (.int (x4 + 1))] [] (ev_wr h (a2 + 1000) (.inl (0, l1.set j1 (l0.getD j0 0)))) r) : tr_L g d m_X9_copies 10 [some (.ref (a0 + 1000)), some (.int x1), some (.ref (a2 + 1000)), some (.int x3), some (.int x4)] [] h r := by
  refine tr_s (.aload_n 2) 1 11 [some (.ref (a0 + 1000)), some (.int x1), some (.ref (a2 + 1000)), some (.int x3), some (.int x4)] [.ref (a2 + 1000)] h rfl rfl rfl ?_
  refine tr_s (.iload_n 3) 1 12 [some (.ref (a0 + 1000)), some (.int x1), some (.ref (a2 + 1000)), some (.int x3), some (.int x4)] [.int x3, .ref (a2 + 1000)] h rfl rfl rfl ?_
  refine tr_s (.iload 4) 2 14 [some (.ref (a0 + 1000)), some (.int x1), some (.ref (a2 + 1000)), some (.int x3), some (.int x4)] [.int x4, .int x3, .ref (a2 + 1000)] h rfl rfl rfl ?_
  refine tr_s .iadd 1 15 [some (.ref (a0 + 1000)), some (.int x1), some (.ref (a2 + 1000)), some (.int x3), some (.int x4)] [.int (x3 + x4), .ref (a2 + 1000)] h rfl rfl rfl ?_
  refine tr_s (.aload_n 0) 1 16 [some (.ref (a0 + 1000)), some (.int x1), some (.ref (a2 + 1000)), some (.int x3), some (.int x4)] [.ref (a0 + 1000), .int (x3 + x4), .ref (a2 + 1000)] h rfl rfl rfl ?_
  refine tr_s (.iload_n 1) 1 17 [some (.ref (a0 + 1000)), some (.int x1), some (.ref (a2 + 1000)), some (.int x3), some (.int x4)] [.int x1, .ref (a0 + 1000), .int (x3 + x4), .ref (a2 + 1000)] h rfl rfl rfl ?_
  refine tr_s (.iload 4) 2 19 [some (.ref (a0 + 1000)), some (.int x1), some (.ref (a2 + 1000)), some (.int x3), some (.int x4)] [.int x4, .int x1, .ref (a0 + 1000), .int (x3 + x4), .ref (a2 + 1000)] h rfl rfl rfl ?_
  refine tr_s .iadd 1 20 [some (.ref (a0 + 1000)), some (.int x1), some (.ref (a2 + 1000)), some (.int x3), some (.int x4)] [.int (x1 + x4), .ref (a0 + 1000), .int (x3 + x4), .ref (a2 + 1000)] h rfl rfl rfl ?_
  refine tr_ald .iaload 0 _ j0 (x1 + x4) l0 (Or.inl ⟨rfl, rfl⟩) rfl (hh_rd m0) e0 b0 z0 ?_
  refine tr_ias (a2 + 1000) j1 (x3 + x4) (l0.getD j0 0) l1 rfl (by omega) (by rw [Nat.add_sub_cancel]; exact m1) e1 b1 z1 ?_
  refine tr_inc 4 1 x4 1 (by decide) rfl rfl rfl ?_
  refine tr_goto (-22) 3 rfl rfl rfl ?_
  exact k
theorem sg_X9_copies_28 {g : tr_g} {d : Nat} {h : ev_AH} {r : ev_O × ev_AH} {w0 w1 w2 w3 w4 : Option Value} (hL : hh_L h) (hr : r = (.inl (none), h)) : tr_L g d m_X9_copies 28 [w0, w1, w2, w3, w4] [] h r := by
  exact tl_ret hL .return_ 1 none rfl rfl rfl rfl hr
theorem sg_X9_cats_0 {g : tr_g} {d : Nat} {h : ev_AH} {r : ev_O × ev_AH} {x1 x2 x3 x4 v0 : Int32} {h1 : ev_AH} (hL : hh_L h) (c_0 : tr_L g d m_X9_isCell 0 [some (.int x1)] [] h (.inl (some (.int v0)), h1)) (t : v0 ≠ 0 → tr_L g (d + 1) m_X9_cats 12 [some (.ref 1099), some (.int x1), some (.int x2), some (.int x3), some (.int x4), none, none, none] [.ref 1099] h1 r) (f : v0 = 0 → tr_L g (d + 1) m_X9_cats 8 [some (.ref 1099), some (.int x1), some (.int x2), some (.int x3), some (.int x4), none, none, none] [.ref 1099] h1 r) : tr_L g (d + 1) m_X9_cats 0 [some (.ref 1099), some (.int x1), some (.int x2), some (.int x3), some (.int x4), none, none, none] [] h r := by
  refine tr_s (.aload_n 0) 1 1 [some (.ref 1099), some (.int x1), some (.int x2), some (.int x3), some (.int x4), none, none, none] [.ref 1099] h rfl rfl rfl ?_
  refine tr_s (.iload_n 1) 1 2 [some (.ref 1099), some (.int x1), some (.int x2), some (.int x3), some (.int x4), none, none, none] [.int x1, .ref 1099] h rfl rfl rfl ?_
  refine tr_call (.invokestatic 82) 82 2 1 0 m_X9_isCell [.int x1] [.ref 1099] (some (.int v0)) h1 rfl rfl rfl rfl rfl rfl rfl rfl rfl (tr_cok rfl (Or.inl rfl)) c_0 ?_
  have hL0 := c_0.2
  exact tr_if1 .ne 7 12 v0 rfl rfl rfl (fun hc => t ((tr_ne hc).1 rfl)) (fun hc => f ((tr_ne hc).2 rfl))
theorem sg_X9_cats_8 {g : tr_g} {d : Nat} {h : ev_AH} {r : ev_O × ev_AH} {x1 x2 x3 x4 v0 : Int32} {w5 w6 w7 : Option Value} {h1 : ev_AH} (hL : hh_L h) (c_0 : tr_L g d m_X9_isThrown 0 [some (.ref 1099), some (.int 1), some (.int 1)] [] h (.inl (some (.int v0)), h1)) (t : v0 ≠ 0 → tr_L g (d + 1) m_X9_cats 97 [some (.ref 1099), some (.int x1), some (.int x2), some (.int x3), some (.int x4), w5, w6, w7] [] h1 r) (f : v0 = 0 → tr_L g (d + 1) m_X9_cats 20 [some (.ref 1099), some (.int x1), some (.int x2), some (.int x3), some (.int x4), w5, w6, w7] [] h1 r) : tr_L g (d + 1) m_X9_cats 8 [some (.ref 1099), some (.int x1), some (.int x2), some (.int x3), some (.int x4), w5, w6, w7] [.ref 1099] h r := by
  refine tr_ic 1 1 (by decide) rfl ?_
  refine tr_goto 4 13 rfl rfl rfl ?_
  refine tr_ic 1 1 (by decide) rfl ?_
  refine tr_call (.invokevirtual 66) 66 0 2 8 m_X9_isThrown [.ref 1099, .int 1, .int 1] [] (some (.int v0)) h1 rfl rfl rfl rfl rfl rfl rfl rfl rfl (tr_cok rfl (Or.inr ⟨_, _, rfl, tr_rc (hh_rd (hh_obj hL (k := 99) rfl).1) (by decide)⟩)) c_0 ?_
  have hL0 := c_0.2
  exact tr_if1 .ne 80 97 v0 rfl rfl rfl (fun hc => t ((tr_ne hc).1 rfl)) (fun hc => f ((tr_ne hc).2 rfl))
theorem sg_X9_cats_12 {g : tr_g} {d : Nat} {h : ev_AH} {r : ev_O × ev_AH} {x1 x2 x3 x4 v0 : Int32} {w5 w6 w7 : Option Value} {h1 : ev_AH} (hL : hh_L h) (c_0 : tr_L g d m_X9_isThrown 0 [some (.ref 1099), some (.int 0), some (.int 1)] [] h (.inl (some (.int v0)), h1)) (t : v0 ≠ 0 → tr_L g (d + 1) m_X9_cats 97 [some (.ref 1099), some (.int x1), some (.int x2), some (.int x3), some (.int x4), w5, w6, w7] [] h1 r) (f : v0 = 0 → tr_L g (d + 1) m_X9_cats 20 [some (.ref 1099), some (.int x1), some (.int x2), some (.int x3), some (.int x4), w5, w6, w7] [] h1 r) : tr_L g (d + 1) m_X9_cats 12 [some (.ref 1099), some (.int x1), some (.int x2), some (.int x3), some (.int x4), w5, w6, w7] [.ref 1099] h r := by
  refine tr_ic 0 0 (by decide) rfl ?_
  refine tr_ic 1 1 (by decide) rfl ?_
  refine tr_call (.invokevirtual 66) 66 0 2 8 m_X9_isThrown [.ref 1099, .int 0, .int 1] [] (some (.int v0)) h1 rfl rfl rfl rfl rfl rfl rfl rfl rfl (tr_cok rfl (Or.inr ⟨_, _, rfl, tr_rc (hh_rd (hh_obj hL (k := 99) rfl).1) (by decide)⟩)) c_0 ?_
  have hL0 := c_0.2
  exact tr_if1 .ne 80 97 v0 rfl rfl rfl (fun hc => t ((tr_ne hc).1 rfl)) (fun hc => f ((tr_ne hc).2 rfl))
theorem sg_X9_cats_20 {g : tr_g} {d : Nat} {h : ev_AH} {r : ev_O × ev_AH} {x1 x2 x3 x4 v0 : Int32} {w5 w6 w7 : Option Value} {h1 : ev_AH} (hL : hh_L h) (c_0 : tr_L g d m_X9_areThree 0 [some (.int x2), some (.int x3), some (.int x4)] [] h (.inl (some (.int v0)), h1)) (t : v0 ≠ 0 → tr_L g (d + 1) m_X9_cats 35 [some (.ref 1099), some (.int x1), some (.int x2), some (.int x3), some (.int x4), w5, w6, w7] [.ref 1099] h1 r) (f : v0 = 0 → tr_L g (d + 1) m_X9_cats 31 [some (.ref 1099), some (.int x1), some (.int x2), some (.int x3), some (.int x4), w5, w6, w7] [.ref 1099] h1 r) : tr_L g (d + 1) m_X9_cats 20 [some (.ref 1099), some (.int x1), some (.int x2), some (.int x3), some (.int x4), w5, w6, w7] [] h r := by
  refine tr_s (.aload_n 0) 1 21 [some (.ref 1099), some (.int x1), some (.int x2), some (.int x3), some (.int x4), w5, w6, w7] [.ref 1099] h rfl rfl rfl ?_
  refine tr_s (.iload_n 2) 1 22 [some (.ref 1099), some (.int x1), some (.int x2), some (.int x3), some (.int x4), w5, w6, w7] [.int x2, .ref 1099] h rfl rfl rfl ?_
  refine tr_s (.iload_n 3) 1 23 [some (.ref 1099), some (.int x1), some (.int x2), some (.int x3), some (.int x4), w5, w6, w7] [.int x3, .int x2, .ref 1099] h rfl rfl rfl ?_
  refine tr_s (.iload 4) 2 25 [some (.ref 1099), some (.int x1), some (.int x2), some (.int x3), some (.int x4), w5, w6, w7] [.int x4, .int x3, .int x2, .ref 1099] h rfl rfl rfl ?_
  refine tr_call (.invokestatic 85) 85 2 3 0 m_X9_areThree [.int x2, .int x3, .int x4] [.ref 1099] (some (.int v0)) h1 rfl rfl rfl rfl rfl rfl rfl rfl rfl (tr_cok rfl (Or.inl rfl)) c_0 ?_
  have hL0 := c_0.2
  exact tr_if1 .ne 7 35 v0 rfl rfl rfl (fun hc => t ((tr_ne hc).1 rfl)) (fun hc => f ((tr_ne hc).2 rfl))
theorem sg_X9_cats_31 {g : tr_g} {d : Nat} {h : ev_AH} {r : ev_O × ev_AH} {x1 x2 x3 x4 v0 : Int32} {w5 w6 w7 : Option Value} {h1 : ev_AH} (hL : hh_L h) (c_0 : tr_L g d m_X9_isThrown 0 [some (.ref 1099), some (.int 1), some (.int 2)] [] h (.inl (some (.int v0)), h1)) (t : v0 ≠ 0 → tr_L g (d + 1) m_X9_cats 97 [some (.ref 1099), some (.int x1), some (.int x2), some (.int x3), some (.int x4), w5, w6, w7] [] h1 r) (f : v0 = 0 → tr_L g (d + 1) m_X9_cats 43 [some (.ref 1099), some (.int x1), some (.int x2), some (.int x3), some (.int x4), w5, w6, w7] [] h1 r) : tr_L g (d + 1) m_X9_cats 31 [some (.ref 1099), some (.int x1), some (.int x2), some (.int x3), some (.int x4), w5, w6, w7] [.ref 1099] h r := by
  refine tr_ic 1 1 (by decide) rfl ?_
  refine tr_goto 4 36 rfl rfl rfl ?_
  refine tr_ic 2 2 (by decide) rfl ?_
  refine tr_call (.invokevirtual 66) 66 0 2 8 m_X9_isThrown [.ref 1099, .int 1, .int 2] [] (some (.int v0)) h1 rfl rfl rfl rfl rfl rfl rfl rfl rfl (tr_cok rfl (Or.inr ⟨_, _, rfl, tr_rc (hh_rd (hh_obj hL (k := 99) rfl).1) (by decide)⟩)) c_0 ?_
  have hL0 := c_0.2
  exact tr_if1 .ne 57 97 v0 rfl rfl rfl (fun hc => t ((tr_ne hc).1 rfl)) (fun hc => f ((tr_ne hc).2 rfl))
theorem sg_X9_cats_35 {g : tr_g} {d : Nat} {h : ev_AH} {r : ev_O × ev_AH} {x1 x2 x3 x4 v0 : Int32} {w5 w6 w7 : Option Value} {h1 : ev_AH} (hL : hh_L h) (c_0 : tr_L g d m_X9_isThrown 0 [some (.ref 1099), some (.int 0), some (.int 2)] [] h (.inl (some (.int v0)), h1)) (t : v0 ≠ 0 → tr_L g (d + 1) m_X9_cats 97 [some (.ref 1099), some (.int x1), some (.int x2), some (.int x3), some (.int x4), w5, w6, w7] [] h1 r) (f : v0 = 0 → tr_L g (d + 1) m_X9_cats 43 [some (.ref 1099), some (.int x1), some (.int x2), some (.int x3), some (.int x4), w5, w6, w7] [] h1 r) : tr_L g (d + 1) m_X9_cats 35 [some (.ref 1099), some (.int x1), some (.int x2), some (.int x3), some (.int x4), w5, w6, w7] [.ref 1099] h r := by
  refine tr_ic 0 0 (by decide) rfl ?_
  refine tr_ic 2 2 (by decide) rfl ?_
  refine tr_call (.invokevirtual 66) 66 0 2 8 m_X9_isThrown [.ref 1099, .int 0, .int 2] [] (some (.int v0)) h1 rfl rfl rfl rfl rfl rfl rfl rfl rfl (tr_cok rfl (Or.inr ⟨_, _, rfl, tr_rc (hh_rd (hh_obj hL (k := 99) rfl).1) (by decide)⟩)) c_0 ?_
  have hL0 := c_0.2
  exact tr_if1 .ne 57 97 v0 rfl rfl rfl (fun hc => t ((tr_ne hc).1 rfl)) (fun hc => f ((tr_ne hc).2 rfl))
theorem sg_X9_cats_43 {g : tr_g} {d : Nat} {h : ev_AH} {r : ev_O × ev_AH} {x1 x2 x3 x4 : Int32} {w5 w6 w7 : Option Value} {j0 : Nat} (hL : hh_L h) (e0 : 1 = Int32.ofNat j0) (b0 : j0 < 124) (t : ((hh_a h 100).getD j0 0) ≠ 7 → tr_L g d m_X9_cats 59 [some (.ref 1099), some (.int x1), some (.int x2), some (.int x3), some (.int x4), w5, w6, w7] [.ref 1099] h r) (f : ((hh_a h 100).getD j0 0) = 7 → tr_L g d m_X9_cats 55 [some (.ref 1099), some (.int x1), some (.int x2), some (.int x3), some (.int x4), w5, w6, w7] [.ref 1099] h r) : tr_L g d m_X9_cats 43 [some (.ref 1099), some (.int x1), some (.int x2), some (.int x3), some (.int x4), w5, w6, w7] [] h r := by
  refine tr_s (.aload_n 0) 1 44 [some (.ref 1099), some (.int x1), some (.int x2), some (.int x3), some (.int x4), w5, w6, w7] [.ref 1099] h rfl rfl rfl ?_
  refine tr_s (.aload_n 0) 1 45 [some (.ref 1099), some (.int x1), some (.int x2), some (.int x3), some (.int x4), w5, w6, w7] [.ref 1099, .ref 1099] h rfl rfl rfl ?_
  refine tl_gr hL 9 99 8 0 100 [1100, 1101, 1102, 1103, 1104, 1105, 0, 0, 0, 0, 0, 0, 0, 0, 0, 0, 0, 0, 0, 0, 0, 1106, 0, 1107, 1108, 0, 0, 0] rfl rfl rfl rfl ?_
  refine tr_ic 1 1 (by decide) rfl ?_
  refine tl_ald hL .iaload 100 0 124 j0 1 rfl (by decide) rfl e0 b0 (by decide) ?_
  refine tr_bi 7 7 (by decide) rfl ?_
  exact tr_if2 .ne 7 59 ((hh_a h 100).getD j0 0) 7 rfl rfl rfl (fun hc => t ((tr_ne hc).1 rfl)) (fun hc => f ((tr_ne hc).2 rfl))
theorem sg_X9_cats_55 {g : tr_g} {d : Nat} {h : ev_AH} {r : ev_O × ev_AH} {x1 x2 x3 x4 v0 : Int32} {w5 w6 w7 : Option Value} {h1 : ev_AH} (hL : hh_L h) (c_0 : tr_L g d m_X9_isRejected 0 [some (.ref 1099), some (.int 1), some (.int 1), some (.int 7), some (.int 3)] [] h (.inl (some (.int v0)), h1)) (t : v0 ≠ 0 → tr_L g (d + 1) m_X9_cats 97 [some (.ref 1099), some (.int x1), some (.int x2), some (.int x3), some (.int x4), w5, w6, w7] [] h1 r) (f : v0 = 0 → tr_L g (d + 1) m_X9_cats 70 [some (.ref 1099), some (.int x1), some (.int x2), some (.int x3), some (.int x4), w5, w6, w7] [] h1 r) : tr_L g (d + 1) m_X9_cats 55 [some (.ref 1099), some (.int x1), some (.int x2), some (.int x3), some (.int x4), w5, w6, w7] [.ref 1099] h r := by
  refine tr_ic 1 1 (by decide) rfl ?_
  refine tr_goto 4 60 rfl rfl rfl ?_
  refine tr_ic 1 1 (by decide) rfl ?_
  refine tr_bi 7 7 (by decide) rfl ?_
  refine tr_ic 3 3 (by decide) rfl ?_
  refine tr_call (.invokevirtual 88) 88 0 4 8 m_X9_isRejected [.ref 1099, .int 1, .int 1, .int 7, .int 3] [] (some (.int v0)) h1 rfl rfl rfl rfl rfl rfl rfl rfl rfl (tr_cok rfl (Or.inr ⟨_, _, rfl, tr_rc (hh_rd (hh_obj hL (k := 99) rfl).1) (by decide)⟩)) c_0 ?_
  have hL0 := c_0.2
  exact tr_if1 .ne 30 97 v0 rfl rfl rfl (fun hc => t ((tr_ne hc).1 rfl)) (fun hc => f ((tr_ne hc).2 rfl))
theorem sg_X9_cats_59 {g : tr_g} {d : Nat} {h : ev_AH} {r : ev_O × ev_AH} {x1 x2 x3 x4 v0 : Int32} {w5 w6 w7 : Option Value} {h1 : ev_AH} (hL : hh_L h) (c_0 : tr_L g d m_X9_isRejected 0 [some (.ref 1099), some (.int 0), some (.int 1), some (.int 7), some (.int 3)] [] h (.inl (some (.int v0)), h1)) (t : v0 ≠ 0 → tr_L g (d + 1) m_X9_cats 97 [some (.ref 1099), some (.int x1), some (.int x2), some (.int x3), some (.int x4), w5, w6, w7] [] h1 r) (f : v0 = 0 → tr_L g (d + 1) m_X9_cats 70 [some (.ref 1099), some (.int x1), some (.int x2), some (.int x3), some (.int x4), w5, w6, w7] [] h1 r) : tr_L g (d + 1) m_X9_cats 59 [some (.ref 1099), some (.int x1), some (.int x2), some (.int x3), some (.int x4), w5, w6, w7] [.ref 1099] h r := by
  refine tr_ic 0 0 (by decide) rfl ?_
  refine tr_ic 1 1 (by decide) rfl ?_
  refine tr_bi 7 7 (by decide) rfl ?_
  refine tr_ic 3 3 (by decide) rfl ?_
  refine tr_call (.invokevirtual 88) 88 0 4 8 m_X9_isRejected [.ref 1099, .int 0, .int 1, .int 7, .int 3] [] (some (.int v0)) h1 rfl rfl rfl rfl rfl rfl rfl rfl rfl (tr_cok rfl (Or.inr ⟨_, _, rfl, tr_rc (hh_rd (hh_obj hL (k := 99) rfl).1) (by decide)⟩)) c_0 ?_
  have hL0 := c_0.2
  exact tr_if1 .ne 30 97 v0 rfl rfl rfl (fun hc => t ((tr_ne hc).1 rfl)) (fun hc => f ((tr_ne hc).2 rfl))
theorem sg_X9_cats_70 {g : tr_g} {d : Nat} {h : ev_AH} {r : ev_O × ev_AH} {x1 x2 x3 x4 v0 : Int32} {w5 w6 w7 : Option Value} {h1 : ev_AH} (hL : hh_L h) (c_0 : tr_L g d m_X9_catOn 0 [some (.ref 1099), some (.int x1), none] [] h (.inl (some (.int v0)), h1)) (t : v0 < 0 → tr_L g (d + 1) m_X9_cats 83 [some (.ref 1099), some (.int x1), some (.int x2), some (.int x3), some (.int x4), w5, w6, w7] [.ref 1099] h1 r) (f : 0 ≤ v0 → tr_L g (d + 1) m_X9_cats 79 [some (.ref 1099), some (.int x1), some (.int x2), some (.int x3), some (.int x4), w5, w6, w7] [.ref 1099] h1 r) : tr_L g (d + 1) m_X9_cats 70 [some (.ref 1099), some (.int x1), some (.int x2), some (.int x3), some (.int x4), w5, w6, w7] [] h r := by
  refine tr_s (.aload_n 0) 1 71 [some (.ref 1099), some (.int x1), some (.int x2), some (.int x3), some (.int x4), w5, w6, w7] [.ref 1099] h rfl rfl rfl ?_
  refine tr_s (.aload_n 0) 1 72 [some (.ref 1099), some (.int x1), some (.int x2), some (.int x3), some (.int x4), w5, w6, w7] [.ref 1099, .ref 1099] h rfl rfl rfl ?_
  refine tr_s (.iload_n 1) 1 73 [some (.ref 1099), some (.int x1), some (.int x2), some (.int x3), some (.int x4), w5, w6, w7] [.int x1, .ref 1099, .ref 1099] h rfl rfl rfl ?_
  refine tr_call (.invokevirtual 92) 92 0 1 8 m_X9_catOn [.ref 1099, .int x1] [.ref 1099] (some (.int v0)) h1 rfl rfl rfl rfl rfl rfl rfl rfl rfl (tr_cok rfl (Or.inr ⟨_, _, rfl, tr_rc (hh_rd (hh_obj hL (k := 99) rfl).1) (by decide)⟩)) c_0 ?_
  have hL0 := c_0.2
  exact tr_if1 .lt 7 83 v0 rfl rfl rfl (fun hc => t ((tr_lt hc).1 rfl)) (fun hc => f ((tr_lt hc).2 rfl))
theorem sg_X9_cats_79 {g : tr_g} {d : Nat} {h : ev_AH} {r : ev_O × ev_AH} {x1 x2 x3 x4 v0 v1 : Int32} {w5 w6 w7 : Option Value} {h1 h2 : ev_AH} (hL : hh_L h) (c_0 : tr_L g d m_X9_catOn 0 [some (.ref 1099), some (.int x1), none] [] h (.inl (some (.int v0)), h1)) (c_1 : tr_L g d m_X9_isRejected 0 [some (.ref 1099), some (.int 1), some (.int 2), some (.int v0), some (.int 3)] [] h1 (.inl (some (.int v1)), h2)) (t : v1 = 0 → tr_L g (d + 1) m_X9_cats 99 [some (.ref 1099), some (.int x1), some (.int x2), some (.int x3), some (.int x4), w5, w6, w7] [] h2 r) (f : v1 ≠ 0 → tr_L g (d + 1) m_X9_cats 97 [some (.ref 1099), some (.int x1), some (.int x2), some (.int x3), some (.int x4), w5, w6, w7] [] h2 r) : tr_L g (d + 1) m_X9_cats 79 [some (.ref 1099), some (.int x1), some (.int x2), some (.int x3), some (.int x4), w5, w6, w7] [.ref 1099] h r := by
  refine tr_ic 1 1 (by decide) rfl ?_
  refine tr_goto 4 84 rfl rfl rfl ?_
  refine tr_ic 2 2 (by decide) rfl ?_
  refine tr_s (.aload_n 0) 1 86 [some (.ref 1099), some (.int x1), some (.int x2), some (.int x3), some (.int x4), w5, w6, w7] [.ref 1099, .int 2, .int 1, .ref 1099] h rfl rfl rfl ?_
  refine tr_s (.iload_n 1) 1 87 [some (.ref 1099), some (.int x1), some (.int x2), some (.int x3), some (.int x4), w5, w6, w7] [.int x1, .ref 1099, .int 2, .int 1, .ref 1099] h rfl rfl rfl ?_
  refine tr_call (.invokevirtual 92) 92 0 1 8 m_X9_catOn [.ref 1099, .int x1] [.int 2, .int 1, .ref 1099] (some (.int v0)) h1 rfl rfl rfl rfl rfl rfl rfl rfl rfl (tr_cok rfl (Or.inr ⟨_, _, rfl, tr_rc (hh_rd (hh_obj hL (k := 99) rfl).1) (by decide)⟩)) c_0 ?_
  have hL0 := c_0.2
  refine tr_ic 3 3 (by decide) rfl ?_
  refine tr_call (.invokevirtual 88) 88 0 4 8 m_X9_isRejected [.ref 1099, .int 1, .int 2, .int v0, .int 3] [] (some (.int v1)) h2 rfl rfl rfl rfl rfl rfl rfl rfl rfl (tr_cok rfl (Or.inr ⟨_, _, rfl, tr_rc (hh_rd (hh_obj hL0 (k := 99) rfl).1) (by decide)⟩)) c_1 ?_
  have hL1 := c_1.2
  exact tr_if1 .eq 5 99 v1 rfl rfl rfl (fun hc => t ((tr_eq hc).1 rfl)) (fun hc => f ((tr_eq hc).2 rfl))
theorem sg_X9_cats_83 {g : tr_g} {d : Nat} {h : ev_AH} {r : ev_O × ev_AH} {x1 x2 x3 x4 v0 v1 : Int32} {w5 w6 w7 : Option Value} {h1 h2 : ev_AH} (hL : hh_L h) (c_0 : tr_L g d m_X9_catOn 0 [some (.ref 1099), some (.int x1), none] [] h (.inl (some (.int v0)), h1)) (c_1 : tr_L g d m_X9_isRejected 0 [some (.ref 1099), some (.int 0), some (.int 2), some (.int v0), some (.int 3)] [] h1 (.inl (some (.int v1)), h2)) (t : v1 = 0 → tr_L g (d + 1) m_X9_cats 99 [some (.ref 1099), some (.int x1), some (.int x2), some (.int x3), some (.int x4), w5, w6, w7] [] h2 r) (f : v1 ≠ 0 → tr_L g (d + 1) m_X9_cats 97 [some (.ref 1099), some (.int x1), some (.int x2), some (.int x3), some (.int x4), w5, w6, w7] [] h2 r) : tr_L g (d + 1) m_X9_cats 83 [some (.ref 1099), some (.int x1), some (.int x2), some (.int x3), some (.int x4), w5, w6, w7] [.ref 1099] h r := by
  refine tr_ic 0 0 (by decide) rfl ?_
  refine tr_ic 2 2 (by decide) rfl ?_
  refine tr_s (.aload_n 0) 1 86 [some (.ref 1099), some (.int x1), some (.int x2), some (.int x3), some (.int x4), w5, w6, w7] [.ref 1099, .int 2, .int 0, .ref 1099] h rfl rfl rfl ?_
  refine tr_s (.iload_n 1) 1 87 [some (.ref 1099), some (.int x1), some (.int x2), some (.int x3), some (.int x4), w5, w6, w7] [.int x1, .ref 1099, .int 2, .int 0, .ref 1099] h rfl rfl rfl ?_
  refine tr_call (.invokevirtual 92) 92 0 1 8 m_X9_catOn [.ref 1099, .int x1] [.int 2, .int 0, .ref 1099] (some (.int v0)) h1 rfl rfl rfl rfl rfl rfl rfl rfl rfl (tr_cok rfl (Or.inr ⟨_, _, rfl, tr_rc (hh_rd (hh_obj hL (k := 99) rfl).1) (by decide)⟩)) c_0 ?_
  have hL0 := c_0.2
  refine tr_ic 3 3 (by decide) rfl ?_
  refine tr_call (.invokevirtual 88) 88 0 4 8 m_X9_isRejected [.ref 1099, .int 0, .int 2, .int v0, .int 3] [] (some (.int v1)) h2 rfl rfl rfl rfl rfl rfl rfl rfl rfl (tr_cok rfl (Or.inr ⟨_, _, rfl, tr_rc (hh_rd (hh_obj hL0 (k := 99) rfl).1) (by decide)⟩)) c_1 ?_
  have hL1 := c_1.2
  exact tr_if1 .eq 5 99 v1 rfl rfl rfl (fun hc => t ((tr_eq hc).1 rfl)) (fun hc => f ((tr_eq hc).2 rfl))
theorem sg_X9_cats_97 {g : tr_g} {d : Nat} {h : ev_AH} {r : ev_O × ev_AH} {w0 w1 w2 w3 w4 w5 w6 w7 : Option Value} (hL : hh_L h) (hr : r = (.inl (some (.int 0)), h)) : tr_L g d m_X9_cats 97 [w0, w1, w2, w3, w4, w5, w6, w7] [] h r := by
  refine tr_ic 0 0 (by decide) rfl ?_
  exact tl_ret hL .ireturn 1 (some (.int 0)) rfl rfl rfl rfl hr
theorem sg_X9_cats_99 {g : tr_g} {d : Nat} {h : ev_AH} {r : ev_O × ev_AH} {x1 x2 x3 x4 : Int32} {w5 w6 w7 : Option Value} {j0 : Nat} {h1 h2 : ev_AH} (hL : hh_L h) (e0 : 1 = Int32.ofNat j0) (b0 : j0 < 124) (c_0 : tr_L g d m_X9_sets 0 [some (.ref 1099), some (.int ((hh_a h 100).getD j0 0)), some (.int 0), some (.int x1)] [] h (.inl none, h1)) (c_1 : tr_L g d m_X9_sets 0 [some (.ref 1099), some (.int ((hh_a h 100).getD j0 0)), some (.int 1), some (.int 0)] [] h1 (.inl none, h2)) (k : tr_L g (d + 1) m_X9_cats 126 [some (.ref 1099), some (.int x1), some (.int x2), some (.int x3), some (.int x4), some (.int ((hh_a h 100).getD j0 0)), some (.int 0), w7] [] h2 r) : tr_L g (d + 1) m_X9_cats 99 [some (.ref 1099), some (.int x1), some (.int x2), some (.int x3), some (.int x4), w5, w6, w7] [] h r := by
  refine tr_s (.aload_n 0) 1 100 [some (.ref 1099), some (.int x1), some (.int x2), some (.int x3), some (.int x4), w5, w6, w7] [.ref 1099] h rfl rfl rfl ?_
  refine tl_gr hL 9 99 8 0 100 [1100, 1101, 1102, 1103, 1104, 1105, 0, 0, 0, 0, 0, 0, 0, 0, 0, 0, 0, 0, 0, 0, 0, 1106, 0, 1107, 1108, 0, 0, 0] rfl rfl rfl rfl ?_
  refine tr_ic 1 1 (by decide) rfl ?_
  refine tl_ald hL .iaload 100 0 124 j0 1 rfl (by decide) rfl e0 b0 (by decide) ?_
  refine tr_st (.istore 5) 2 5 0 (.int ((hh_a h 100).getD j0 0)) rfl rfl rfl rfl rfl rfl rfl ?_
  refine tr_s (.aload_n 0) 1 108 [some (.ref 1099), some (.int x1), some (.int x2), some (.int x3), some (.int x4), some (.int ((hh_a h 100).getD j0 0)), w6, w7] [.ref 1099] h rfl rfl rfl ?_
  refine tr_s (.iload 5) 2 110 [some (.ref 1099), some (.int x1), some (.int x2), some (.int x3), some (.int x4), some (.int ((hh_a h 100).getD j0 0)), w6, w7] [.int ((hh_a h 100).getD j0 0), .ref 1099] h rfl rfl rfl ?_
  refine tr_ic 0 0 (by decide) rfl ?_
  refine tr_s (.iload_n 1) 1 112 [some (.ref 1099), some (.int x1), some (.int x2), some (.int x3), some (.int x4), some (.int ((hh_a h 100).getD j0 0)), w6, w7] [.int x1, .int 0, .int ((hh_a h 100).getD j0 0), .ref 1099] h rfl rfl rfl ?_
  refine tr_call (.invokevirtual 96) 96 0 3 8 m_X9_sets [.ref 1099, .int ((hh_a h 100).getD j0 0), .int 0, .int x1] [] none h1 rfl rfl rfl rfl rfl rfl rfl rfl rfl (tr_cok rfl (Or.inr ⟨_, _, rfl, tr_rc (hh_rd (hh_obj hL (k := 99) rfl).1) (by decide)⟩)) c_0 ?_
  have hL0 := c_0.2
  refine tr_s (.aload_n 0) 1 116 [some (.ref 1099), some (.int x1), some (.int x2), some (.int x3), some (.int x4), some (.int ((hh_a h 100).getD j0 0)), w6, w7] [.ref 1099] h1 rfl rfl rfl ?_
  refine tr_s (.iload 5) 2 118 [some (.ref 1099), some (.int x1), some (.int x2), some (.int x3), some (.int x4), some (.int ((hh_a h 100).getD j0 0)), w6, w7] [.int ((hh_a h 100).getD j0 0), .ref 1099] h1 rfl rfl rfl ?_
  refine tr_ic 1 1 (by decide) rfl ?_
  refine tr_ic 0 0 (by decide) rfl ?_
  refine tr_call (.invokevirtual 96) 96 0 3 8 m_X9_sets [.ref 1099, .int ((hh_a h 100).getD j0 0), .int 1, .int 0] [] none h2 rfl rfl rfl rfl rfl rfl rfl rfl rfl (tr_cok rfl (Or.inr ⟨_, _, rfl, tr_rc (hh_rd (hh_obj hL0 (k := 99) rfl).1) (by decide)⟩)) c_1 ?_
  have hL1 := c_1.2
  refine tr_ic 0 0 (by decide) rfl ?_
  refine tr_st (.istore 6) 2 6 0 (.int 0) rfl rfl rfl rfl rfl rfl rfl ?_
  exact k
theorem sg_X9_cats_126 {g : tr_g} {d : Nat} {h : ev_AH} {r : ev_O × ev_AH} {x1 x2 x3 x4 x5 x6 : Int32} {w7 : Option Value} (hL : hh_L h) (t : 2 ≤ x6 → tr_L g d m_X9_cats 220 [some (.ref 1099), some (.int x1), some (.int x2), some (.int x3), some (.int x4), some (.int x5), some (.int x6), w7] [] h r) (f : x6 < 2 → tr_L g d m_X9_cats 132 [some (.ref 1099), some (.int x1), some (.int x2), some (.int x3), some (.int x4), some (.int x5), some (.int x6), w7] [] h r) : tr_L g d m_X9_cats 126 [some (.ref 1099), some (.int x1), some (.int x2), some (.int x3), some (.int x4), some (.int x5), some (.int x6), w7] [] h r := by
  refine tr_s (.iload 6) 2 128 [some (.ref 1099), some (.int x1), some (.int x2), some (.int x3), some (.int x4), some (.int x5), some (.int x6), w7] [.int x6] h rfl rfl rfl ?_
  refine tr_ic 2 2 (by decide) rfl ?_
  exact tr_if2 .ge 91 220 x6 2 rfl rfl rfl (fun hc => t ((tr_ge hc).1 rfl)) (fun hc => f ((tr_ge hc).2 rfl))
theorem sg_X9_cats_132 {g : tr_g} {d : Nat} {h : ev_AH} {r : ev_O × ev_AH} {x1 x2 x3 x4 x5 x6 : Int32} {w7 : Option Value} (hL : hh_L h) (t : x6 ≠ 0 → tr_L g d m_X9_cats 141 [some (.ref 1099), some (.int x1), some (.int x2), some (.int x3), some (.int x4), some (.int x5), some (.int x6), w7] [] h r) (f : x6 = 0 → tr_L g d m_X9_cats 137 [some (.ref 1099), some (.int x1), some (.int x2), some (.int x3), some (.int x4), some (.int x5), some (.int x6), w7] [] h r) : tr_L g d m_X9_cats 132 [some (.ref 1099), some (.int x1), some (.int x2), some (.int x3), some (.int x4), some (.int x5), some (.int x6), w7] [] h r := by
  refine tr_s (.iload 6) 2 134 [some (.ref 1099), some (.int x1), some (.int x2), some (.int x3), some (.int x4), some (.int x5), some (.int x6), w7] [.int x6] h rfl rfl rfl ?_
  exact tr_if1 .ne 7 141 x6 rfl rfl rfl (fun hc => t ((tr_ne hc).1 rfl)) (fun hc => f ((tr_ne hc).2 rfl))
theorem sg_X9_cats_137 {g : tr_g} {d : Nat} {h : ev_AH} {r : ev_O × ev_AH} {x1 x2 x3 x4 x5 x6 : Int32} {w7 : Option Value} {h1 h2 h3 h4 : ev_AH} (hL : hh_L h) (c_0 : tr_L g d m_X9_sets 0 [some (.ref 1099), some (.int x5), some (.int 2), some (.int (x2 - 97))] [] h (.inl none, h1)) (c_1 : tr_L g d m_X9_sets 0 [some (.ref 1099), some (.int x5), some (.int (2 + 1)), some (.int (x3 - 97))] [] h1 (.inl none, h2)) (c_2 : tr_L g d m_X9_sets 0 [some (.ref 1099), some (.int x5), some (.int (2 + 2)), some (.int (x4 - 97))] [] h2 (.inl none, h3)) (c_3 : tr_L g d m_X9_sets 0 [some (.ref 1099), some (.int x5), some (.int (2 + 3)), some (.int (((6 - (x2 - 97)) - (x3 - 97)) - (x4 - 97)))] [] h3 (.inl none, h4)) (k : tr_L g (d + 1) m_X9_cats 126 [some (.ref 1099), some (.int x1), some (.int x2), some (.int x3), some (.int x4), some (.int x5), some (.int (x6 + 1)), some (.int 2)] [] h4 r) : tr_L g (d + 1) m_X9_cats 137 [some (.ref 1099), some (.int x1), some (.int x2), some (.int x3), some (.int x4), some (.int x5), some (.int x6), w7] [] h r := by
  refine tr_ic 2 2 (by decide) rfl ?_
  refine tr_goto 5 143 rfl rfl rfl ?_
  refine tr_st (.istore 7) 2 7 0 (.int 2) rfl rfl rfl rfl rfl rfl rfl ?_
  refine tr_s (.aload_n 0) 1 146 [some (.ref 1099), some (.int x1), some (.int x2), some (.int x3), some (.int x4), some (.int x5), some (.int x6), some (.int 2)] [.ref 1099] h rfl rfl rfl ?_
  refine tr_s (.iload 5) 2 148 [some (.ref 1099), some (.int x1), some (.int x2), some (.int x3), some (.int x4), some (.int x5), some (.int x6), some (.int 2)] [.int x5, .ref 1099] h rfl rfl rfl ?_
  refine tr_s (.iload 7) 2 150 [some (.ref 1099), some (.int x1), some (.int x2), some (.int x3), some (.int x4), some (.int x5), some (.int x6), some (.int 2)] [.int 2, .int x5, .ref 1099] h rfl rfl rfl ?_
  refine tr_s (.iload_n 2) 1 151 [some (.ref 1099), some (.int x1), some (.int x2), some (.int x3), some (.int x4), some (.int x5), some (.int x6), some (.int 2)] [.int x2, .int 2, .int x5, .ref 1099] h rfl rfl rfl ?_
  refine tr_bi 97 97 (by decide) rfl ?_
  refine tr_s .isub 1 154 [some (.ref 1099), some (.int x1), some (.int x2), some (.int x3), some (.int x4), some (.int x5), some (.int x6), some (.int 2)] [.int (x2 - 97), .int 2, .int x5, .ref 1099] h rfl rfl rfl ?_
  refine tr_call (.invokevirtual 96) 96 0 3 8 m_X9_sets [.ref 1099, .int x5, .int 2, .int (x2 - 97)] [] none h1 rfl rfl rfl rfl rfl rfl rfl rfl rfl (tr_cok rfl (Or.inr ⟨_, _, rfl, tr_rc (hh_rd (hh_obj hL (k := 99) rfl).1) (by decide)⟩)) c_0 ?_
  have hL0 := c_0.2
  refine tr_s (.aload_n 0) 1 158 [some (.ref 1099), some (.int x1), some (.int x2), some (.int x3), some (.int x4), some (.int x5), some (.int x6), some (.int 2)] [.ref 1099] h1 rfl rfl rfl ?_
  refine tr_s (.iload 5) 2 160 [some (.ref 1099), some (.int x1), some (.int x2), some (.int x3), some (.int x4), some (.int x5), some (.int x6), some (.int 2)] [.int x5, .ref 1099] h1 rfl rfl rfl ?_
  refine tr_s (.iload 7) 2 162 [some (.ref 1099), some (.int x1), some (.int x2), some (.int x3), some (.int x4), some (.int x5), some (.int x6), some (.int 2)] [.int 2, .int x5, .ref 1099] h1 rfl rfl rfl ?_
  refine tr_ic 1 1 (by decide) rfl ?_
  refine tr_s .iadd 1 164 [some (.ref 1099), some (.int x1), some (.int x2), some (.int x3), some (.int x4), some (.int x5), some (.int x6), some (.int 2)] [.int (2 + 1), .int x5, .ref 1099] h1 rfl rfl rfl ?_
  refine tr_s (.iload_n 3) 1 165 [some (.ref 1099), some (.int x1), some (.int x2), some (.int x3), some (.int x4), some (.int x5), some (.int x6), some (.int 2)] [.int x3, .int (2 + 1), .int x5, .ref 1099] h1 rfl rfl rfl ?_
  refine tr_bi 97 97 (by decide) rfl ?_
  refine tr_s .isub 1 168 [some (.ref 1099), some (.int x1), some (.int x2), some (.int x3), some (.int x4), some (.int x5), some (.int x6), some (.int 2)] [.int (x3 - 97), .int (2 + 1), .int x5, .ref 1099] h1 rfl rfl rfl ?_
  refine tr_call (.invokevirtual 96) 96 0 3 8 m_X9_sets [.ref 1099, .int x5, .int (2 + 1), .int (x3 - 97)] [] none h2 rfl rfl rfl rfl rfl rfl rfl rfl rfl (tr_cok rfl (Or.inr ⟨_, _, rfl, tr_rc (hh_rd (hh_obj hL0 (k := 99) rfl).1) (by decide)⟩)) c_1 ?_
  have hL1 := c_1.2
  refine tr_s (.aload_n 0) 1 172 [some (.ref 1099), some (.int x1), some (.int x2), some (.int x3), some (.int x4), some (.int x5), some (.int x6), some (.int 2)] [.ref 1099] h2 rfl rfl rfl ?_
  refine tr_s (.iload 5) 2 174 [some (.ref 1099), some (.int x1), some (.int x2), some (.int x3), some (.int x4), some (.int x5), some (.int x6), some (.int 2)] [.int x5, .ref 1099] h2 rfl rfl rfl ?_
  refine tr_s (.iload 7) 2 176 [some (.ref 1099), some (.int x1), some (.int x2), some (.int x3), some (.int x4), some (.int x5), some (.int x6), some (.int 2)] [.int 2, .int x5, .ref 1099] h2 rfl rfl rfl ?_
  refine tr_ic 2 2 (by decide) rfl ?_
  refine tr_s .iadd 1 178 [some (.ref 1099), some (.int x1), some (.int x2), some (.int x3), some (.int x4), some (.int x5), some (.int x6), some (.int 2)] [.int (2 + 2), .int x5, .ref 1099] h2 rfl rfl rfl ?_
  refine tr_s (.iload 4) 2 180 [some (.ref 1099), some (.int x1), some (.int x2), some (.int x3), some (.int x4), some (.int x5), some (.int x6), some (.int 2)] [.int x4, .int (2 + 2), .int x5, .ref 1099] h2 rfl rfl rfl ?_
  refine tr_bi 97 97 (by decide) rfl ?_
  refine tr_s .isub 1 183 [some (.ref 1099), some (.int x1), some (.int x2), some (.int x3), some (.int x4), some (.int x5), some (.int x6), some (.int 2)] [.int (x4 - 97), .int (2 + 2), .int x5, .ref 1099] h2 rfl rfl rfl ?_
  refine tr_call (.invokevirtual 96) 96 0 3 8 m_X9_sets [.ref 1099, .int x5, .int (2 + 2), .int (x4 - 97)] [] none h3 rfl rfl rfl rfl rfl rfl rfl rfl rfl (tr_cok rfl (Or.inr ⟨_, _, rfl, tr_rc (hh_rd (hh_obj hL1 (k := 99) rfl).1) (by decide)⟩)) c_2 ?_
  have hL2 := c_2.2
  refine tr_s (.aload_n 0) 1 187 [some (.ref 1099), some (.int x1), some (.int x2), some (.int x3), some (.int x4), some (.int x5), some (.int x6), some (.int 2)] [.ref 1099] h3 rfl rfl rfl ?_
  refine tr_s (.iload 5) 2 189 [some (.ref 1099), some (.int x1), some (.int x2), some (.int x3), some (.int x4), some (.int x5), some (.int x6), some (.int 2)] [.int x5, .ref 1099] h3 rfl rfl rfl ?_
  refine tr_s (.iload 7) 2 191 [some (.ref 1099), some (.int x1), some (.int x2), some (.int x3), some (.int x4), some (.int x5), some (.int x6), some (.int 2)] [.int 2, .int x5, .ref 1099] h3 rfl rfl rfl ?_
  refine tr_ic 3 3 (by decide) rfl ?_
  refine tr_s .iadd 1 193 [some (.ref 1099), some (.int x1), some (.int x2), some (.int x3), some (.int x4), some (.int x5), some (.int x6), some (.int 2)] [.int (2 + 3), .int x5, .ref 1099] h3 rfl rfl rfl ?_
  refine tr_bi 6 6 (by decide) rfl ?_
  refine tr_s (.iload_n 2) 1 196 [some (.ref 1099), some (.int x1), some (.int x2), some (.int x3), some (.int x4), some (.int x5), some (.int x6), some (.int 2)] [.int x2, .int 6, .int (2 + 3), .int x5, .ref 1099] h3 rfl rfl rfl ?_
  refine tr_bi 97 97 (by decide) rfl ?_
  refine tr_s .isub 1 199 [some (.ref 1099), some (.int x1), some (.int x2), some (.int x3), some (.int x4), some (.int x5), some (.int x6), some (.int 2)] [.int (x2 - 97), .int 6, .int (2 + 3), .int x5, .ref 1099] h3 rfl rfl rfl ?_
  refine tr_s .isub 1 200 [some (.ref 1099), some (.int x1), some (.int x2), some (.int x3), some (.int x4), some (.int x5), some (.int x6), some (.int 2)] [.int (6 - (x2 - 97)), .int (2 + 3), .int x5, .ref 1099] h3 rfl rfl rfl ?_
  refine tr_s (.iload_n 3) 1 201 [some (.ref 1099), some (.int x1), some (.int x2), some (.int x3), some (.int x4), some (.int x5), some (.int x6), some (.int 2)] [.int x3, .int (6 - (x2 - 97)), .int (2 + 3), .int x5, .ref 1099] h3 rfl rfl rfl ?_
  refine tr_bi 97 97 (by decide) rfl ?_
  refine tr_s .isub 1 204 [some (.ref 1099), some (.int x1), some (.int x2), some (.int x3), some (.int x4), some (.int x5), some (.int x6), some (.int 2)] [.int (x3 - 97), .int (6 - (x2 - 97)), .int (2 + 3), .int x5, .ref 1099] h3 rfl rfl rfl ?_
  refine tr_s .isub 1 205 [some (.ref 1099), some (.int x1), some (.int x2), some (.int x3), some (.int x4), some (.int x5), some (.int x6), some (.int 2)] [.int ((6 - (x2 - 97)) - (x3 - 97)), .int (2 + 3), .int x5, .ref 1099] h3 rfl rfl rfl ?_
  refine tr_s (.iload 4) 2 207 [some (.ref 1099), some (.int x1), some (.int x2), some (.int x3), some (.int x4), some (.int x5), some (.int x6), some (.int 2)] [.int x4, .int ((6 - (x2 - 97)) - (x3 - 97)), .int (2 + 3), .int x5, .ref 1099] h3 rfl rfl rfl ?_
  refine tr_bi 97 97 (by decide) rfl ?_
  refine tr_s .isub 1 210 [some (.ref 1099), some (.int x1), some (.int x2), some (.int x3), some (.int x4), some (.int x5), some (.int x6), some (.int 2)] [.int (x4 - 97), .int ((6 - (x2 - 97)) - (x3 - 97)), .int (2 + 3), .int x5, .ref 1099] h3 rfl rfl rfl ?_
  refine tr_s .isub 1 211 [some (.ref 1099), some (.int x1), some (.int x2), some (.int x3), some (.int x4), some (.int x5), some (.int x6), some (.int 2)] [.int (((6 - (x2 - 97)) - (x3 - 97)) - (x4 - 97)), .int (2 + 3), .int x5, .ref 1099] h3 rfl rfl rfl ?_
  refine tr_call (.invokevirtual 96) 96 0 3 8 m_X9_sets [.ref 1099, .int x5, .int (2 + 3), .int (((6 - (x2 - 97)) - (x3 - 97)) - (x4 - 97))] [] none h4 rfl rfl rfl rfl rfl rfl rfl rfl rfl (tr_cok rfl (Or.inr ⟨_, _, rfl, tr_rc (hh_rd (hh_obj hL2 (k := 99) rfl).1) (by decide)⟩)) c_3 ?_
  have hL3 := c_3.2
  refine tr_inc 6 1 x6 1 (by decide) rfl rfl rfl ?_
  refine tr_goto (-91) 126 rfl rfl rfl ?_
  exact k
theorem sg_X9_cats_141 {g : tr_g} {d : Nat} {h : ev_AH} {r : ev_O × ev_AH} {x1 x2 x3 x4 x5 x6 : Int32} {w7 : Option Value} {h1 h2 h3 h4 : ev_AH} (hL : hh_L h) (c_0 : tr_L g d m_X9_sets 0 [some (.ref 1099), some (.int x5), some (.int 6), some (.int (x2 - 97))] [] h (.inl none, h1)) (c_1 : tr_L g d m_X9_sets 0 [some (.ref 1099), some (.int x5), some (.int (6 + 1)), some (.int (x3 - 97))] [] h1 (.inl none, h2)) (c_2 : tr_L g d m_X9_sets 0 [some (.ref 1099), some (.int x5), some (.int (6 + 2)), some (.int (x4 - 97))] [] h2 (.inl none, h3)) (c_3 : tr_L g d m_X9_sets 0 [some (.ref 1099), some (.int x5), some (.int (6 + 3)), some (.int (((6 - (x2 - 97)) - (x3 - 97)) - (x4 - 97)))] [] h3 (.inl none, h4)) (k : tr_L g (d + 1) m_X9_cats 126 [some (.ref 1099), some (.int x1), some (.int x2), some (.int x3), some (.int x4), some (.int x5), some (.int (x6 + 1)), some (.int 6)] [] h4 r) : tr_L g (d + 1) m_X9_cats 141 [some (.ref 1099), some (.int x1), some (.int x2), some (.int x3), some (.int x4), some (.int x5), some (.int x6), w7] [] h r := by
  refine tr_bi 6 6 (by decide) rfl ?_
  refine tr_st (.istore 7) 2 7 0 (.int 6) rfl rfl rfl rfl rfl rfl rfl ?_
  refine tr_s (.aload_n 0) 1 146 [some (.ref 1099), some (.int x1), some (.int x2), some (.int x3), some (.int x4), some (.int x5), some (.int x6), some (.int 6)] [.ref 1099] h rfl rfl rfl ?_
  refine tr_s (.iload 5) 2 148 [some (.ref 1099), some (.int x1), some (.int x2), some (.int x3), some (.int x4), some (.int x5), some (.int x6), some (.int 6)] [.int x5, .ref 1099] h rfl rfl rfl ?_
  refine tr_s (.iload 7) 2 150 [some (.ref 1099), some (.int x1), some (.int x2), some (.int x3), some (.int x4), some (.int x5), some (.int x6), some (.int 6)] [.int 6, .int x5, .ref 1099] h rfl rfl rfl ?_
  refine tr_s (.iload_n 2) 1 151 [some (.ref 1099), some (.int x1), some (.int x2), some (.int x3), some (.int x4), some (.int x5), some (.int x6), some (.int 6)] [.int x2, .int 6, .int x5, .ref 1099] h rfl rfl rfl ?_
  refine tr_bi 97 97 (by decide) rfl ?_
  refine tr_s .isub 1 154 [some (.ref 1099), some (.int x1), some (.int x2), some (.int x3), some (.int x4), some (.int x5), some (.int x6), some (.int 6)] [.int (x2 - 97), .int 6, .int x5, .ref 1099] h rfl rfl rfl ?_
  refine tr_call (.invokevirtual 96) 96 0 3 8 m_X9_sets [.ref 1099, .int x5, .int 6, .int (x2 - 97)] [] none h1 rfl rfl rfl rfl rfl rfl rfl rfl rfl (tr_cok rfl (Or.inr ⟨_, _, rfl, tr_rc (hh_rd (hh_obj hL (k := 99) rfl).1) (by decide)⟩)) c_0 ?_
  have hL0 := c_0.2
  refine tr_s (.aload_n 0) 1 158 [some (.ref 1099), some (.int x1), some (.int x2), some (.int x3), some (.int x4), some (.int x5), some (.int x6), some (.int 6)] [.ref 1099] h1 rfl rfl rfl ?_
  refine tr_s (.iload 5) 2 160 [some (.ref 1099), some (.int x1), some (.int x2), some (.int x3), some (.int x4), some (.int x5), some (.int x6), some (.int 6)] [.int x5, .ref 1099] h1 rfl rfl rfl ?_
  refine tr_s (.iload 7) 2 162 [some (.ref 1099), some (.int x1), some (.int x2), some (.int x3), some (.int x4), some (.int x5), some (.int x6), some (.int 6)] [.int 6, .int x5, .ref 1099] h1 rfl rfl rfl ?_
  refine tr_ic 1 1 (by decide) rfl ?_
  refine tr_s .iadd 1 164 [some (.ref 1099), some (.int x1), some (.int x2), some (.int x3), some (.int x4), some (.int x5), some (.int x6), some (.int 6)] [.int (6 + 1), .int x5, .ref 1099] h1 rfl rfl rfl ?_
  refine tr_s (.iload_n 3) 1 165 [some (.ref 1099), some (.int x1), some (.int x2), some (.int x3), some (.int x4), some (.int x5), some (.int x6), some (.int 6)] [.int x3, .int (6 + 1), .int x5, .ref 1099] h1 rfl rfl rfl ?_
  refine tr_bi 97 97 (by decide) rfl ?_
  refine tr_s .isub 1 168 [some (.ref 1099), some (.int x1), some (.int x2), some (.int x3), some (.int x4), some (.int x5), some (.int x6), some (.int 6)] [.int (x3 - 97), .int (6 + 1), .int x5, .ref 1099] h1 rfl rfl rfl ?_
  refine tr_call (.invokevirtual 96) 96 0 3 8 m_X9_sets [.ref 1099, .int x5, .int (6 + 1), .int (x3 - 97)] [] none h2 rfl rfl rfl rfl rfl rfl rfl rfl rfl (tr_cok rfl (Or.inr ⟨_, _, rfl, tr_rc (hh_rd (hh_obj hL0 (k := 99) rfl).1) (by decide)⟩)) c_1 ?_
  have hL1 := c_1.2
  refine tr_s (.aload_n 0) 1 172 [some (.ref 1099), some (.int x1), some (.int x2), some (.int x3), some (.int x4), some (.int x5), some (.int x6), some (.int 6)] [.ref 1099] h2 rfl rfl rfl ?_
  refine tr_s (.iload 5) 2 174 [some (.ref 1099), some (.int x1), some (.int x2), some (.int x3), some (.int x4), some (.int x5), some (.int x6), some (.int 6)] [.int x5, .ref 1099] h2 rfl rfl rfl ?_
  refine tr_s (.iload 7) 2 176 [some (.ref 1099), some (.int x1), some (.int x2), some (.int x3), some (.int x4), some (.int x5), some (.int x6), some (.int 6)] [.int 6, .int x5, .ref 1099] h2 rfl rfl rfl ?_
  refine tr_ic 2 2 (by decide) rfl ?_
  refine tr_s .iadd 1 178 [some (.ref 1099), some (.int x1), some (.int x2), some (.int x3), some (.int x4), some (.int x5), some (.int x6), some (.int 6)] [.int (6 + 2), .int x5, .ref 1099] h2 rfl rfl rfl ?_
  refine tr_s (.iload 4) 2 180 [some (.ref 1099), some (.int x1), some (.int x2), some (.int x3), some (.int x4), some (.int x5), some (.int x6), some (.int 6)] [.int x4, .int (6 + 2), .int x5, .ref 1099] h2 rfl rfl rfl ?_
  refine tr_bi 97 97 (by decide) rfl ?_
  refine tr_s .isub 1 183 [some (.ref 1099), some (.int x1), some (.int x2), some (.int x3), some (.int x4), some (.int x5), some (.int x6), some (.int 6)] [.int (x4 - 97), .int (6 + 2), .int x5, .ref 1099] h2 rfl rfl rfl ?_
  refine tr_call (.invokevirtual 96) 96 0 3 8 m_X9_sets [.ref 1099, .int x5, .int (6 + 2), .int (x4 - 97)] [] none h3 rfl rfl rfl rfl rfl rfl rfl rfl rfl (tr_cok rfl (Or.inr ⟨_, _, rfl, tr_rc (hh_rd (hh_obj hL1 (k := 99) rfl).1) (by decide)⟩)) c_2 ?_
  have hL2 := c_2.2
  refine tr_s (.aload_n 0) 1 187 [some (.ref 1099), some (.int x1), some (.int x2), some (.int x3), some (.int x4), some (.int x5), some (.int x6), some (.int 6)] [.ref 1099] h3 rfl rfl rfl ?_
  refine tr_s (.iload 5) 2 189 [some (.ref 1099), some (.int x1), some (.int x2), some (.int x3), some (.int x4), some (.int x5), some (.int x6), some (.int 6)] [.int x5, .ref 1099] h3 rfl rfl rfl ?_
  refine tr_s (.iload 7) 2 191 [some (.ref 1099), some (.int x1), some (.int x2), some (.int x3), some (.int x4), some (.int x5), some (.int x6), some (.int 6)] [.int 6, .int x5, .ref 1099] h3 rfl rfl rfl ?_
  refine tr_ic 3 3 (by decide) rfl ?_
  refine tr_s .iadd 1 193 [some (.ref 1099), some (.int x1), some (.int x2), some (.int x3), some (.int x4), some (.int x5), some (.int x6), some (.int 6)] [.int (6 + 3), .int x5, .ref 1099] h3 rfl rfl rfl ?_
  refine tr_bi 6 6 (by decide) rfl ?_
  refine tr_s (.iload_n 2) 1 196 [some (.ref 1099), some (.int x1), some (.int x2), some (.int x3), some (.int x4), some (.int x5), some (.int x6), some (.int 6)] [.int x2, .int 6, .int (6 + 3), .int x5, .ref 1099] h3 rfl rfl rfl ?_
  refine tr_bi 97 97 (by decide) rfl ?_
  refine tr_s .isub 1 199 [some (.ref 1099), some (.int x1), some (.int x2), some (.int x3), some (.int x4), some (.int x5), some (.int x6), some (.int 6)] [.int (x2 - 97), .int 6, .int (6 + 3), .int x5, .ref 1099] h3 rfl rfl rfl ?_
  refine tr_s .isub 1 200 [some (.ref 1099), some (.int x1), some (.int x2), some (.int x3), some (.int x4), some (.int x5), some (.int x6), some (.int 6)] [.int (6 - (x2 - 97)), .int (6 + 3), .int x5, .ref 1099] h3 rfl rfl rfl ?_
  refine tr_s (.iload_n 3) 1 201 [some (.ref 1099), some (.int x1), some (.int x2), some (.int x3), some (.int x4), some (.int x5), some (.int x6), some (.int 6)] [.int x3, .int (6 - (x2 - 97)), .int (6 + 3), .int x5, .ref 1099] h3 rfl rfl rfl ?_
  refine tr_bi 97 97 (by decide) rfl ?_
  refine tr_s .isub 1 204 [some (.ref 1099), some (.int x1), some (.int x2), some (.int x3), some (.int x4), some (.int x5), some (.int x6), some (.int 6)] [.int (x3 - 97), .int (6 - (x2 - 97)), .int (6 + 3), .int x5, .ref 1099] h3 rfl rfl rfl ?_
  refine tr_s .isub 1 205 [some (.ref 1099), some (.int x1), some (.int x2), some (.int x3), some (.int x4), some (.int x5), some (.int x6), some (.int 6)] [.int ((6 - (x2 - 97)) - (x3 - 97)), .int (6 + 3), .int x5, .ref 1099] h3 rfl rfl rfl ?_
  refine tr_s (.iload 4) 2 207 [some (.ref 1099), some (.int x1), some (.int x2), some (.int x3), some (.int x4), some (.int x5), some (.int x6), some (.int 6)] [.int x4, .int ((6 - (x2 - 97)) - (x3 - 97)), .int (6 + 3), .int x5, .ref 1099] h3 rfl rfl rfl ?_
  refine tr_bi 97 97 (by decide) rfl ?_
  refine tr_s .isub 1 210 [some (.ref 1099), some (.int x1), some (.int x2), some (.int x3), some (.int x4), some (.int x5), some (.int x6), some (.int 6)] [.int (x4 - 97), .int ((6 - (x2 - 97)) - (x3 - 97)), .int (6 + 3), .int x5, .ref 1099] h3 rfl rfl rfl ?_
  refine tr_s .isub 1 211 [some (.ref 1099), some (.int x1), some (.int x2), some (.int x3), some (.int x4), some (.int x5), some (.int x6), some (.int 6)] [.int (((6 - (x2 - 97)) - (x3 - 97)) - (x4 - 97)), .int (6 + 3), .int x5, .ref 1099] h3 rfl rfl rfl ?_
  refine tr_call (.invokevirtual 96) 96 0 3 8 m_X9_sets [.ref 1099, .int x5, .int (6 + 3), .int (((6 - (x2 - 97)) - (x3 - 97)) - (x4 - 97))] [] none h4 rfl rfl rfl rfl rfl rfl rfl rfl rfl (tr_cok rfl (Or.inr ⟨_, _, rfl, tr_rc (hh_rd (hh_obj hL2 (k := 99) rfl).1) (by decide)⟩)) c_3 ?_
  have hL3 := c_3.2
  refine tr_inc 6 1 x6 1 (by decide) rfl rfl rfl ?_
  refine tr_goto (-91) 126 rfl rfl rfl ?_
  exact k
theorem sg_X9_cats_220 {g : tr_g} {d : Nat} {h : ev_AH} {r : ev_O × ev_AH} {x1 x5 : Int32} {w2 w3 w4 w6 w7 : Option Value} {j0 j1 j2 j3 : Nat} (hL : hh_L h) (e0 : 19 + x1 = Int32.ofNat j0) (b0 : j0 < 124) (e1 : 7 = Int32.ofNat j1) (b1 : j1 < 124) (e2 : 1 = Int32.ofNat j2) (b2 : j2 < 124) (e3 : 1 = Int32.ofNat j3) (b3 : j3 < 124) (hr : r = (.inl (some (.int x5)), hh_sa (hh_sa (hh_sa h 100 0 ((hh_a h 100).set j0 0)) 100 0 ((hh_a (hh_sa h 100 0 ((hh_a h 100).set j0 0)) 100).set j1 1)) 100 0 ((hh_a (hh_sa (hh_sa h 100 0 ((hh_a h 100).set j0 0)) 100 0 ((hh_a (hh_sa h 100 0 ((hh_a h 100).set j0 0)) 100).set j1 1)) 100).set j3 (((hh_a (hh_sa (hh_sa h 100 0 ((hh_a h 100).set j0 0)) 100 0 ((hh_a (hh_sa h 100 0 ((hh_a h 100).set j0 0)) 100).set j1 1)) 100).getD j2 0) + 1)))) : tr_L g d m_X9_cats 220 [some (.ref 1099), some (.int x1), w2, w3, w4, some (.int x5), w6, w7] [] h r := by
  refine tr_s (.aload_n 0) 1 221 [some (.ref 1099), some (.int x1), w2, w3, w4, some (.int x5), w6, w7] [.ref 1099] h rfl rfl rfl ?_
  refine tl_gr hL 9 99 8 0 100 [1100, 1101, 1102, 1103, 1104, 1105, 0, 0, 0, 0, 0, 0, 0, 0, 0, 0, 0, 0, 0, 0, 0, 1106, 0, 1107, 1108, 0, 0, 0] rfl rfl rfl rfl ?_
  refine tr_bi 19 19 (by decide) rfl ?_
  refine tr_s (.iload_n 1) 1 227 [some (.ref 1099), some (.int x1), w2, w3, w4, some (.int x5), w6, w7] [.int x1, .int 19, .ref 1100] h rfl rfl rfl ?_
  refine tr_s .iadd 1 228 [some (.ref 1099), some (.int x1), w2, w3, w4, some (.int x5), w6, w7] [.int (19 + x1), .ref 1100] h rfl rfl rfl ?_
  refine tr_ic 0 0 (by decide) rfl ?_
  refine tl_ias hL 100 124 j0 (19 + x1) 0 rfl rfl e0 b0 (by decide) ?_
  have hL0 := hh_L_ss (j := j0) (x := 0) hL (show hh_t[100]? = some (.inl (0, 124)) from rfl)
  refine tr_s (.aload_n 0) 1 231 [some (.ref 1099), some (.int x1), w2, w3, w4, some (.int x5), w6, w7] [.ref 1099] (hh_sa h 100 0 ((hh_a h 100).set j0 0)) rfl rfl rfl ?_
  refine tl_gr hL0 9 99 8 0 100 [1100, 1101, 1102, 1103, 1104, 1105, 0, 0, 0, 0, 0, 0, 0, 0, 0, 0, 0, 0, 0, 0, 0, 1106, 0, 1107, 1108, 0, 0, 0] rfl rfl rfl rfl ?_
  refine tr_bi 7 7 (by decide) rfl ?_
  refine tr_ic 1 1 (by decide) rfl ?_
  refine tl_ias hL0 100 124 j1 7 1 rfl rfl e1 b1 (by decide) ?_
  have hL1 := hh_L_ss (j := j1) (x := 1) hL0 (show hh_t[100]? = some (.inl (0, 124)) from rfl)
  refine tr_s (.aload_n 0) 1 239 [some (.ref 1099), some (.int x1), w2, w3, w4, some (.int x5), w6, w7] [.ref 1099] (hh_sa (hh_sa h 100 0 ((hh_a h 100).set j0 0)) 100 0 ((hh_a (hh_sa h 100 0 ((hh_a h 100).set j0 0)) 100).set j1 1)) rfl rfl rfl ?_
  refine tl_gr hL1 9 99 8 0 100 [1100, 1101, 1102, 1103, 1104, 1105, 0, 0, 0, 0, 0, 0, 0, 0, 0, 0, 0, 0, 0, 0, 0, 1106, 0, 1107, 1108, 0, 0, 0] rfl rfl rfl rfl ?_
  refine tr_ic 1 1 (by decide) rfl ?_
  refine tr_s .dup2 1 244 [some (.ref 1099), some (.int x1), w2, w3, w4, some (.int x5), w6, w7] [.int 1, .ref 1100, .int 1, .ref 1100] (hh_sa (hh_sa h 100 0 ((hh_a h 100).set j0 0)) 100 0 ((hh_a (hh_sa h 100 0 ((hh_a h 100).set j0 0)) 100).set j1 1)) rfl rfl rfl ?_
  refine tl_ald hL1 .iaload 100 0 124 j2 1 rfl (by decide) rfl e2 b2 (by decide) ?_
  refine tr_ic 1 1 (by decide) rfl ?_
  refine tr_s .iadd 1 247 [some (.ref 1099), some (.int x1), w2, w3, w4, some (.int x5), w6, w7] [.int (((hh_a (hh_sa (hh_sa h 100 0 ((hh_a h 100).set j0 0)) 100 0 ((hh_a (hh_sa h 100 0 ((hh_a h 100).set j0 0)) 100).set j1 1)) 100).getD j2 0) + 1), .int 1, .ref 1100] (hh_sa (hh_sa h 100 0 ((hh_a h 100).set j0 0)) 100 0 ((hh_a (hh_sa h 100 0 ((hh_a h 100).set j0 0)) 100).set j1 1)) rfl rfl rfl ?_
  refine tl_ias hL1 100 124 j3 1 (((hh_a (hh_sa (hh_sa h 100 0 ((hh_a h 100).set j0 0)) 100 0 ((hh_a (hh_sa h 100 0 ((hh_a h 100).set j0 0)) 100).set j1 1)) 100).getD j2 0) + 1) rfl rfl e3 b3 (by decide) ?_
  have hL2 := hh_L_ss (j := j3) (x := (((hh_a (hh_sa (hh_sa h 100 0 ((hh_a h 100).set j0 0)) 100 0 ((hh_a (hh_sa h 100 0 ((hh_a h 100).set j0 0)) 100).set j1 1)) 100).getD j2 0) + 1)) hL1 (show hh_t[100]? = some (.inl (0, 124)) from rfl)
  refine tr_s (.iload 5) 2 250 [some (.ref 1099), some (.int x1), w2, w3, w4, some (.int x5), w6, w7] [.int x5] (hh_sa (hh_sa (hh_sa h 100 0 ((hh_a h 100).set j0 0)) 100 0 ((hh_a (hh_sa h 100 0 ((hh_a h 100).set j0 0)) 100).set j1 1)) 100 0 ((hh_a (hh_sa (hh_sa h 100 0 ((hh_a h 100).set j0 0)) 100 0 ((hh_a (hh_sa h 100 0 ((hh_a h 100).set j0 0)) 100).set j1 1)) 100).set j3 (((hh_a (hh_sa (hh_sa h 100 0 ((hh_a h 100).set j0 0)) 100 0 ((hh_a (hh_sa h 100 0 ((hh_a h 100).set j0 0)) 100).set j1 1)) 100).getD j2 0) + 1))) rfl rfl rfl ?_
  exact tl_ret hL2 .ireturn 1 (some (.int x5)) rfl rfl rfl rfl hr
theorem sg_X9_isCell_0 {g : tr_g} {d : Nat} {h : ev_AH} {r : ev_O × ev_AH} {x0 v0 : Int32} {h1 : ev_AH} (hL : hh_L h) (c_0 : tr_L g d m_X9_isIn 0 [some (.int x0), some (.int 0), some (.int 34)] [] h (.inl (some (.int v0)), h1)) (hb0 : v0 = 0 ∨ v0 = 1) (hr : r = (.inl (some (.int v0)), h1)) : tr_L g (d + 1) m_X9_isCell 0 [some (.int x0)] [] h r := by
  refine tr_s (.iload_n 0) 1 1 [some (.int x0)] [.int x0] h rfl rfl rfl ?_
  refine tr_ic 0 0 (by decide) rfl ?_
  refine tr_bi 34 34 (by decide) rfl ?_
  refine tr_call (.invokestatic 70) 70 2 3 0 m_X9_isIn [.int x0, .int 0, .int 34] [] (some (.int v0)) h1 rfl rfl rfl rfl rfl rfl rfl rfl rfl (tr_cok rfl (Or.inl rfl)) c_0 ?_
  have hL0 := c_0.2
  exact tl_ret hL0 .ireturn 1 (some (.int v0)) rfl rfl rfl (tr_eb rfl hb0) hr
theorem sg_X9_isIn_0 {g : tr_g} {d : Nat} {h : ev_AH} {r : ev_O × ev_AH} {x0 x1 x2 : Int32} (hL : hh_L h) (t : x0 < x1 → tr_L g d m_X9_isIn 14 [some (.int x0), some (.int x1), some (.int x2)] [] h r) (f : x1 ≤ x0 → tr_L g d m_X9_isIn 5 [some (.int x0), some (.int x1), some (.int x2)] [] h r) : tr_L g d m_X9_isIn 0 [some (.int x0), some (.int x1), some (.int x2)] [] h r := by
  refine tr_s (.iload_n 0) 1 1 [some (.int x0), some (.int x1), some (.int x2)] [.int x0] h rfl rfl rfl ?_
  refine tr_s (.iload_n 1) 1 2 [some (.int x0), some (.int x1), some (.int x2)] [.int x1, .int x0] h rfl rfl rfl ?_
  exact tr_if2 .lt 12 14 x0 x1 rfl rfl rfl (fun hc => t ((tr_lt hc).1 rfl)) (fun hc => f ((tr_lt hc).2 rfl))
theorem sg_X9_isIn_5 {g : tr_g} {d : Nat} {h : ev_AH} {r : ev_O × ev_AH} {x0 x2 : Int32} {w1 : Option Value} (hL : hh_L h) (t : x2 < x0 → tr_L g d m_X9_isIn 14 [some (.int x0), w1, some (.int x2)] [] h r) (f : x0 ≤ x2 → tr_L g d m_X9_isIn 10 [some (.int x0), w1, some (.int x2)] [] h r) : tr_L g d m_X9_isIn 5 [some (.int x0), w1, some (.int x2)] [] h r := by
  refine tr_s (.iload_n 0) 1 6 [some (.int x0), w1, some (.int x2)] [.int x0] h rfl rfl rfl ?_
  refine tr_s (.iload_n 2) 1 7 [some (.int x0), w1, some (.int x2)] [.int x2, .int x0] h rfl rfl rfl ?_
  exact tr_if2 .gt 7 14 x0 x2 rfl rfl rfl (fun hc => t ((tr_gt hc).1 rfl)) (fun hc => f ((tr_gt hc).2 rfl))
theorem sg_X9_isIn_10 {g : tr_g} {d : Nat} {h : ev_AH} {r : ev_O × ev_AH} {w0 w1 w2 : Option Value} (hL : hh_L h) (hr : r = (.inl (some (.int 1)), h)) : tr_L g d m_X9_isIn 10 [w0, w1, w2] [] h r := by
  refine tr_ic 1 1 (by decide) rfl ?_
  refine tr_goto 4 15 rfl rfl rfl ?_
  exact tl_ret hL .ireturn 1 (some (.int 1)) rfl rfl rfl rfl hr
theorem sg_X9_isIn_14 {g : tr_g} {d : Nat} {h : ev_AH} {r : ev_O × ev_AH} {w0 w1 w2 : Option Value} (hL : hh_L h) (hr : r = (.inl (some (.int 0)), h)) : tr_L g d m_X9_isIn 14 [w0, w1, w2] [] h r := by
  refine tr_ic 0 0 (by decide) rfl ?_
  exact tl_ret hL .ireturn 1 (some (.int 0)) rfl rfl rfl rfl hr
theorem sg_X9_isThrown_0 {g : tr_g} {d : Nat} {h : ev_AH} {r : ev_O × ev_AH} {x1 x2 : Int32} (hL : hh_L h) (t : x1 = 0 → tr_L g d m_X9_isThrown 9 [some (.ref 1099), some (.int x1), some (.int x2)] [.ref 1099] h r) (f : x1 ≠ 0 → tr_L g d m_X9_isThrown 5 [some (.ref 1099), some (.int x1), some (.int x2)] [.ref 1099] h r) : tr_L g d m_X9_isThrown 0 [some (.ref 1099), some (.int x1), some (.int x2)] [] h r := by
  refine tr_s (.aload_n 0) 1 1 [some (.ref 1099), some (.int x1), some (.int x2)] [.ref 1099] h rfl rfl rfl ?_
  refine tr_s (.iload_n 1) 1 2 [some (.ref 1099), some (.int x1), some (.int x2)] [.int x1, .ref 1099] h rfl rfl rfl ?_
  exact tr_if1 .eq 7 9 x1 rfl rfl rfl (fun hc => t ((tr_eq hc).1 rfl)) (fun hc => f ((tr_eq hc).2 rfl))
theorem sg_X9_isThrown_5 {g : tr_g} {d : Nat} {h : ev_AH} {r : ev_O × ev_AH} {w0 : Option Value} {x1 x2 : Int32} (hL : hh_L h) (hb0 : x1 = 0 ∨ x1 = 1) (hr : r = (.inl (some (.int x1)), hh_si h 99 8 7 x2)) : tr_L g d m_X9_isThrown 5 [w0, some (.int x1), some (.int x2)] [.ref 1099] h r := by
  refine tr_s (.iload_n 2) 1 6 [w0, some (.int x1), some (.int x2)] [.int x2, .ref 1099] h rfl rfl rfl ?_
  refine tr_goto 4 10 rfl rfl rfl ?_
  refine tl_pf hL 41 99 8 7 [1100, 1101, 1102, 1103, 1104, 1105, 0, 0, 0, 0, 0, 0, 0, 0, 0, 0, 0, 0, 0, 0, 0, 1106, 0, 1107, 1108, 0, 0, 0] x2 .int rfl rfl rfl rfl rfl tr_oki ?_
  have hL0 := hh_L_si (sl := 7) (x := x2) hL (show hh_t[99]? = some (.inr (8, [1100, 1101, 1102, 1103, 1104, 1105, 0, 0, 0, 0, 0, 0, 0, 0, 0, 0, 0, 0, 0, 0, 0, 1106, 0, 1107, 1108, 0, 0, 0])) from rfl) rfl
  refine tr_s (.iload_n 1) 1 14 [w0, some (.int x1), some (.int x2)] [.int x1] (hh_si h 99 8 7 x2) rfl rfl rfl ?_
  exact tl_ret hL0 .ireturn 1 (some (.int x1)) rfl rfl rfl (tr_eb rfl hb0) hr
theorem sg_X9_isThrown_9 {g : tr_g} {d : Nat} {h : ev_AH} {r : ev_O × ev_AH} {w0 w2 : Option Value} {x1 : Int32} (hL : hh_L h) (hb0 : x1 = 0 ∨ x1 = 1) (hr : r = (.inl (some (.int x1)), hh_si h 99 8 7 0)) : tr_L g d m_X9_isThrown 9 [w0, some (.int x1), w2] [.ref 1099] h r := by
  refine tr_ic 0 0 (by decide) rfl ?_
  refine tl_pf hL 41 99 8 7 [1100, 1101, 1102, 1103, 1104, 1105, 0, 0, 0, 0, 0, 0, 0, 0, 0, 0, 0, 0, 0, 0, 0, 1106, 0, 1107, 1108, 0, 0, 0] 0 .int rfl rfl rfl rfl rfl tr_oki ?_
  have hL0 := hh_L_si (sl := 7) (x := 0) hL (show hh_t[99]? = some (.inr (8, [1100, 1101, 1102, 1103, 1104, 1105, 0, 0, 0, 0, 0, 0, 0, 0, 0, 0, 0, 0, 0, 0, 0, 1106, 0, 1107, 1108, 0, 0, 0])) from rfl) rfl
  refine tr_s (.iload_n 1) 1 14 [w0, some (.int x1), w2] [.int x1] (hh_si h 99 8 7 0) rfl rfl rfl ?_
  exact tl_ret hL0 .ireturn 1 (some (.int x1)) rfl rfl rfl (tr_eb rfl hb0) hr
theorem sg_X9_areThree_0 {g : tr_g} {d : Nat} {h : ev_AH} {r : ev_O × ev_AH} {x0 x1 x2 v0 : Int32} {h1 : ev_AH} (hL : hh_L h) (c_0 : tr_L g d m_X9_isOption 0 [some (.int x0)] [] h (.inl (some (.int v0)), h1)) (t : v0 = 0 → tr_L g (d + 1) m_X9_areThree 40 [some (.int x0), some (.int x1), some (.int x2)] [] h1 r) (f : v0 ≠ 0 → tr_L g (d + 1) m_X9_areThree 7 [some (.int x0), some (.int x1), some (.int x2)] [] h1 r) : tr_L g (d + 1) m_X9_areThree 0 [some (.int x0), some (.int x1), some (.int x2)] [] h r := by
  refine tr_s (.iload_n 0) 1 1 [some (.int x0), some (.int x1), some (.int x2)] [.int x0] h rfl rfl rfl ?_
  refine tr_call (.invokestatic 78) 78 2 1 0 m_X9_isOption [.int x0] [] (some (.int v0)) h1 rfl rfl rfl rfl rfl rfl rfl rfl rfl (tr_cok rfl (Or.inl rfl)) c_0 ?_
  have hL0 := c_0.2
  exact tr_if1 .eq 36 40 v0 rfl rfl rfl (fun hc => t ((tr_eq hc).1 rfl)) (fun hc => f ((tr_eq hc).2 rfl))
theorem sg_X9_areThree_7 {g : tr_g} {d : Nat} {h : ev_AH} {r : ev_O × ev_AH} {x0 x1 x2 v0 : Int32} {h1 : ev_AH} (hL : hh_L h) (c_0 : tr_L g d m_X9_isOption 0 [some (.int x1)] [] h (.inl (some (.int v0)), h1)) (t : v0 = 0 → tr_L g (d + 1) m_X9_areThree 40 [some (.int x0), some (.int x1), some (.int x2)] [] h1 r) (f : v0 ≠ 0 → tr_L g (d + 1) m_X9_areThree 14 [some (.int x0), some (.int x1), some (.int x2)] [] h1 r) : tr_L g (d + 1) m_X9_areThree 7 [some (.int x0), some (.int x1), some (.int x2)] [] h r := by
  refine tr_s (.iload_n 1) 1 8 [some (.int x0), some (.int x1), some (.int x2)] [.int x1] h rfl rfl rfl ?_
  refine tr_call (.invokestatic 78) 78 2 1 0 m_X9_isOption [.int x1] [] (some (.int v0)) h1 rfl rfl rfl rfl rfl rfl rfl rfl rfl (tr_cok rfl (Or.inl rfl)) c_0 ?_
  have hL0 := c_0.2
  exact tr_if1 .eq 29 40 v0 rfl rfl rfl (fun hc => t ((tr_eq hc).1 rfl)) (fun hc => f ((tr_eq hc).2 rfl))
theorem sg_X9_areThree_14 {g : tr_g} {d : Nat} {h : ev_AH} {r : ev_O × ev_AH} {x0 x1 x2 v0 : Int32} {h1 : ev_AH} (hL : hh_L h) (c_0 : tr_L g d m_X9_isOption 0 [some (.int x2)] [] h (.inl (some (.int v0)), h1)) (t : v0 = 0 → tr_L g (d + 1) m_X9_areThree 40 [some (.int x0), some (.int x1), some (.int x2)] [] h1 r) (f : v0 ≠ 0 → tr_L g (d + 1) m_X9_areThree 21 [some (.int x0), some (.int x1), some (.int x2)] [] h1 r) : tr_L g (d + 1) m_X9_areThree 14 [some (.int x0), some (.int x1), some (.int x2)] [] h r := by
  refine tr_s (.iload_n 2) 1 15 [some (.int x0), some (.int x1), some (.int x2)] [.int x2] h rfl rfl rfl ?_
  refine tr_call (.invokestatic 78) 78 2 1 0 m_X9_isOption [.int x2] [] (some (.int v0)) h1 rfl rfl rfl rfl rfl rfl rfl rfl rfl (tr_cok rfl (Or.inl rfl)) c_0 ?_
  have hL0 := c_0.2
  exact tr_if1 .eq 22 40 v0 rfl rfl rfl (fun hc => t ((tr_eq hc).1 rfl)) (fun hc => f ((tr_eq hc).2 rfl))
theorem sg_X9_areThree_21 {g : tr_g} {d : Nat} {h : ev_AH} {r : ev_O × ev_AH} {x0 x1 x2 : Int32} (hL : hh_L h) (t : x0 = x1 → tr_L g d m_X9_areThree 40 [some (.int x0), some (.int x1), some (.int x2)] [] h r) (f : x0 ≠ x1 → tr_L g d m_X9_areThree 26 [some (.int x0), some (.int x1), some (.int x2)] [] h r) : tr_L g d m_X9_areThree 21 [some (.int x0), some (.int x1), some (.int x2)] [] h r := by
  refine tr_s (.iload_n 0) 1 22 [some (.int x0), some (.int x1), some (.int x2)] [.int x0] h rfl rfl rfl ?_
  refine tr_s (.iload_n 1) 1 23 [some (.int x0), some (.int x1), some (.int x2)] [.int x1, .int x0] h rfl rfl rfl ?_
  exact tr_if2 .eq 17 40 x0 x1 rfl rfl rfl (fun hc => t ((tr_eq hc).1 rfl)) (fun hc => f ((tr_eq hc).2 rfl))
theorem sg_X9_areThree_26 {g : tr_g} {d : Nat} {h : ev_AH} {r : ev_O × ev_AH} {x0 x1 x2 : Int32} (hL : hh_L h) (t : x0 = x2 → tr_L g d m_X9_areThree 40 [some (.int x0), some (.int x1), some (.int x2)] [] h r) (f : x0 ≠ x2 → tr_L g d m_X9_areThree 31 [some (.int x0), some (.int x1), some (.int x2)] [] h r) : tr_L g d m_X9_areThree 26 [some (.int x0), some (.int x1), some (.int x2)] [] h r := by
  refine tr_s (.iload_n 0) 1 27 [some (.int x0), some (.int x1), some (.int x2)] [.int x0] h rfl rfl rfl ?_
  refine tr_s (.iload_n 2) 1 28 [some (.int x0), some (.int x1), some (.int x2)] [.int x2, .int x0] h rfl rfl rfl ?_
  exact tr_if2 .eq 12 40 x0 x2 rfl rfl rfl (fun hc => t ((tr_eq hc).1 rfl)) (fun hc => f ((tr_eq hc).2 rfl))
theorem sg_X9_areThree_31 {g : tr_g} {d : Nat} {h : ev_AH} {r : ev_O × ev_AH} {w0 : Option Value} {x1 x2 : Int32} (hL : hh_L h) (t : x1 = x2 → tr_L g d m_X9_areThree 40 [w0, some (.int x1), some (.int x2)] [] h r) (f : x1 ≠ x2 → tr_L g d m_X9_areThree 36 [w0, some (.int x1), some (.int x2)] [] h r) : tr_L g d m_X9_areThree 31 [w0, some (.int x1), some (.int x2)] [] h r := by
  refine tr_s (.iload_n 1) 1 32 [w0, some (.int x1), some (.int x2)] [.int x1] h rfl rfl rfl ?_
  refine tr_s (.iload_n 2) 1 33 [w0, some (.int x1), some (.int x2)] [.int x2, .int x1] h rfl rfl rfl ?_
  exact tr_if2 .eq 7 40 x1 x2 rfl rfl rfl (fun hc => t ((tr_eq hc).1 rfl)) (fun hc => f ((tr_eq hc).2 rfl))
theorem sg_X9_areThree_36 {g : tr_g} {d : Nat} {h : ev_AH} {r : ev_O × ev_AH} {w0 w1 w2 : Option Value} (hL : hh_L h) (hr : r = (.inl (some (.int 1)), h)) : tr_L g d m_X9_areThree 36 [w0, w1, w2] [] h r := by
  refine tr_ic 1 1 (by decide) rfl ?_
  refine tr_goto 4 41 rfl rfl rfl ?_
  exact tl_ret hL .ireturn 1 (some (.int 1)) rfl rfl rfl rfl hr
theorem sg_X9_areThree_40 {g : tr_g} {d : Nat} {h : ev_AH} {r : ev_O × ev_AH} {w0 w1 w2 : Option Value} (hL : hh_L h) (hr : r = (.inl (some (.int 0)), h)) : tr_L g d m_X9_areThree 40 [w0, w1, w2] [] h r := by
  refine tr_ic 0 0 (by decide) rfl ?_
  exact tl_ret hL .ireturn 1 (some (.int 0)) rfl rfl rfl rfl hr
theorem sg_X9_isOption_0 {g : tr_g} {d : Nat} {h : ev_AH} {r : ev_O × ev_AH} {x0 v0 : Int32} {h1 : ev_AH} (hL : hh_L h) (c_0 : tr_L g d m_X9_isIn 0 [some (.int x0), some (.int 97), some (.int 100)] [] h (.inl (some (.int v0)), h1)) (hb0 : v0 = 0 ∨ v0 = 1) (hr : r = (.inl (some (.int v0)), h1)) : tr_L g (d + 1) m_X9_isOption 0 [some (.int x0)] [] h r := by
  refine tr_s (.iload_n 0) 1 1 [some (.int x0)] [.int x0] h rfl rfl rfl ?_
  refine tr_bi 97 97 (by decide) rfl ?_
  refine tr_bi 100 100 (by decide) rfl ?_
  refine tr_call (.invokestatic 70) 70 2 3 0 m_X9_isIn [.int x0, .int 97, .int 100] [] (some (.int v0)) h1 rfl rfl rfl rfl rfl rfl rfl rfl rfl (tr_cok rfl (Or.inl rfl)) c_0 ?_
  have hL0 := c_0.2
  exact tl_ret hL0 .ireturn 1 (some (.int v0)) rfl rfl rfl (tr_eb rfl hb0) hr
theorem sg_X9_isRejected_0 {g : tr_g} {d : Nat} {h : ev_AH} {r : ev_O × ev_AH} {x1 x2 x3 x4 : Int32} (hL : hh_L h) (t : x1 = 0 → tr_L g d m_X9_isRejected 14 [some (.ref 1099), some (.int x1), some (.int x2), some (.int x3), some (.int x4)] [] h r) (f : x1 ≠ 0 → tr_L g d m_X9_isRejected 4 [some (.ref 1099), some (.int x1), some (.int x2), some (.int x3), some (.int x4)] [] h r) : tr_L g d m_X9_isRejected 0 [some (.ref 1099), some (.int x1), some (.int x2), some (.int x3), some (.int x4)] [] h r := by
  refine tr_s (.iload_n 1) 1 1 [some (.ref 1099), some (.int x1), some (.int x2), some (.int x3), some (.int x4)] [.int x1] h rfl rfl rfl ?_
  exact tr_if1 .eq 13 14 x1 rfl rfl rfl (fun hc => t ((tr_eq hc).1 rfl)) (fun hc => f ((tr_eq hc).2 rfl))
theorem sg_X9_isRejected_4 {g : tr_g} {d : Nat} {h : ev_AH} {r : ev_O × ev_AH} {x1 x2 x3 x4 : Int32} (hL : hh_L h) (k : tr_L g d m_X9_isRejected 14 [some (.ref 1099), some (.int x1), some (.int x2), some (.int x3), some (.int x4)] [] (hh_si (hh_si h 99 8 12 x2) 99 8 13 x3) r) : tr_L g d m_X9_isRejected 4 [some (.ref 1099), some (.int x1), some (.int x2), some (.int x3), some (.int x4)] [] h r := by
  refine tr_s (.aload_n 0) 1 5 [some (.ref 1099), some (.int x1), some (.int x2), some (.int x3), some (.int x4)] [.ref 1099] h rfl rfl rfl ?_
  refine tr_s (.iload_n 2) 1 6 [some (.ref 1099), some (.int x1), some (.int x2), some (.int x3), some (.int x4)] [.int x2, .ref 1099] h rfl rfl rfl ?_
  refine tl_pf hL 48 99 8 12 [1100, 1101, 1102, 1103, 1104, 1105, 0, 0, 0, 0, 0, 0, 0, 0, 0, 0, 0, 0, 0, 0, 0, 1106, 0, 1107, 1108, 0, 0, 0] x2 .int rfl rfl rfl rfl rfl tr_oki ?_
  have hL0 := hh_L_si (sl := 12) (x := x2) hL (show hh_t[99]? = some (.inr (8, [1100, 1101, 1102, 1103, 1104, 1105, 0, 0, 0, 0, 0, 0, 0, 0, 0, 0, 0, 0, 0, 0, 0, 1106, 0, 1107, 1108, 0, 0, 0])) from rfl) rfl
  refine tr_s (.aload_n 0) 1 10 [some (.ref 1099), some (.int x1), some (.int x2), some (.int x3), some (.int x4)] [.ref 1099] (hh_si h 99 8 12 x2) rfl rfl rfl ?_
  refine tr_s (.iload_n 3) 1 11 [some (.ref 1099), some (.int x1), some (.int x2), some (.int x3), some (.int x4)] [.int x3, .ref 1099] (hh_si h 99 8 12 x2) rfl rfl rfl ?_
  refine tl_pf hL0 54 99 8 13 [1100, 1101, 1102, 1103, 1104, 1105, 0, 0, 0, 0, 0, 0, 0, 0, 0, 0, 0, 0, 0, 0, 0, 1106, 0, 1107, 1108, 0, 0, 0] x3 .int rfl rfl rfl rfl rfl tr_oki ?_
  have hL1 := hh_L_si (sl := 13) (x := x3) hL0 (show hh_t[99]? = some (.inr (8, [1100, 1101, 1102, 1103, 1104, 1105, 0, 0, 0, 0, 0, 0, 0, 0, 0, 0, 0, 0, 0, 0, 0, 1106, 0, 1107, 1108, 0, 0, 0])) from rfl) rfl
  exact k
theorem sg_X9_isRejected_14 {g : tr_g} {d : Nat} {h : ev_AH} {r : ev_O × ev_AH} {x1 x4 v0 : Int32} {w2 w3 : Option Value} {h1 : ev_AH} (hL : hh_L h) (c_0 : tr_L g d m_X9_isThrown 0 [some (.ref 1099), some (.int x1), some (.int x4)] [] h (.inl (some (.int v0)), h1)) (hb0 : v0 = 0 ∨ v0 = 1) (hr : r = (.inl (some (.int v0)), h1)) : tr_L g (d + 1) m_X9_isRejected 14 [some (.ref 1099), some (.int x1), w2, w3, some (.int x4)] [] h r := by
  refine tr_s (.aload_n 0) 1 15 [some (.ref 1099), some (.int x1), w2, w3, some (.int x4)] [.ref 1099] h rfl rfl rfl ?_
  refine tr_s (.iload_n 1) 1 16 [some (.ref 1099), some (.int x1), w2, w3, some (.int x4)] [.int x1, .ref 1099] h rfl rfl rfl ?_
  refine tr_s (.iload 4) 2 18 [some (.ref 1099), some (.int x1), w2, w3, some (.int x4)] [.int x4, .int x1, .ref 1099] h rfl rfl rfl ?_
  refine tr_call (.invokevirtual 66) 66 0 2 8 m_X9_isThrown [.ref 1099, .int x1, .int x4] [] (some (.int v0)) h1 rfl rfl rfl rfl rfl rfl rfl rfl rfl (tr_cok rfl (Or.inr ⟨_, _, rfl, tr_rc (hh_rd (hh_obj hL (k := 99) rfl).1) (by decide)⟩)) c_0 ?_
  have hL0 := c_0.2
  exact tl_ret hL0 .ireturn 1 (some (.int v0)) rfl rfl rfl (tr_eb rfl hb0) hr
theorem sg_X9_catOn_0 {g : tr_g} {d : Nat} {h : ev_AH} {r : ev_O × ev_AH} {x1 : Int32} (hL : hh_L h) (k : tr_L g d m_X9_catOn 2 [some (.ref 1099), some (.int x1), some (.int 0)] [] h r) : tr_L g d m_X9_catOn 0 [some (.ref 1099), some (.int x1), none] [] h r := by
  refine tr_ic 0 0 (by decide) rfl ?_
  refine tr_st (.istore_n 2) 1 2 0 (.int 0) rfl rfl rfl rfl rfl rfl rfl ?_
  exact k
theorem sg_X9_catOn_2 {g : tr_g} {d : Nat} {h : ev_AH} {r : ev_O × ev_AH} {x1 x2 : Int32} {j0 : Nat} (hL : hh_L h) (e0 : 1 = Int32.ofNat j0) (b0 : j0 < 124) (t : ((hh_a h 100).getD j0 0) ≤ x2 → tr_L g d m_X9_catOn 30 [some (.ref 1099), some (.int x1), some (.int x2)] [] h r) (f : x2 < ((hh_a h 100).getD j0 0) → tr_L g d m_X9_catOn 12 [some (.ref 1099), some (.int x1), some (.int x2)] [] h r) : tr_L g d m_X9_catOn 2 [some (.ref 1099), some (.int x1), some (.int x2)] [] h r := by
  refine tr_s (.iload_n 2) 1 3 [some (.ref 1099), some (.int x1), some (.int x2)] [.int x2] h rfl rfl rfl ?_
  refine tr_s (.aload_n 0) 1 4 [some (.ref 1099), some (.int x1), some (.int x2)] [.ref 1099, .int x2] h rfl rfl rfl ?_
  refine tl_gr hL 9 99 8 0 100 [1100, 1101, 1102, 1103, 1104, 1105, 0, 0, 0, 0, 0, 0, 0, 0, 0, 0, 0, 0, 0, 0, 0, 1106, 0, 1107, 1108, 0, 0, 0] rfl rfl rfl rfl ?_
  refine tr_ic 1 1 (by decide) rfl ?_
  refine tl_ald hL .iaload 100 0 124 j0 1 rfl (by decide) rfl e0 b0 (by decide) ?_
  exact tr_if2 .ge 21 30 x2 ((hh_a h 100).getD j0 0) rfl rfl rfl (fun hc => t ((tr_ge hc).1 rfl)) (fun hc => f ((tr_ge hc).2 rfl))
theorem sg_X9_catOn_12 {g : tr_g} {d : Nat} {h : ev_AH} {r : ev_O × ev_AH} {x1 x2 v0 : Int32} {h1 : ev_AH} (hL : hh_L h) (c_0 : tr_L g d m_X9_of 0 [some (.ref 1099), some (.int x2), some (.int 0)] [] h (.inl (some (.int v0)), h1)) (t : v0 ≠ x1 → tr_L g (d + 1) m_X9_catOn 24 [some (.ref 1099), some (.int x1), some (.int x2)] [] h1 r) (f : v0 = x1 → tr_L g (d + 1) m_X9_catOn 22 [some (.ref 1099), some (.int x1), some (.int x2)] [] h1 r) : tr_L g (d + 1) m_X9_catOn 12 [some (.ref 1099), some (.int x1), some (.int x2)] [] h r := by
  refine tr_s (.aload_n 0) 1 13 [some (.ref 1099), some (.int x1), some (.int x2)] [.ref 1099] h rfl rfl rfl ?_
  refine tr_s (.iload_n 2) 1 14 [some (.ref 1099), some (.int x1), some (.int x2)] [.int x2, .ref 1099] h rfl rfl rfl ?_
  refine tr_ic 0 0 (by decide) rfl ?_
  refine tr_call (.invokevirtual 74) 74 0 2 8 m_X9_of [.ref 1099, .int x2, .int 0] [] (some (.int v0)) h1 rfl rfl rfl rfl rfl rfl rfl rfl rfl (tr_cok rfl (Or.inr ⟨_, _, rfl, tr_rc (hh_rd (hh_obj hL (k := 99) rfl).1) (by decide)⟩)) c_0 ?_
  have hL0 := c_0.2
  refine tr_s (.iload_n 1) 1 19 [some (.ref 1099), some (.int x1), some (.int x2)] [.int x1, .int v0] h1 rfl rfl rfl ?_
  exact tr_if2 .ne 5 24 v0 x1 rfl rfl rfl (fun hc => t ((tr_ne hc).1 rfl)) (fun hc => f ((tr_ne hc).2 rfl))
theorem sg_X9_catOn_22 {g : tr_g} {d : Nat} {h : ev_AH} {r : ev_O × ev_AH} {w0 w1 : Option Value} {x2 : Int32} (hL : hh_L h) (hr : r = (.inl (some (.int x2)), h)) : tr_L g d m_X9_catOn 22 [w0, w1, some (.int x2)] [] h r := by
  refine tr_s (.iload_n 2) 1 23 [w0, w1, some (.int x2)] [.int x2] h rfl rfl rfl ?_
  exact tl_ret hL .ireturn 1 (some (.int x2)) rfl rfl rfl rfl hr
theorem sg_X9_catOn_24 {g : tr_g} {d : Nat} {h : ev_AH} {r : ev_O × ev_AH} {x1 x2 : Int32} (hL : hh_L h) (k : tr_L g d m_X9_catOn 2 [some (.ref 1099), some (.int x1), some (.int (x2 + 1))] [] h r) : tr_L g d m_X9_catOn 24 [some (.ref 1099), some (.int x1), some (.int x2)] [] h r := by
  refine tr_inc 2 1 x2 1 (by decide) rfl rfl rfl ?_
  refine tr_goto (-25) 2 rfl rfl rfl ?_
  exact k
theorem sg_X9_catOn_30 {g : tr_g} {d : Nat} {h : ev_AH} {r : ev_O × ev_AH} {w0 w1 w2 : Option Value} (hL : hh_L h) (hr : r = (.inl (some (.int (-1))), h)) : tr_L g d m_X9_catOn 30 [w0, w1, w2] [] h r := by
  refine tr_ic (-1) (-1) (by decide) rfl ?_
  exact tl_ret hL .ireturn 1 (some (.int (-1))) rfl rfl rfl rfl hr
theorem sg_X9_of_0 {g : tr_g} {d : Nat} {h : ev_AH} {r : ev_O × ev_AH} {x1 x2 : Int32} {j0 : Nat} (hL : hh_L h) (e0 : (54 + (10 * x1)) + x2 = Int32.ofNat j0) (b0 : j0 < 124) (hr : r = (.inl (some (.int ((hh_a h 100).getD j0 0))), h)) : tr_L g d m_X9_of 0 [some (.ref 1099), some (.int x1), some (.int x2)] [] h r := by
  refine tr_s (.aload_n 0) 1 1 [some (.ref 1099), some (.int x1), some (.int x2)] [.ref 1099] h rfl rfl rfl ?_
  refine tl_gr hL 9 99 8 0 100 [1100, 1101, 1102, 1103, 1104, 1105, 0, 0, 0, 0, 0, 0, 0, 0, 0, 0, 0, 0, 0, 0, 0, 1106, 0, 1107, 1108, 0, 0, 0] rfl rfl rfl rfl ?_
  refine tr_bi 54 54 (by decide) rfl ?_
  refine tr_bi 10 10 (by decide) rfl ?_
  refine tr_s (.iload_n 1) 1 9 [some (.ref 1099), some (.int x1), some (.int x2)] [.int x1, .int 10, .int 54, .ref 1100] h rfl rfl rfl ?_
  refine tr_s .imul 1 10 [some (.ref 1099), some (.int x1), some (.int x2)] [.int (10 * x1), .int 54, .ref 1100] h rfl rfl rfl ?_
  refine tr_s .iadd 1 11 [some (.ref 1099), some (.int x1), some (.int x2)] [.int (54 + (10 * x1)), .ref 1100] h rfl rfl rfl ?_
  refine tr_s (.iload_n 2) 1 12 [some (.ref 1099), some (.int x1), some (.int x2)] [.int x2, .int (54 + (10 * x1)), .ref 1100] h rfl rfl rfl ?_
  refine tr_s .iadd 1 13 [some (.ref 1099), some (.int x1), some (.int x2)] [.int ((54 + (10 * x1)) + x2), .ref 1100] h rfl rfl rfl ?_
  refine tl_ald hL .iaload 100 0 124 j0 ((54 + (10 * x1)) + x2) rfl (by decide) rfl e0 b0 (by decide) ?_
  exact tl_ret hL .ireturn 1 (some (.int ((hh_a h 100).getD j0 0))) rfl rfl rfl rfl hr
theorem sg_X9_sets_0 {g : tr_g} {d : Nat} {h : ev_AH} {r : ev_O × ev_AH} {x1 x2 x3 : Int32} {j0 : Nat} (hL : hh_L h) (e0 : (54 + (10 * x1)) + x2 = Int32.ofNat j0) (b0 : j0 < 124) (hr : r = (.inl (none), hh_sa h 100 0 ((hh_a h 100).set j0 x3))) : tr_L g d m_X9_sets 0 [some (.ref 1099), some (.int x1), some (.int x2), some (.int x3)] [] h r := by
  refine tr_s (.aload_n 0) 1 1 [some (.ref 1099), some (.int x1), some (.int x2), some (.int x3)] [.ref 1099] h rfl rfl rfl ?_
  refine tl_gr hL 9 99 8 0 100 [1100, 1101, 1102, 1103, 1104, 1105, 0, 0, 0, 0, 0, 0, 0, 0, 0, 0, 0, 0, 0, 0, 0, 1106, 0, 1107, 1108, 0, 0, 0] rfl rfl rfl rfl ?_
  refine tr_bi 54 54 (by decide) rfl ?_
  refine tr_bi 10 10 (by decide) rfl ?_
  refine tr_s (.iload_n 1) 1 9 [some (.ref 1099), some (.int x1), some (.int x2), some (.int x3)] [.int x1, .int 10, .int 54, .ref 1100] h rfl rfl rfl ?_
  refine tr_s .imul 1 10 [some (.ref 1099), some (.int x1), some (.int x2), some (.int x3)] [.int (10 * x1), .int 54, .ref 1100] h rfl rfl rfl ?_
  refine tr_s .iadd 1 11 [some (.ref 1099), some (.int x1), some (.int x2), some (.int x3)] [.int (54 + (10 * x1)), .ref 1100] h rfl rfl rfl ?_
  refine tr_s (.iload_n 2) 1 12 [some (.ref 1099), some (.int x1), some (.int x2), some (.int x3)] [.int x2, .int (54 + (10 * x1)), .ref 1100] h rfl rfl rfl ?_
  refine tr_s .iadd 1 13 [some (.ref 1099), some (.int x1), some (.int x2), some (.int x3)] [.int ((54 + (10 * x1)) + x2), .ref 1100] h rfl rfl rfl ?_
  refine tr_s (.iload_n 3) 1 14 [some (.ref 1099), some (.int x1), some (.int x2), some (.int x3)] [.int x3, .int ((54 + (10 * x1)) + x2), .ref 1100] h rfl rfl rfl ?_
  refine tl_ias hL 100 124 j0 ((54 + (10 * x1)) + x2) x3 rfl rfl e0 b0 (by decide) ?_
  have hL0 := hh_L_ss (j := j0) (x := x3) hL (show hh_t[100]? = some (.inl (0, 124)) from rfl)
  exact tl_ret hL0 .return_ 1 none rfl rfl rfl rfl hr
theorem sg_X9_ends_0 {g : tr_g} {d : Nat} {h : ev_AH} {r : ev_O × ev_AH} {x1 : Int32} (hL : hh_L h) (t : (hh_i h 99 7) = 0 → tr_L g d m_X9_ends 37 [some (.ref 1099), some (.int x1), none] [] h r) (f : (hh_i h 99 7) ≠ 0 → tr_L g d m_X9_ends 7 [some (.ref 1099), some (.int x1), none] [] h r) : tr_L g d m_X9_ends 0 [some (.ref 1099), some (.int x1), none] [] h r := by
  refine tr_s (.aload_n 0) 1 1 [some (.ref 1099), some (.int x1), none] [.ref 1099] h rfl rfl rfl ?_
  refine tl_gi hL 41 99 8 7 [1100, 1101, 1102, 1103, 1104, 1105, 0, 0, 0, 0, 0, 0, 0, 0, 0, 0, 0, 0, 0, 0, 0, 1106, 0, 1107, 1108, 0, 0, 0] rfl rfl rfl rfl ?_
  exact tr_if1 .eq 33 37 (hh_i h 99 7) rfl rfl rfl (fun hc => t ((tr_eq hc).1 rfl)) (fun hc => f ((tr_eq hc).2 rfl))
theorem sg_X9_ends_7 {g : tr_g} {d : Nat} {h : ev_AH} {r : ev_O × ev_AH} {w1 w2 : Option Value} (hL : hh_L h) (t : (hh_i h 99 12) ≤ 0 → tr_L g d m_X9_ends 35 [some (.ref 1099), w1, w2] [] h r) (f : 0 < (hh_i h 99 12) → tr_L g d m_X9_ends 14 [some (.ref 1099), w1, w2] [] h r) : tr_L g d m_X9_ends 7 [some (.ref 1099), w1, w2] [] h r := by
  refine tr_s (.aload_n 0) 1 8 [some (.ref 1099), w1, w2] [.ref 1099] h rfl rfl rfl ?_
  refine tl_gi hL 48 99 8 12 [1100, 1101, 1102, 1103, 1104, 1105, 0, 0, 0, 0, 0, 0, 0, 0, 0, 0, 0, 0, 0, 0, 0, 1106, 0, 1107, 1108, 0, 0, 0] rfl rfl rfl rfl ?_
  exact tr_if1 .le 24 35 (hh_i h 99 12) rfl rfl rfl (fun hc => t ((tr_le hc).1 rfl)) (fun hc => f ((tr_le hc).2 rfl))
theorem sg_X9_ends_14 {g : tr_g} {d : Nat} {h : ev_AH} {r : ev_O × ev_AH} {w1 w2 : Option Value} (hL : hh_L h) (hr : r = (.inl (some (.int 0)), hh_si (hh_si (hh_si h 99 8 9 (hh_i h 99 12)) 99 8 10 (hh_i (hh_si h 99 8 9 (hh_i h 99 12)) 99 13)) 99 8 11 0)) : tr_L g d m_X9_ends 14 [some (.ref 1099), w1, w2] [] h r := by
  refine tr_s (.aload_n 0) 1 15 [some (.ref 1099), w1, w2] [.ref 1099] h rfl rfl rfl ?_
  refine tr_s (.aload_n 0) 1 16 [some (.ref 1099), w1, w2] [.ref 1099, .ref 1099] h rfl rfl rfl ?_
  refine tl_gi hL 48 99 8 12 [1100, 1101, 1102, 1103, 1104, 1105, 0, 0, 0, 0, 0, 0, 0, 0, 0, 0, 0, 0, 0, 0, 0, 1106, 0, 1107, 1108, 0, 0, 0] rfl rfl rfl rfl ?_
  refine tl_pf hL 51 99 8 9 [1100, 1101, 1102, 1103, 1104, 1105, 0, 0, 0, 0, 0, 0, 0, 0, 0, 0, 0, 0, 0, 0, 0, 1106, 0, 1107, 1108, 0, 0, 0] (hh_i h 99 12) .int rfl rfl rfl rfl rfl tr_oki ?_
  have hL0 := hh_L_si (sl := 9) (x := (hh_i h 99 12)) hL (show hh_t[99]? = some (.inr (8, [1100, 1101, 1102, 1103, 1104, 1105, 0, 0, 0, 0, 0, 0, 0, 0, 0, 0, 0, 0, 0, 0, 0, 1106, 0, 1107, 1108, 0, 0, 0])) from rfl) rfl
  refine tr_s (.aload_n 0) 1 23 [some (.ref 1099), w1, w2] [.ref 1099] (hh_si h 99 8 9 (hh_i h 99 12)) rfl rfl rfl ?_
  refine tr_s (.aload_n 0) 1 24 [some (.ref 1099), w1, w2] [.ref 1099, .ref 1099] (hh_si h 99 8 9 (hh_i h 99 12)) rfl rfl rfl ?_
  refine tl_gi hL0 54 99 8 13 [1100, 1101, 1102, 1103, 1104, 1105, 0, 0, 0, 0, 0, 0, 0, 0, 0, 0, 0, 0, 0, 0, 0, 1106, 0, 1107, 1108, 0, 0, 0] rfl rfl rfl rfl ?_
  refine tl_pf hL0 57 99 8 10 [1100, 1101, 1102, 1103, 1104, 1105, 0, 0, 0, 0, 0, 0, 0, 0, 0, 0, 0, 0, 0, 0, 0, 1106, 0, 1107, 1108, 0, 0, 0] (hh_i (hh_si h 99 8 9 (hh_i h 99 12)) 99 13) .int rfl rfl rfl rfl rfl tr_oki ?_
  have hL1 := hh_L_si (sl := 10) (x := (hh_i (hh_si h 99 8 9 (hh_i h 99 12)) 99 13)) hL0 (show hh_t[99]? = some (.inr (8, [1100, 1101, 1102, 1103, 1104, 1105, 0, 0, 0, 0, 0, 0, 0, 0, 0, 0, 0, 0, 0, 0, 0, 1106, 0, 1107, 1108, 0, 0, 0])) from rfl) rfl
  refine tr_s (.aload_n 0) 1 31 [some (.ref 1099), w1, w2] [.ref 1099] (hh_si (hh_si h 99 8 9 (hh_i h 99 12)) 99 8 10 (hh_i (hh_si h 99 8 9 (hh_i h 99 12)) 99 13)) rfl rfl rfl ?_
  refine tr_ic 0 0 (by decide) rfl ?_
  refine tl_pf hL1 60 99 8 11 [1100, 1101, 1102, 1103, 1104, 1105, 0, 0, 0, 0, 0, 0, 0, 0, 0, 0, 0, 0, 0, 0, 0, 1106, 0, 1107, 1108, 0, 0, 0] 0 .int rfl rfl rfl rfl rfl tr_oki ?_
  have hL2 := hh_L_si (sl := 11) (x := 0) hL1 (show hh_t[99]? = some (.inr (8, [1100, 1101, 1102, 1103, 1104, 1105, 0, 0, 0, 0, 0, 0, 0, 0, 0, 0, 0, 0, 0, 0, 0, 1106, 0, 1107, 1108, 0, 0, 0])) from rfl) rfl
  refine tr_ic 0 0 (by decide) rfl ?_
  exact tl_ret hL2 .ireturn 1 (some (.int 0)) rfl rfl rfl rfl hr
theorem sg_X9_ends_35 {g : tr_g} {d : Nat} {h : ev_AH} {r : ev_O × ev_AH} {w0 w1 w2 : Option Value} (hL : hh_L h) (hr : r = (.inl (some (.int 0)), h)) : tr_L g d m_X9_ends 35 [w0, w1, w2] [] h r := by
  refine tr_ic 0 0 (by decide) rfl ?_
  exact tl_ret hL .ireturn 1 (some (.int 0)) rfl rfl rfl rfl hr
theorem sg_X9_ends_37 {g : tr_g} {d : Nat} {h : ev_AH} {r : ev_O × ev_AH} {x1 : Int32} {w2 : Option Value} (hL : hh_L h) (t : (hh_i h 99 6) ≠ 8 → tr_L g d m_X9_ends 91 [some (.ref 1099), some (.int x1), w2] [] h r) (f : (hh_i h 99 6) = 8 → tr_L g d m_X9_ends 46 [some (.ref 1099), some (.int x1), w2] [] h r) : tr_L g d m_X9_ends 37 [some (.ref 1099), some (.int x1), w2] [] h r := by
  refine tr_s (.aload_n 0) 1 38 [some (.ref 1099), some (.int x1), w2] [.ref 1099] h rfl rfl rfl ?_
  refine tl_gi hL 63 99 8 6 [1100, 1101, 1102, 1103, 1104, 1105, 0, 0, 0, 0, 0, 0, 0, 0, 0, 0, 0, 0, 0, 0, 0, 1106, 0, 1107, 1108, 0, 0, 0] rfl rfl rfl rfl ?_
  refine tr_bi 8 8 (by decide) rfl ?_
  exact tr_if2 .ne 48 91 (hh_i h 99 6) 8 rfl rfl rfl (fun hc => t ((tr_ne hc).1 rfl)) (fun hc => f ((tr_ne hc).2 rfl))
theorem sg_X9_ends_46 {g : tr_g} {d : Nat} {h : ev_AH} {r : ev_O × ev_AH} {x1 : Int32} {w2 : Option Value} (hL : hh_L h) (k : tr_L g d m_X9_ends 48 [some (.ref 1099), some (.int x1), some (.int 1)] [] h r) : tr_L g d m_X9_ends 46 [some (.ref 1099), some (.int x1), w2] [] h r := by
  refine tr_ic 1 1 (by decide) rfl ?_
  refine tr_st (.istore_n 2) 1 2 0 (.int 1) rfl rfl rfl rfl rfl rfl rfl ?_
  exact k
theorem sg_X9_ends_48 {g : tr_g} {d : Nat} {h : ev_AH} {r : ev_O × ev_AH} {x1 x2 : Int32} (hL : hh_L h) (t : 8 ≤ x2 → tr_L g d m_X9_ends 81 [some (.ref 1099), some (.int x1), some (.int x2)] [] h r) (f : x2 < 8 → tr_L g d m_X9_ends 54 [some (.ref 1099), some (.int x1), some (.int x2)] [] h r) : tr_L g d m_X9_ends 48 [some (.ref 1099), some (.int x1), some (.int x2)] [] h r := by
  refine tr_s (.iload_n 2) 1 49 [some (.ref 1099), some (.int x1), some (.int x2)] [.int x2] h rfl rfl rfl ?_
  refine tr_bi 8 8 (by decide) rfl ?_
  exact tr_if2 .ge 30 81 x2 8 rfl rfl rfl (fun hc => t ((tr_ge hc).1 rfl)) (fun hc => f ((tr_ge hc).2 rfl))
theorem sg_X9_ends_54 {g : tr_g} {d : Nat} {h : ev_AH} {r : ev_O × ev_AH} {x1 x2 : Int32} {h1 : ev_AH} (hL : hh_L h) (c_0 : tr_L g d m_X9_copies 0 [some (.ref 1103), some (.int (124 * x2)), some (.ref 1103), some (.int (124 * (x2 - 1))), none] [] h (.inl none, h1)) (k : tr_L g (d + 1) m_X9_ends 48 [some (.ref 1099), some (.int x1), some (.int (x2 + 1))] [] h1 r) : tr_L g (d + 1) m_X9_ends 54 [some (.ref 1099), some (.int x1), some (.int x2)] [] h r := by
  refine tr_s (.aload_n 0) 1 55 [some (.ref 1099), some (.int x1), some (.int x2)] [.ref 1099] h rfl rfl rfl ?_
  refine tl_gr hL 19 99 8 3 103 [1100, 1101, 1102, 1103, 1104, 1105, 0, 0, 0, 0, 0, 0, 0, 0, 0, 0, 0, 0, 0, 0, 0, 1106, 0, 1107, 1108, 0, 0, 0] rfl rfl rfl rfl ?_
  refine tr_bi 124 124 (by decide) rfl ?_
  refine tr_s (.iload_n 2) 1 61 [some (.ref 1099), some (.int x1), some (.int x2)] [.int x2, .int 124, .ref 1103] h rfl rfl rfl ?_
  refine tr_s .imul 1 62 [some (.ref 1099), some (.int x1), some (.int x2)] [.int (124 * x2), .ref 1103] h rfl rfl rfl ?_
  refine tr_s (.aload_n 0) 1 63 [some (.ref 1099), some (.int x1), some (.int x2)] [.ref 1099, .int (124 * x2), .ref 1103] h rfl rfl rfl ?_
  refine tl_gr hL 19 99 8 3 103 [1100, 1101, 1102, 1103, 1104, 1105, 0, 0, 0, 0, 0, 0, 0, 0, 0, 0, 0, 0, 0, 0, 0, 1106, 0, 1107, 1108, 0, 0, 0] rfl rfl rfl rfl ?_
  refine tr_bi 124 124 (by decide) rfl ?_
  refine tr_s (.iload_n 2) 1 69 [some (.ref 1099), some (.int x1), some (.int x2)] [.int x2, .int 124, .ref 1103, .int (124 * x2), .ref 1103] h rfl rfl rfl ?_
  refine tr_ic 1 1 (by decide) rfl ?_
  refine tr_s .isub 1 71 [some (.ref 1099), some (.int x1), some (.int x2)] [.int (x2 - 1), .int 124, .ref 1103, .int (124 * x2), .ref 1103] h rfl rfl rfl ?_
  refine tr_s .imul 1 72 [some (.ref 1099), some (.int x1), some (.int x2)] [.int (124 * (x2 - 1)), .ref 1103, .int (124 * x2), .ref 1103] h rfl rfl rfl ?_
  refine tr_call (.invokestatic 44) 44 2 4 0 m_X9_copies [.ref 1103, .int (124 * x2), .ref 1103, .int (124 * (x2 - 1))] [] none h1 rfl rfl rfl rfl rfl rfl rfl rfl rfl (tr_cok rfl (Or.inl rfl)) c_0 ?_
  have hL0 := c_0.2
  refine tr_inc 2 1 x2 1 (by decide) rfl rfl rfl ?_
  refine tr_goto (-30) 48 rfl rfl rfl ?_
  exact k
theorem sg_X9_ends_81 {g : tr_g} {d : Nat} {h : ev_AH} {r : ev_O × ev_AH} {x1 : Int32} {w2 : Option Value} (hL : hh_L h) (k : tr_L g d m_X9_ends 91 [some (.ref 1099), some (.int x1), w2] [] (hh_si h 99 8 6 ((hh_i h 99 6) - 1)) r) : tr_L g d m_X9_ends 81 [some (.ref 1099), some (.int x1), w2] [] h r := by
  refine tr_s (.aload_n 0) 1 82 [some (.ref 1099), some (.int x1), w2] [.ref 1099] h rfl rfl rfl ?_
  refine tr_s .dup 1 83 [some (.ref 1099), some (.int x1), w2] [.ref 1099, .ref 1099] h rfl rfl rfl ?_
  refine tl_gi hL 63 99 8 6 [1100, 1101, 1102, 1103, 1104, 1105, 0, 0, 0, 0, 0, 0, 0, 0, 0, 0, 0, 0, 0, 0, 0, 1106, 0, 1107, 1108, 0, 0, 0] rfl rfl rfl rfl ?_
  refine tr_ic 1 1 (by decide) rfl ?_
  refine tr_s .isub 1 88 [some (.ref 1099), some (.int x1), w2] [.int ((hh_i h 99 6) - 1), .ref 1099] h rfl rfl rfl ?_
  refine tl_pf hL 63 99 8 6 [1100, 1101, 1102, 1103, 1104, 1105, 0, 0, 0, 0, 0, 0, 0, 0, 0, 0, 0, 0, 0, 0, 0, 1106, 0, 1107, 1108, 0, 0, 0] ((hh_i h 99 6) - 1) .int rfl rfl rfl rfl rfl tr_oki ?_
  have hL0 := hh_L_si (sl := 6) (x := ((hh_i h 99 6) - 1)) hL (show hh_t[99]? = some (.inr (8, [1100, 1101, 1102, 1103, 1104, 1105, 0, 0, 0, 0, 0, 0, 0, 0, 0, 0, 0, 0, 0, 0, 0, 1106, 0, 1107, 1108, 0, 0, 0])) from rfl) rfl
  exact k
theorem sg_X9_ends_91 {g : tr_g} {d : Nat} {h : ev_AH} {r : ev_O × ev_AH} {x1 : Int32} {w2 : Option Value} {h1 : ev_AH} (hL : hh_L h) (c_0 : tr_L g d m_X9_copies 0 [some (.ref 1101), some (.int 0), some (.ref 1103), some (.int (124 * (hh_i h 99 6))), none] [] h (.inl none, h1)) (hr : r = (.inl (some (.int x1)), hh_si h1 99 8 6 ((hh_i h1 99 6) + 1))) : tr_L g (d + 1) m_X9_ends 91 [some (.ref 1099), some (.int x1), w2] [] h r := by
  refine tr_s (.aload_n 0) 1 92 [some (.ref 1099), some (.int x1), w2] [.ref 1099] h rfl rfl rfl ?_
  refine tl_gr hL 13 99 8 1 101 [1100, 1101, 1102, 1103, 1104, 1105, 0, 0, 0, 0, 0, 0, 0, 0, 0, 0, 0, 0, 0, 0, 0, 1106, 0, 1107, 1108, 0, 0, 0] rfl rfl rfl rfl ?_
  refine tr_ic 0 0 (by decide) rfl ?_
  refine tr_s (.aload_n 0) 1 97 [some (.ref 1099), some (.int x1), w2] [.ref 1099, .int 0, .ref 1101] h rfl rfl rfl ?_
  refine tl_gr hL 19 99 8 3 103 [1100, 1101, 1102, 1103, 1104, 1105, 0, 0, 0, 0, 0, 0, 0, 0, 0, 0, 0, 0, 0, 0, 0, 1106, 0, 1107, 1108, 0, 0, 0] rfl rfl rfl rfl ?_
  refine tr_bi 124 124 (by decide) rfl ?_
  refine tr_s (.aload_n 0) 1 103 [some (.ref 1099), some (.int x1), w2] [.ref 1099, .int 124, .ref 1103, .int 0, .ref 1101] h rfl rfl rfl ?_
  refine tl_gi hL 63 99 8 6 [1100, 1101, 1102, 1103, 1104, 1105, 0, 0, 0, 0, 0, 0, 0, 0, 0, 0, 0, 0, 0, 0, 0, 1106, 0, 1107, 1108, 0, 0, 0] rfl rfl rfl rfl ?_
  refine tr_s .imul 1 107 [some (.ref 1099), some (.int x1), w2] [.int (124 * (hh_i h 99 6)), .ref 1103, .int 0, .ref 1101] h rfl rfl rfl ?_
  refine tr_call (.invokestatic 44) 44 2 4 0 m_X9_copies [.ref 1101, .int 0, .ref 1103, .int (124 * (hh_i h 99 6))] [] none h1 rfl rfl rfl rfl rfl rfl rfl rfl rfl (tr_cok rfl (Or.inl rfl)) c_0 ?_
  have hL0 := c_0.2
  refine tr_s (.aload_n 0) 1 111 [some (.ref 1099), some (.int x1), w2] [.ref 1099] h1 rfl rfl rfl ?_
  refine tr_s .dup 1 112 [some (.ref 1099), some (.int x1), w2] [.ref 1099, .ref 1099] h1 rfl rfl rfl ?_
  refine tl_gi hL0 63 99 8 6 [1100, 1101, 1102, 1103, 1104, 1105, 0, 0, 0, 0, 0, 0, 0, 0, 0, 0, 0, 0, 0, 0, 0, 1106, 0, 1107, 1108, 0, 0, 0] rfl rfl rfl rfl ?_
  refine tr_ic 1 1 (by decide) rfl ?_
  refine tr_s .iadd 1 117 [some (.ref 1099), some (.int x1), w2] [.int ((hh_i h1 99 6) + 1), .ref 1099] h1 rfl rfl rfl ?_
  refine tl_pf hL0 63 99 8 6 [1100, 1101, 1102, 1103, 1104, 1105, 0, 0, 0, 0, 0, 0, 0, 0, 0, 0, 0, 0, 0, 0, 0, 1106, 0, 1107, 1108, 0, 0, 0] ((hh_i h1 99 6) + 1) .int rfl rfl rfl rfl rfl tr_oki ?_
  have hL1 := hh_L_si (sl := 6) (x := ((hh_i h1 99 6) + 1)) hL0 (show hh_t[99]? = some (.inr (8, [1100, 1101, 1102, 1103, 1104, 1105, 0, 0, 0, 0, 0, 0, 0, 0, 0, 0, 0, 0, 0, 0, 0, 1106, 0, 1107, 1108, 0, 0, 0])) from rfl) rfl
  refine tr_s (.iload_n 1) 1 121 [some (.ref 1099), some (.int x1), w2] [.int x1] (hh_si h1 99 8 6 ((hh_i h1 99 6) + 1)) rfl rfl rfl ?_
  exact tl_ret hL1 .ireturn 1 (some (.int x1)) rfl rfl rfl rfl hr
theorem sg_X9_setMirror_0 {g : tr_g} {d : Nat} {h : ev_AH} {r : ev_O × ev_AH} {x1 x2 v0 v1 : Int32} {h1 h2 h3 : ev_AH} (hL : hh_L h) (c_0 : tr_L g d m_X9_keeps 0 [some (.ref 1099)] [] h (.inl none, h1)) (c_1 : tr_L g d m_X9_mirror 0 [some (.ref 1099), some (.int x1), some (.int x2), none] [] h1 (.inl (some (.int v0)), h2)) (c_2 : tr_L g d m_X9_ends 0 [some (.ref 1099), some (.int v0), none] [] h2 (.inl (some (.int v1)), h3)) (hr : r = (.inl (some (.int v1)), h3)) : tr_L g (d + 1) m_X9_setMirror 0 [some (.ref 1099), some (.int x1), some (.int x2)] [] h r := by
  refine tr_s (.aload_n 0) 1 1 [some (.ref 1099), some (.int x1), some (.int x2)] [.ref 1099] h rfl rfl rfl ?_
  refine tr_call (.invokevirtual 100) 100 0 0 8 m_X9_keeps [.ref 1099] [] none h1 rfl rfl rfl rfl rfl rfl rfl rfl rfl (tr_cok rfl (Or.inr ⟨_, _, rfl, tr_rc (hh_rd (hh_obj hL (k := 99) rfl).1) (by decide)⟩)) c_0 ?_
  have hL0 := c_0.2
  refine tr_s (.aload_n 0) 1 5 [some (.ref 1099), some (.int x1), some (.int x2)] [.ref 1099] h1 rfl rfl rfl ?_
  refine tr_s (.aload_n 0) 1 6 [some (.ref 1099), some (.int x1), some (.int x2)] [.ref 1099, .ref 1099] h1 rfl rfl rfl ?_
  refine tr_s (.iload_n 1) 1 7 [some (.ref 1099), some (.int x1), some (.int x2)] [.int x1, .ref 1099, .ref 1099] h1 rfl rfl rfl ?_
  refine tr_s (.iload_n 2) 1 8 [some (.ref 1099), some (.int x1), some (.int x2)] [.int x2, .int x1, .ref 1099, .ref 1099] h1 rfl rfl rfl ?_
  refine tr_call (.invokevirtual 117) 117 0 2 8 m_X9_mirror [.ref 1099, .int x1, .int x2] [.ref 1099] (some (.int v0)) h2 rfl rfl rfl rfl rfl rfl rfl rfl rfl (tr_cok rfl (Or.inr ⟨_, _, rfl, tr_rc (hh_rd (hh_obj hL0 (k := 99) rfl).1) (by decide)⟩)) c_1 ?_
  have hL1 := c_1.2
  refine tr_call (.invokevirtual 107) 107 0 1 8 m_X9_ends [.ref 1099, .int v0] [] (some (.int v1)) h3 rfl rfl rfl rfl rfl rfl rfl rfl rfl (tr_cok rfl (Or.inr ⟨_, _, rfl, tr_rc (hh_rd (hh_obj hL1 (k := 99) rfl).1) (by decide)⟩)) c_2 ?_
  have hL2 := c_2.2
  exact tl_ret hL2 .ireturn 1 (some (.int v1)) rfl rfl rfl rfl hr
theorem sg_X9_mirror_0 {g : tr_g} {d : Nat} {h : ev_AH} {r : ev_O × ev_AH} {x1 x2 v0 : Int32} {h1 : ev_AH} (hL : hh_L h) (c_0 : tr_L g d m_X9_isCell 0 [some (.int x1)] [] h (.inl (some (.int v0)), h1)) (t : v0 ≠ 0 → tr_L g (d + 1) m_X9_mirror 12 [some (.ref 1099), some (.int x1), some (.int x2), none] [.ref 1099] h1 r) (f : v0 = 0 → tr_L g (d + 1) m_X9_mirror 8 [some (.ref 1099), some (.int x1), some (.int x2), none] [.ref 1099] h1 r) : tr_L g (d + 1) m_X9_mirror 0 [some (.ref 1099), some (.int x1), some (.int x2), none] [] h r := by
  refine tr_s (.aload_n 0) 1 1 [some (.ref 1099), some (.int x1), some (.int x2), none] [.ref 1099] h rfl rfl rfl ?_
  refine tr_s (.iload_n 1) 1 2 [some (.ref 1099), some (.int x1), some (.int x2), none] [.int x1, .ref 1099] h rfl rfl rfl ?_
  refine tr_call (.invokestatic 82) 82 2 1 0 m_X9_isCell [.int x1] [.ref 1099] (some (.int v0)) h1 rfl rfl rfl rfl rfl rfl rfl rfl rfl (tr_cok rfl (Or.inl rfl)) c_0 ?_
  have hL0 := c_0.2
  exact tr_if1 .ne 7 12 v0 rfl rfl rfl (fun hc => t ((tr_ne hc).1 rfl)) (fun hc => f ((tr_ne hc).2 rfl))
theorem sg_X9_mirror_8 {g : tr_g} {d : Nat} {h : ev_AH} {r : ev_O × ev_AH} {x1 x2 v0 : Int32} {w3 : Option Value} {h1 : ev_AH} (hL : hh_L h) (c_0 : tr_L g d m_X9_isThrown 0 [some (.ref 1099), some (.int 1), some (.int 1)] [] h (.inl (some (.int v0)), h1)) (t : v0 ≠ 0 → tr_L g (d + 1) m_X9_mirror 67 [some (.ref 1099), some (.int x1), some (.int x2), w3] [] h1 r) (f : v0 = 0 → tr_L g (d + 1) m_X9_mirror 20 [some (.ref 1099), some (.int x1), some (.int x2), w3] [] h1 r) : tr_L g (d + 1) m_X9_mirror 8 [some (.ref 1099), some (.int x1), some (.int x2), w3] [.ref 1099] h r := by
  refine tr_ic 1 1 (by decide) rfl ?_
  refine tr_goto 4 13 rfl rfl rfl ?_
  refine tr_ic 1 1 (by decide) rfl ?_
  refine tr_call (.invokevirtual 66) 66 0 2 8 m_X9_isThrown [.ref 1099, .int 1, .int 1] [] (some (.int v0)) h1 rfl rfl rfl rfl rfl rfl rfl rfl rfl (tr_cok rfl (Or.inr ⟨_, _, rfl, tr_rc (hh_rd (hh_obj hL (k := 99) rfl).1) (by decide)⟩)) c_0 ?_
  have hL0 := c_0.2
  exact tr_if1 .ne 50 67 v0 rfl rfl rfl (fun hc => t ((tr_ne hc).1 rfl)) (fun hc => f ((tr_ne hc).2 rfl))
theorem sg_X9_mirror_12 {g : tr_g} {d : Nat} {h : ev_AH} {r : ev_O × ev_AH} {x1 x2 v0 : Int32} {w3 : Option Value} {h1 : ev_AH} (hL : hh_L h) (c_0 : tr_L g d m_X9_isThrown 0 [some (.ref 1099), some (.int 0), some (.int 1)] [] h (.inl (some (.int v0)), h1)) (t : v0 ≠ 0 → tr_L g (d + 1) m_X9_mirror 67 [some (.ref 1099), some (.int x1), some (.int x2), w3] [] h1 r) (f : v0 = 0 → tr_L g (d + 1) m_X9_mirror 20 [some (.ref 1099), some (.int x1), some (.int x2), w3] [] h1 r) : tr_L g (d + 1) m_X9_mirror 12 [some (.ref 1099), some (.int x1), some (.int x2), w3] [.ref 1099] h r := by
  refine tr_ic 0 0 (by decide) rfl ?_
  refine tr_ic 1 1 (by decide) rfl ?_
  refine tr_call (.invokevirtual 66) 66 0 2 8 m_X9_isThrown [.ref 1099, .int 0, .int 1] [] (some (.int v0)) h1 rfl rfl rfl rfl rfl rfl rfl rfl rfl (tr_cok rfl (Or.inr ⟨_, _, rfl, tr_rc (hh_rd (hh_obj hL (k := 99) rfl).1) (by decide)⟩)) c_0 ?_
  have hL0 := c_0.2
  exact tr_if1 .ne 50 67 v0 rfl rfl rfl (fun hc => t ((tr_ne hc).1 rfl)) (fun hc => f ((tr_ne hc).2 rfl))
theorem sg_X9_mirror_20 {g : tr_g} {d : Nat} {h : ev_AH} {r : ev_O × ev_AH} {x1 x2 v0 : Int32} {w3 : Option Value} {h1 : ev_AH} (hL : hh_L h) (c_0 : tr_L g d m_X9_isContent 0 [some (.int x2)] [] h (.inl (some (.int v0)), h1)) (t : v0 ≠ 0 → tr_L g (d + 1) m_X9_mirror 32 [some (.ref 1099), some (.int x1), some (.int x2), w3] [.ref 1099] h1 r) (f : v0 = 0 → tr_L g (d + 1) m_X9_mirror 28 [some (.ref 1099), some (.int x1), some (.int x2), w3] [.ref 1099] h1 r) : tr_L g (d + 1) m_X9_mirror 20 [some (.ref 1099), some (.int x1), some (.int x2), w3] [] h r := by
  refine tr_s (.aload_n 0) 1 21 [some (.ref 1099), some (.int x1), some (.int x2), w3] [.ref 1099] h rfl rfl rfl ?_
  refine tr_s (.iload_n 2) 1 22 [some (.ref 1099), some (.int x1), some (.int x2), w3] [.int x2, .ref 1099] h rfl rfl rfl ?_
  refine tr_call (.invokestatic 110) 110 2 1 0 m_X9_isContent [.int x2] [.ref 1099] (some (.int v0)) h1 rfl rfl rfl rfl rfl rfl rfl rfl rfl (tr_cok rfl (Or.inl rfl)) c_0 ?_
  have hL0 := c_0.2
  exact tr_if1 .ne 7 32 v0 rfl rfl rfl (fun hc => t ((tr_ne hc).1 rfl)) (fun hc => f ((tr_ne hc).2 rfl))
theorem sg_X9_mirror_28 {g : tr_g} {d : Nat} {h : ev_AH} {r : ev_O × ev_AH} {x1 x2 v0 : Int32} {w3 : Option Value} {h1 : ev_AH} (hL : hh_L h) (c_0 : tr_L g d m_X9_isThrown 0 [some (.ref 1099), some (.int 1), some (.int 2)] [] h (.inl (some (.int v0)), h1)) (t : v0 ≠ 0 → tr_L g (d + 1) m_X9_mirror 67 [some (.ref 1099), some (.int x1), some (.int x2), w3] [] h1 r) (f : v0 = 0 → tr_L g (d + 1) m_X9_mirror 40 [some (.ref 1099), some (.int x1), some (.int x2), w3] [] h1 r) : tr_L g (d + 1) m_X9_mirror 28 [some (.ref 1099), some (.int x1), some (.int x2), w3] [.ref 1099] h r := by
  refine tr_ic 1 1 (by decide) rfl ?_
  refine tr_goto 4 33 rfl rfl rfl ?_
  refine tr_ic 2 2 (by decide) rfl ?_
  refine tr_call (.invokevirtual 66) 66 0 2 8 m_X9_isThrown [.ref 1099, .int 1, .int 2] [] (some (.int v0)) h1 rfl rfl rfl rfl rfl rfl rfl rfl rfl (tr_cok rfl (Or.inr ⟨_, _, rfl, tr_rc (hh_rd (hh_obj hL (k := 99) rfl).1) (by decide)⟩)) c_0 ?_
  have hL0 := c_0.2
  exact tr_if1 .ne 30 67 v0 rfl rfl rfl (fun hc => t ((tr_ne hc).1 rfl)) (fun hc => f ((tr_ne hc).2 rfl))
theorem sg_X9_mirror_32 {g : tr_g} {d : Nat} {h : ev_AH} {r : ev_O × ev_AH} {x1 x2 v0 : Int32} {w3 : Option Value} {h1 : ev_AH} (hL : hh_L h) (c_0 : tr_L g d m_X9_isThrown 0 [some (.ref 1099), some (.int 0), some (.int 2)] [] h (.inl (some (.int v0)), h1)) (t : v0 ≠ 0 → tr_L g (d + 1) m_X9_mirror 67 [some (.ref 1099), some (.int x1), some (.int x2), w3] [] h1 r) (f : v0 = 0 → tr_L g (d + 1) m_X9_mirror 40 [some (.ref 1099), some (.int x1), some (.int x2), w3] [] h1 r) : tr_L g (d + 1) m_X9_mirror 32 [some (.ref 1099), some (.int x1), some (.int x2), w3] [.ref 1099] h r := by
  refine tr_ic 0 0 (by decide) rfl ?_
  refine tr_ic 2 2 (by decide) rfl ?_
  refine tr_call (.invokevirtual 66) 66 0 2 8 m_X9_isThrown [.ref 1099, .int 0, .int 2] [] (some (.int v0)) h1 rfl rfl rfl rfl rfl rfl rfl rfl rfl (tr_cok rfl (Or.inr ⟨_, _, rfl, tr_rc (hh_rd (hh_obj hL (k := 99) rfl).1) (by decide)⟩)) c_0 ?_
  have hL0 := c_0.2
  exact tr_if1 .ne 30 67 v0 rfl rfl rfl (fun hc => t ((tr_ne hc).1 rfl)) (fun hc => f ((tr_ne hc).2 rfl))
theorem sg_X9_mirror_40 {g : tr_g} {d : Nat} {h : ev_AH} {r : ev_O × ev_AH} {x1 x2 v0 : Int32} {w3 : Option Value} {h1 : ev_AH} (hL : hh_L h) (c_0 : tr_L g d m_X9_catOn 0 [some (.ref 1099), some (.int x1), none] [] h (.inl (some (.int v0)), h1)) (t : v0 < 0 → tr_L g (d + 1) m_X9_mirror 53 [some (.ref 1099), some (.int x1), some (.int x2), w3] [.ref 1099] h1 r) (f : 0 ≤ v0 → tr_L g (d + 1) m_X9_mirror 49 [some (.ref 1099), some (.int x1), some (.int x2), w3] [.ref 1099] h1 r) : tr_L g (d + 1) m_X9_mirror 40 [some (.ref 1099), some (.int x1), some (.int x2), w3] [] h r := by
  refine tr_s (.aload_n 0) 1 41 [some (.ref 1099), some (.int x1), some (.int x2), w3] [.ref 1099] h rfl rfl rfl ?_
  refine tr_s (.aload_n 0) 1 42 [some (.ref 1099), some (.int x1), some (.int x2), w3] [.ref 1099, .ref 1099] h rfl rfl rfl ?_
  refine tr_s (.iload_n 1) 1 43 [some (.ref 1099), some (.int x1), some (.int x2), w3] [.int x1, .ref 1099, .ref 1099] h rfl rfl rfl ?_
  refine tr_call (.invokevirtual 92) 92 0 1 8 m_X9_catOn [.ref 1099, .int x1] [.ref 1099] (some (.int v0)) h1 rfl rfl rfl rfl rfl rfl rfl rfl rfl (tr_cok rfl (Or.inr ⟨_, _, rfl, tr_rc (hh_rd (hh_obj hL (k := 99) rfl).1) (by decide)⟩)) c_0 ?_
  have hL0 := c_0.2
  exact tr_if1 .lt 7 53 v0 rfl rfl rfl (fun hc => t ((tr_lt hc).1 rfl)) (fun hc => f ((tr_lt hc).2 rfl))
theorem sg_X9_mirror_49 {g : tr_g} {d : Nat} {h : ev_AH} {r : ev_O × ev_AH} {x1 x2 v0 v1 : Int32} {w3 : Option Value} {h1 h2 : ev_AH} (hL : hh_L h) (c_0 : tr_L g d m_X9_catOn 0 [some (.ref 1099), some (.int x1), none] [] h (.inl (some (.int v0)), h1)) (c_1 : tr_L g d m_X9_isRejected 0 [some (.ref 1099), some (.int 1), some (.int 2), some (.int v0), some (.int 3)] [] h1 (.inl (some (.int v1)), h2)) (t : v1 = 0 → tr_L g (d + 1) m_X9_mirror 69 [some (.ref 1099), some (.int x1), some (.int x2), w3] [] h2 r) (f : v1 ≠ 0 → tr_L g (d + 1) m_X9_mirror 67 [some (.ref 1099), some (.int x1), some (.int x2), w3] [] h2 r) : tr_L g (d + 1) m_X9_mirror 49 [some (.ref 1099), some (.int x1), some (.int x2), w3] [.ref 1099] h r := by
  refine tr_ic 1 1 (by decide) rfl ?_
  refine tr_goto 4 54 rfl rfl rfl ?_
  refine tr_ic 2 2 (by decide) rfl ?_
  refine tr_s (.aload_n 0) 1 56 [some (.ref 1099), some (.int x1), some (.int x2), w3] [.ref 1099, .int 2, .int 1, .ref 1099] h rfl rfl rfl ?_
  refine tr_s (.iload_n 1) 1 57 [some (.ref 1099), some (.int x1), some (.int x2), w3] [.int x1, .ref 1099, .int 2, .int 1, .ref 1099] h rfl rfl rfl ?_
  refine tr_call (.invokevirtual 92) 92 0 1 8 m_X9_catOn [.ref 1099, .int x1] [.int 2, .int 1, .ref 1099] (some (.int v0)) h1 rfl rfl rfl rfl rfl rfl rfl rfl rfl (tr_cok rfl (Or.inr ⟨_, _, rfl, tr_rc (hh_rd (hh_obj hL (k := 99) rfl).1) (by decide)⟩)) c_0 ?_
  have hL0 := c_0.2
  refine tr_ic 3 3 (by decide) rfl ?_
  refine tr_call (.invokevirtual 88) 88 0 4 8 m_X9_isRejected [.ref 1099, .int 1, .int 2, .int v0, .int 3] [] (some (.int v1)) h2 rfl rfl rfl rfl rfl rfl rfl rfl rfl (tr_cok rfl (Or.inr ⟨_, _, rfl, tr_rc (hh_rd (hh_obj hL0 (k := 99) rfl).1) (by decide)⟩)) c_1 ?_
  have hL1 := c_1.2
  exact tr_if1 .eq 5 69 v1 rfl rfl rfl (fun hc => t ((tr_eq hc).1 rfl)) (fun hc => f ((tr_eq hc).2 rfl))
theorem sg_X9_mirror_53 {g : tr_g} {d : Nat} {h : ev_AH} {r : ev_O × ev_AH} {x1 x2 v0 v1 : Int32} {w3 : Option Value} {h1 h2 : ev_AH} (hL : hh_L h) (c_0 : tr_L g d m_X9_catOn 0 [some (.ref 1099), some (.int x1), none] [] h (.inl (some (.int v0)), h1)) (c_1 : tr_L g d m_X9_isRejected 0 [some (.ref 1099), some (.int 0), some (.int 2), some (.int v0), some (.int 3)] [] h1 (.inl (some (.int v1)), h2)) (t : v1 = 0 → tr_L g (d + 1) m_X9_mirror 69 [some (.ref 1099), some (.int x1), some (.int x2), w3] [] h2 r) (f : v1 ≠ 0 → tr_L g (d + 1) m_X9_mirror 67 [some (.ref 1099), some (.int x1), some (.int x2), w3] [] h2 r) : tr_L g (d + 1) m_X9_mirror 53 [some (.ref 1099), some (.int x1), some (.int x2), w3] [.ref 1099] h r := by
  refine tr_ic 0 0 (by decide) rfl ?_
  refine tr_ic 2 2 (by decide) rfl ?_
  refine tr_s (.aload_n 0) 1 56 [some (.ref 1099), some (.int x1), some (.int x2), w3] [.ref 1099, .int 2, .int 0, .ref 1099] h rfl rfl rfl ?_
  refine tr_s (.iload_n 1) 1 57 [some (.ref 1099), some (.int x1), some (.int x2), w3] [.int x1, .ref 1099, .int 2, .int 0, .ref 1099] h rfl rfl rfl ?_
  refine tr_call (.invokevirtual 92) 92 0 1 8 m_X9_catOn [.ref 1099, .int x1] [.int 2, .int 0, .ref 1099] (some (.int v0)) h1 rfl rfl rfl rfl rfl rfl rfl rfl rfl (tr_cok rfl (Or.inr ⟨_, _, rfl, tr_rc (hh_rd (hh_obj hL (k := 99) rfl).1) (by decide)⟩)) c_0 ?_
  have hL0 := c_0.2
  refine tr_ic 3 3 (by decide) rfl ?_
  refine tr_call (.invokevirtual 88) 88 0 4 8 m_X9_isRejected [.ref 1099, .int 0, .int 2, .int v0, .int 3] [] (some (.int v1)) h2 rfl rfl rfl rfl rfl rfl rfl rfl rfl (tr_cok rfl (Or.inr ⟨_, _, rfl, tr_rc (hh_rd (hh_obj hL0 (k := 99) rfl).1) (by decide)⟩)) c_1 ?_
  have hL1 := c_1.2
  exact tr_if1 .eq 5 69 v1 rfl rfl rfl (fun hc => t ((tr_eq hc).1 rfl)) (fun hc => f ((tr_eq hc).2 rfl))
theorem sg_X9_mirror_67 {g : tr_g} {d : Nat} {h : ev_AH} {r : ev_O × ev_AH} {w0 w1 w2 w3 : Option Value} (hL : hh_L h) (hr : r = (.inl (some (.int 0)), h)) : tr_L g d m_X9_mirror 67 [w0, w1, w2, w3] [] h r := by
  refine tr_ic 0 0 (by decide) rfl ?_
  exact tl_ret hL .ireturn 1 (some (.int 0)) rfl rfl rfl rfl hr
theorem sg_X9_mirror_69 {g : tr_g} {d : Nat} {h : ev_AH} {r : ev_O × ev_AH} {x1 x2 : Int32} {w3 : Option Value} (hL : hh_L h) (t : x2 ≠ 46 → tr_L g d m_X9_mirror 79 [some (.ref 1099), some (.int x1), some (.int x2), w3] [] h r) (f : x2 = 46 → tr_L g d m_X9_mirror 75 [some (.ref 1099), some (.int x1), some (.int x2), w3] [] h r) : tr_L g d m_X9_mirror 69 [some (.ref 1099), some (.int x1), some (.int x2), w3] [] h r := by
  refine tr_s (.iload_n 2) 1 70 [some (.ref 1099), some (.int x1), some (.int x2), w3] [.int x2] h rfl rfl rfl ?_
  refine tr_bi 46 46 (by decide) rfl ?_
  exact tr_if2 .ne 7 79 x2 46 rfl rfl rfl (fun hc => t ((tr_ne hc).1 rfl)) (fun hc => f ((tr_ne hc).2 rfl))
theorem sg_X9_mirror_75 {g : tr_g} {d : Nat} {h : ev_AH} {r : ev_O × ev_AH} {x1 : Int32} {w2 w3 : Option Value} {j0 : Nat} (hL : hh_L h) (o2 : tr_ow w2 = true) (e0 : 19 + x1 = Int32.ofNat j0) (b0 : j0 < 124) (t : ((hh_a h 100).getD j0 0) ≠ 0 → tr_L g d m_X9_mirror 110 [some (.ref 1099), some (.int x1), w2, some (.int 0)] [.int 7, .ref 1100] h r) (f : ((hh_a h 100).getD j0 0) = 0 → tr_L g d m_X9_mirror 100 [some (.ref 1099), some (.int x1), w2, some (.int 0)] [.int 7, .ref 1100] h r) : tr_L g d m_X9_mirror 75 [some (.ref 1099), some (.int x1), w2, w3] [] h r := by
  refine tr_ic 0 0 (by decide) rfl ?_
  refine tr_goto 4 80 rfl rfl rfl ?_
  refine tr_st (.istore_n 3) 1 3 0 (.int 0) rfl rfl rfl rfl rfl rfl (tr_sok (Nat.le_of_ble_eq_true rfl) rfl o2) ?_
  refine tr_s (.aload_n 0) 1 82 [some (.ref 1099), some (.int x1), w2, some (.int 0)] [.ref 1099] h rfl rfl rfl ?_
  refine tl_gr hL 9 99 8 0 100 [1100, 1101, 1102, 1103, 1104, 1105, 0, 0, 0, 0, 0, 0, 0, 0, 0, 0, 0, 0, 0, 0, 0, 1106, 0, 1107, 1108, 0, 0, 0] rfl rfl rfl rfl ?_
  refine tr_bi 7 7 (by decide) rfl ?_
  refine tr_s (.aload_n 0) 1 88 [some (.ref 1099), some (.int x1), w2, some (.int 0)] [.ref 1099, .int 7, .ref 1100] h rfl rfl rfl ?_
  refine tl_gr hL 9 99 8 0 100 [1100, 1101, 1102, 1103, 1104, 1105, 0, 0, 0, 0, 0, 0, 0, 0, 0, 0, 0, 0, 0, 0, 0, 1106, 0, 1107, 1108, 0, 0, 0] rfl rfl rfl rfl ?_
  refine tr_bi 19 19 (by decide) rfl ?_
  refine tr_s (.iload_n 1) 1 94 [some (.ref 1099), some (.int x1), w2, some (.int 0)] [.int x1, .int 19, .ref 1100, .int 7, .ref 1100] h rfl rfl rfl ?_
  refine tr_s .iadd 1 95 [some (.ref 1099), some (.int x1), w2, some (.int 0)] [.int (19 + x1), .ref 1100, .int 7, .ref 1100] h rfl rfl rfl ?_
  refine tl_ald hL .iaload 100 0 124 j0 (19 + x1) rfl (by decide) rfl e0 b0 (by decide) ?_
  refine tr_s (.iload_n 3) 1 97 [some (.ref 1099), some (.int x1), w2, some (.int 0)] [.int 0, .int ((hh_a h 100).getD j0 0), .int 7, .ref 1100] h rfl rfl rfl ?_
  exact tr_if2 .ne 13 110 ((hh_a h 100).getD j0 0) 0 rfl rfl rfl (fun hc => t ((tr_ne hc).1 rfl)) (fun hc => f ((tr_ne hc).2 rfl))
theorem sg_X9_mirror_79 {g : tr_g} {d : Nat} {h : ev_AH} {r : ev_O × ev_AH} {x1 x2 : Int32} {w3 : Option Value} {j0 : Nat} (hL : hh_L h) (e0 : 19 + x1 = Int32.ofNat j0) (b0 : j0 < 124) (t : ((hh_a h 100).getD j0 0) ≠ x2 → tr_L g d m_X9_mirror 110 [some (.ref 1099), some (.int x1), some (.int x2), some (.int x2)] [.int 7, .ref 1100] h r) (f : ((hh_a h 100).getD j0 0) = x2 → tr_L g d m_X9_mirror 100 [some (.ref 1099), some (.int x1), some (.int x2), some (.int x2)] [.int 7, .ref 1100] h r) : tr_L g d m_X9_mirror 79 [some (.ref 1099), some (.int x1), some (.int x2), w3] [] h r := by
  refine tr_s (.iload_n 2) 1 80 [some (.ref 1099), some (.int x1), some (.int x2), w3] [.int x2] h rfl rfl rfl ?_
  refine tr_st (.istore_n 3) 1 3 0 (.int x2) rfl rfl rfl rfl rfl rfl rfl ?_
  refine tr_s (.aload_n 0) 1 82 [some (.ref 1099), some (.int x1), some (.int x2), some (.int x2)] [.ref 1099] h rfl rfl rfl ?_
  refine tl_gr hL 9 99 8 0 100 [1100, 1101, 1102, 1103, 1104, 1105, 0, 0, 0, 0, 0, 0, 0, 0, 0, 0, 0, 0, 0, 0, 0, 1106, 0, 1107, 1108, 0, 0, 0] rfl rfl rfl rfl ?_
  refine tr_bi 7 7 (by decide) rfl ?_
  refine tr_s (.aload_n 0) 1 88 [some (.ref 1099), some (.int x1), some (.int x2), some (.int x2)] [.ref 1099, .int 7, .ref 1100] h rfl rfl rfl ?_
  refine tl_gr hL 9 99 8 0 100 [1100, 1101, 1102, 1103, 1104, 1105, 0, 0, 0, 0, 0, 0, 0, 0, 0, 0, 0, 0, 0, 0, 0, 1106, 0, 1107, 1108, 0, 0, 0] rfl rfl rfl rfl ?_
  refine tr_bi 19 19 (by decide) rfl ?_
  refine tr_s (.iload_n 1) 1 94 [some (.ref 1099), some (.int x1), some (.int x2), some (.int x2)] [.int x1, .int 19, .ref 1100, .int 7, .ref 1100] h rfl rfl rfl ?_
  refine tr_s .iadd 1 95 [some (.ref 1099), some (.int x1), some (.int x2), some (.int x2)] [.int (19 + x1), .ref 1100, .int 7, .ref 1100] h rfl rfl rfl ?_
  refine tl_ald hL .iaload 100 0 124 j0 (19 + x1) rfl (by decide) rfl e0 b0 (by decide) ?_
  refine tr_s (.iload_n 3) 1 97 [some (.ref 1099), some (.int x1), some (.int x2), some (.int x2)] [.int x2, .int ((hh_a h 100).getD j0 0), .int 7, .ref 1100] h rfl rfl rfl ?_
  exact tr_if2 .ne 13 110 ((hh_a h 100).getD j0 0) x2 rfl rfl rfl (fun hc => t ((tr_ne hc).1 rfl)) (fun hc => f ((tr_ne hc).2 rfl))
theorem sg_X9_mirror_100 {g : tr_g} {d : Nat} {h : ev_AH} {r : ev_O × ev_AH} {x1 x3 s1 v0 : Int32} {w2 : Option Value} {j0 j1 j2 : Nat} {h1 : ev_AH} (hL : hh_L h) (e0 : 7 = Int32.ofNat j0) (b0 : j0 < 124) (e1 : s1 = Int32.ofNat j1) (b1 : j1 < 124) (e2 : 19 + x1 = Int32.ofNat j2) (b2 : j2 < 124) (c_0 : tr_L g d m_X9_mirrors 0 [some (.ref 1099), none, none] [] (hh_sa (hh_sa h 100 0 ((hh_a h 100).set j1 ((hh_a h 100).getD j0 0))) 100 0 ((hh_a (hh_sa h 100 0 ((hh_a h 100).set j1 ((hh_a h 100).getD j0 0))) 100).set j2 x3)) (.inl (some (.int v0)), h1)) (hr : r = (.inl (some (.int v0)), h1)) : tr_L g (d + 1) m_X9_mirror 100 [some (.ref 1099), some (.int x1), w2, some (.int x3)] [.int s1, .ref 1100] h r := by
  refine tr_s (.aload_n 0) 1 101 [some (.ref 1099), some (.int x1), w2, some (.int x3)] [.ref 1099, .int s1, .ref 1100] h rfl rfl rfl ?_
  refine tl_gr hL 9 99 8 0 100 [1100, 1101, 1102, 1103, 1104, 1105, 0, 0, 0, 0, 0, 0, 0, 0, 0, 0, 0, 0, 0, 0, 0, 1106, 0, 1107, 1108, 0, 0, 0] rfl rfl rfl rfl ?_
  refine tr_bi 7 7 (by decide) rfl ?_
  refine tl_ald hL .iaload 100 0 124 j0 7 rfl (by decide) rfl e0 b0 (by decide) ?_
  refine tr_goto 4 111 rfl rfl rfl ?_
  refine tl_ias hL 100 124 j1 s1 ((hh_a h 100).getD j0 0) rfl rfl e1 b1 (by decide) ?_
  have hL0 := hh_L_ss (j := j1) (x := ((hh_a h 100).getD j0 0)) hL (show hh_t[100]? = some (.inl (0, 124)) from rfl)
  refine tr_s (.aload_n 0) 1 113 [some (.ref 1099), some (.int x1), w2, some (.int x3)] [.ref 1099] (hh_sa h 100 0 ((hh_a h 100).set j1 ((hh_a h 100).getD j0 0))) rfl rfl rfl ?_
  refine tl_gr hL0 9 99 8 0 100 [1100, 1101, 1102, 1103, 1104, 1105, 0, 0, 0, 0, 0, 0, 0, 0, 0, 0, 0, 0, 0, 0, 0, 1106, 0, 1107, 1108, 0, 0, 0] rfl rfl rfl rfl ?_
  refine tr_bi 19 19 (by decide) rfl ?_
  refine tr_s (.iload_n 1) 1 119 [some (.ref 1099), some (.int x1), w2, some (.int x3)] [.int x1, .int 19, .ref 1100] (hh_sa h 100 0 ((hh_a h 100).set j1 ((hh_a h 100).getD j0 0))) rfl rfl rfl ?_
  refine tr_s .iadd 1 120 [some (.ref 1099), some (.int x1), w2, some (.int x3)] [.int (19 + x1), .ref 1100] (hh_sa h 100 0 ((hh_a h 100).set j1 ((hh_a h 100).getD j0 0))) rfl rfl rfl ?_
  refine tr_s (.iload_n 3) 1 121 [some (.ref 1099), some (.int x1), w2, some (.int x3)] [.int x3, .int (19 + x1), .ref 1100] (hh_sa h 100 0 ((hh_a h 100).set j1 ((hh_a h 100).getD j0 0))) rfl rfl rfl ?_
  refine tl_ias hL0 100 124 j2 (19 + x1) x3 rfl rfl e2 b2 (by decide) ?_
  have hL1 := hh_L_ss (j := j2) (x := x3) hL0 (show hh_t[100]? = some (.inl (0, 124)) from rfl)
  refine tr_s (.aload_n 0) 1 123 [some (.ref 1099), some (.int x1), w2, some (.int x3)] [.ref 1099] (hh_sa (hh_sa h 100 0 ((hh_a h 100).set j1 ((hh_a h 100).getD j0 0))) 100 0 ((hh_a (hh_sa h 100 0 ((hh_a h 100).set j1 ((hh_a h 100).getD j0 0))) 100).set j2 x3)) rfl rfl rfl ?_
  refine tr_call (.invokevirtual 113) 113 0 0 8 m_X9_mirrors [.ref 1099] [] (some (.int v0)) h1 rfl rfl rfl rfl rfl rfl rfl rfl rfl (tr_cok rfl (Or.inr ⟨_, _, rfl, tr_rc (hh_rd (hh_obj hL1 (k := 99) rfl).1) (by decide)⟩)) c_0 ?_
  have hL2 := c_0.2
  exact tl_ret hL2 .ireturn 1 (some (.int v0)) rfl rfl rfl rfl hr
theorem sg_X9_mirror_110 {g : tr_g} {d : Nat} {h : ev_AH} {r : ev_O × ev_AH} {x1 x3 s1 v0 : Int32} {w2 : Option Value} {j0 j1 : Nat} {h1 : ev_AH} (hL : hh_L h) (e0 : s1 = Int32.ofNat j0) (b0 : j0 < 124) (e1 : 19 + x1 = Int32.ofNat j1) (b1 : j1 < 124) (c_0 : tr_L g d m_X9_mirrors 0 [some (.ref 1099), none, none] [] (hh_sa (hh_sa h 100 0 ((hh_a h 100).set j0 1)) 100 0 ((hh_a (hh_sa h 100 0 ((hh_a h 100).set j0 1)) 100).set j1 x3)) (.inl (some (.int v0)), h1)) (hr : r = (.inl (some (.int v0)), h1)) : tr_L g (d + 1) m_X9_mirror 110 [some (.ref 1099), some (.int x1), w2, some (.int x3)] [.int s1, .ref 1100] h r := by
  refine tr_ic 1 1 (by decide) rfl ?_
  refine tl_ias hL 100 124 j0 s1 1 rfl rfl e0 b0 (by decide) ?_
  have hL0 := hh_L_ss (j := j0) (x := 1) hL (show hh_t[100]? = some (.inl (0, 124)) from rfl)
  refine tr_s (.aload_n 0) 1 113 [some (.ref 1099), some (.int x1), w2, some (.int x3)] [.ref 1099] (hh_sa h 100 0 ((hh_a h 100).set j0 1)) rfl rfl rfl ?_
  refine tl_gr hL0 9 99 8 0 100 [1100, 1101, 1102, 1103, 1104, 1105, 0, 0, 0, 0, 0, 0, 0, 0, 0, 0, 0, 0, 0, 0, 0, 1106, 0, 1107, 1108, 0, 0, 0] rfl rfl rfl rfl ?_
  refine tr_bi 19 19 (by decide) rfl ?_
  refine tr_s (.iload_n 1) 1 119 [some (.ref 1099), some (.int x1), w2, some (.int x3)] [.int x1, .int 19, .ref 1100] (hh_sa h 100 0 ((hh_a h 100).set j0 1)) rfl rfl rfl ?_
  refine tr_s .iadd 1 120 [some (.ref 1099), some (.int x1), w2, some (.int x3)] [.int (19 + x1), .ref 1100] (hh_sa h 100 0 ((hh_a h 100).set j0 1)) rfl rfl rfl ?_
  refine tr_s (.iload_n 3) 1 121 [some (.ref 1099), some (.int x1), w2, some (.int x3)] [.int x3, .int (19 + x1), .ref 1100] (hh_sa h 100 0 ((hh_a h 100).set j0 1)) rfl rfl rfl ?_
  refine tl_ias hL0 100 124 j1 (19 + x1) x3 rfl rfl e1 b1 (by decide) ?_
  have hL1 := hh_L_ss (j := j1) (x := x3) hL0 (show hh_t[100]? = some (.inl (0, 124)) from rfl)
  refine tr_s (.aload_n 0) 1 123 [some (.ref 1099), some (.int x1), w2, some (.int x3)] [.ref 1099] (hh_sa (hh_sa h 100 0 ((hh_a h 100).set j0 1)) 100 0 ((hh_a (hh_sa h 100 0 ((hh_a h 100).set j0 1)) 100).set j1 x3)) rfl rfl rfl ?_
  refine tr_call (.invokevirtual 113) 113 0 0 8 m_X9_mirrors [.ref 1099] [] (some (.int v0)) h1 rfl rfl rfl rfl rfl rfl rfl rfl rfl (tr_cok rfl (Or.inr ⟨_, _, rfl, tr_rc (hh_rd (hh_obj hL1 (k := 99) rfl).1) (by decide)⟩)) c_0 ?_
  have hL2 := c_0.2
  exact tl_ret hL2 .ireturn 1 (some (.int v0)) rfl rfl rfl rfl hr
theorem sg_X9_isContent_0 {g : tr_g} {d : Nat} {h : ev_AH} {r : ev_O × ev_AH} {x0 : Int32} (hL : hh_L h) (t : x0 = 47 → tr_L g d m_X9_isContent 18 [some (.int x0)] [] h r) (f : x0 ≠ 47 → tr_L g d m_X9_isContent 6 [some (.int x0)] [] h r) : tr_L g d m_X9_isContent 0 [some (.int x0)] [] h r := by
  refine tr_s (.iload_n 0) 1 1 [some (.int x0)] [.int x0] h rfl rfl rfl ?_
  refine tr_bi 47 47 (by decide) rfl ?_
  exact tr_if2 .eq 15 18 x0 47 rfl rfl rfl (fun hc => t ((tr_eq hc).1 rfl)) (fun hc => f ((tr_eq hc).2 rfl))
theorem sg_X9_isContent_6 {g : tr_g} {d : Nat} {h : ev_AH} {r : ev_O × ev_AH} {x0 : Int32} (hL : hh_L h) (t : x0 = 92 → tr_L g d m_X9_isContent 18 [some (.int x0)] [] h r) (f : x0 ≠ 92 → tr_L g d m_X9_isContent 12 [some (.int x0)] [] h r) : tr_L g d m_X9_isContent 6 [some (.int x0)] [] h r := by
  refine tr_s (.iload_n 0) 1 7 [some (.int x0)] [.int x0] h rfl rfl rfl ?_
  refine tr_bi 92 92 (by decide) rfl ?_
  exact tr_if2 .eq 9 18 x0 92 rfl rfl rfl (fun hc => t ((tr_eq hc).1 rfl)) (fun hc => f ((tr_eq hc).2 rfl))
theorem sg_X9_isContent_12 {g : tr_g} {d : Nat} {h : ev_AH} {r : ev_O × ev_AH} {x0 : Int32} (hL : hh_L h) (t : x0 ≠ 46 → tr_L g d m_X9_isContent 22 [some (.int x0)] [] h r) (f : x0 = 46 → tr_L g d m_X9_isContent 18 [some (.int x0)] [] h r) : tr_L g d m_X9_isContent 12 [some (.int x0)] [] h r := by
  refine tr_s (.iload_n 0) 1 13 [some (.int x0)] [.int x0] h rfl rfl rfl ?_
  refine tr_bi 46 46 (by decide) rfl ?_
  exact tr_if2 .ne 7 22 x0 46 rfl rfl rfl (fun hc => t ((tr_ne hc).1 rfl)) (fun hc => f ((tr_ne hc).2 rfl))
theorem sg_X9_isContent_18 {g : tr_g} {d : Nat} {h : ev_AH} {r : ev_O × ev_AH} {w0 : Option Value} (hL : hh_L h) (hr : r = (.inl (some (.int 1)), h)) : tr_L g d m_X9_isContent 18 [w0] [] h r := by
  refine tr_ic 1 1 (by decide) rfl ?_
  refine tr_goto 4 23 rfl rfl rfl ?_
  exact tl_ret hL .ireturn 1 (some (.int 1)) rfl rfl rfl rfl hr
theorem sg_X9_isContent_22 {g : tr_g} {d : Nat} {h : ev_AH} {r : ev_O × ev_AH} {w0 : Option Value} (hL : hh_L h) (hr : r = (.inl (some (.int 0)), h)) : tr_L g d m_X9_isContent 22 [w0] [] h r := by
  refine tr_ic 0 0 (by decide) rfl ?_
  exact tl_ret hL .ireturn 1 (some (.int 0)) rfl rfl rfl rfl hr
theorem sg_X9_mirrors_0 {g : tr_g} {d : Nat} {h : ev_AH} {r : ev_O × ev_AH} (hL : hh_L h) (k : tr_L g d m_X9_mirrors 4 [some (.ref 1099), some (.int 0), some (.int 0)] [] h r) : tr_L g d m_X9_mirrors 0 [some (.ref 1099), none, none] [] h r := by
  refine tr_ic 0 0 (by decide) rfl ?_
  refine tr_st (.istore_n 1) 1 1 0 (.int 0) rfl rfl rfl rfl rfl rfl rfl ?_
  refine tr_ic 0 0 (by decide) rfl ?_
  refine tr_st (.istore_n 2) 1 2 0 (.int 0) rfl rfl rfl rfl rfl rfl rfl ?_
  exact k
theorem sg_X9_mirrors_4 {g : tr_g} {d : Nat} {h : ev_AH} {r : ev_O × ev_AH} {x1 x2 : Int32} (hL : hh_L h) (t : 35 ≤ x2 → tr_L g d m_X9_mirrors 36 [some (.ref 1099), some (.int x1), some (.int x2)] [] h r) (f : x2 < 35 → tr_L g d m_X9_mirrors 10 [some (.ref 1099), some (.int x1), some (.int x2)] [] h r) : tr_L g d m_X9_mirrors 4 [some (.ref 1099), some (.int x1), some (.int x2)] [] h r := by
  refine tr_s (.iload_n 2) 1 5 [some (.ref 1099), some (.int x1), some (.int x2)] [.int x2] h rfl rfl rfl ?_
  refine tr_bi 35 35 (by decide) rfl ?_
  exact tr_if2 .ge 29 36 x2 35 rfl rfl rfl (fun hc => t ((tr_ge hc).1 rfl)) (fun hc => f ((tr_ge hc).2 rfl))
theorem sg_X9_mirrors_10 {g : tr_g} {d : Nat} {h : ev_AH} {r : ev_O × ev_AH} {x1 x2 : Int32} {j0 : Nat} (hL : hh_L h) (e0 : 19 + x2 = Int32.ofNat j0) (b0 : j0 < 124) (t : ((hh_a h 100).getD j0 0) ≤ 0 → tr_L g d m_X9_mirrors 27 [some (.ref 1099), some (.int x1), some (.int x2)] [.int x1] h r) (f : 0 < ((hh_a h 100).getD j0 0) → tr_L g d m_X9_mirrors 23 [some (.ref 1099), some (.int x1), some (.int x2)] [.int x1] h r) : tr_L g d m_X9_mirrors 10 [some (.ref 1099), some (.int x1), some (.int x2)] [] h r := by
  refine tr_s (.iload_n 1) 1 11 [some (.ref 1099), some (.int x1), some (.int x2)] [.int x1] h rfl rfl rfl ?_
  refine tr_s (.aload_n 0) 1 12 [some (.ref 1099), some (.int x1), some (.int x2)] [.ref 1099, .int x1] h rfl rfl rfl ?_
  refine tl_gr hL 9 99 8 0 100 [1100, 1101, 1102, 1103, 1104, 1105, 0, 0, 0, 0, 0, 0, 0, 0, 0, 0, 0, 0, 0, 0, 0, 1106, 0, 1107, 1108, 0, 0, 0] rfl rfl rfl rfl ?_
  refine tr_bi 19 19 (by decide) rfl ?_
  refine tr_s (.iload_n 2) 1 18 [some (.ref 1099), some (.int x1), some (.int x2)] [.int x2, .int 19, .ref 1100, .int x1] h rfl rfl rfl ?_
  refine tr_s .iadd 1 19 [some (.ref 1099), some (.int x1), some (.int x2)] [.int (19 + x2), .ref 1100, .int x1] h rfl rfl rfl ?_
  refine tl_ald hL .iaload 100 0 124 j0 (19 + x2) rfl (by decide) rfl e0 b0 (by decide) ?_
  exact tr_if1 .le 7 27 ((hh_a h 100).getD j0 0) rfl rfl rfl (fun hc => t ((tr_le hc).1 rfl)) (fun hc => f ((tr_le hc).2 rfl))
theorem sg_X9_mirrors_23 {g : tr_g} {d : Nat} {h : ev_AH} {r : ev_O × ev_AH} {w1 : Option Value} {x2 s0 : Int32} (hL : hh_L h) (k : tr_L g d m_X9_mirrors 4 [some (.ref 1099), some (.int (s0 + 1)), some (.int (x2 + 1))] [] h r) : tr_L g d m_X9_mirrors 23 [some (.ref 1099), w1, some (.int x2)] [.int s0] h r := by
  refine tr_ic 1 1 (by decide) rfl ?_
  refine tr_goto 4 28 rfl rfl rfl ?_
  refine tr_s .iadd 1 29 [some (.ref 1099), w1, some (.int x2)] [.int (s0 + 1)] h rfl rfl rfl ?_
  refine tr_st (.istore_n 1) 1 1 0 (.int (s0 + 1)) rfl rfl rfl rfl rfl rfl rfl ?_
  refine tr_inc 2 1 x2 1 (by decide) rfl rfl rfl ?_
  refine tr_goto (-29) 4 rfl rfl rfl ?_
  exact k
theorem sg_X9_mirrors_27 {g : tr_g} {d : Nat} {h : ev_AH} {r : ev_O × ev_AH} {w1 : Option Value} {x2 s0 : Int32} (hL : hh_L h) (k : tr_L g d m_X9_mirrors 4 [some (.ref 1099), some (.int (s0 + 0)), some (.int (x2 + 1))] [] h r) : tr_L g d m_X9_mirrors 27 [some (.ref 1099), w1, some (.int x2)] [.int s0] h r := by
  refine tr_ic 0 0 (by decide) rfl ?_
  refine tr_s .iadd 1 29 [some (.ref 1099), w1, some (.int x2)] [.int (s0 + 0)] h rfl rfl rfl ?_
  refine tr_st (.istore_n 1) 1 1 0 (.int (s0 + 0)) rfl rfl rfl rfl rfl rfl rfl ?_
  refine tr_inc 2 1 x2 1 (by decide) rfl rfl rfl ?_
  refine tr_goto (-29) 4 rfl rfl rfl ?_
  exact k
theorem sg_X9_mirrors_36 {g : tr_g} {d : Nat} {h : ev_AH} {r : ev_O × ev_AH} {w0 w2 : Option Value} {x1 : Int32} (hL : hh_L h) (hr : r = (.inl (some (.int x1)), h)) : tr_L g d m_X9_mirrors 36 [w0, some (.int x1), w2] [] h r := by
  refine tr_s (.iload_n 1) 1 37 [w0, some (.int x1), w2] [.int x1] h rfl rfl rfl ?_
  exact tl_ret hL .ireturn 1 (some (.int x1)) rfl rfl rfl rfl hr
theorem sg_X9_catCount_0 {g : tr_g} {d : Nat} {h : ev_AH} {r : ev_O × ev_AH} {j0 : Nat} (hL : hh_L h) (e0 : 1 = Int32.ofNat j0) (b0 : j0 < 124) (hr : r = (.inl (some (.int ((hh_a (hh_si h 99 8 7 0) 100).getD j0 0))), hh_si h 99 8 7 0)) : tr_L g d m_X9_catCount 0 [some (.ref 1099)] [] h r := by
  refine tr_s (.aload_n 0) 1 1 [some (.ref 1099)] [.ref 1099] h rfl rfl rfl ?_
  refine tr_ic 0 0 (by decide) rfl ?_
  refine tl_pf hL 41 99 8 7 [1100, 1101, 1102, 1103, 1104, 1105, 0, 0, 0, 0, 0, 0, 0, 0, 0, 0, 0, 0, 0, 0, 0, 1106, 0, 1107, 1108, 0, 0, 0] 0 .int rfl rfl rfl rfl rfl tr_oki ?_
  have hL0 := hh_L_si (sl := 7) (x := 0) hL (show hh_t[99]? = some (.inr (8, [1100, 1101, 1102, 1103, 1104, 1105, 0, 0, 0, 0, 0, 0, 0, 0, 0, 0, 0, 0, 0, 0, 0, 1106, 0, 1107, 1108, 0, 0, 0])) from rfl) rfl
  refine tr_s (.aload_n 0) 1 6 [some (.ref 1099)] [.ref 1099] (hh_si h 99 8 7 0) rfl rfl rfl ?_
  refine tl_gr hL0 9 99 8 0 100 [1100, 1101, 1102, 1103, 1104, 1105, 0, 0, 0, 0, 0, 0, 0, 0, 0, 0, 0, 0, 0, 0, 0, 1106, 0, 1107, 1108, 0, 0, 0] rfl rfl rfl rfl ?_
  refine tr_ic 1 1 (by decide) rfl ?_
  refine tl_ald hL0 .iaload 100 0 124 j0 1 rfl (by decide) rfl e0 b0 (by decide) ?_
  exact tl_ret hL0 .ireturn 1 (some (.int ((hh_a (hh_si h 99 8 7 0) 100).getD j0 0))) rfl rfl rfl rfl hr
theorem sg_X9_cellOf_0 {g : tr_g} {d : Nat} {h : ev_AH} {r : ev_O × ev_AH} {x1 v0 : Int32} {h1 : ev_AH} (hL : hh_L h) (c_0 : tr_L g d m_X9_isCat 0 [some (.ref 1099), some (.int x1)] [] h (.inl (some (.int v0)), h1)) (t : v0 ≠ 0 → tr_L g (d + 1) m_X9_cellOf 13 [some (.ref 1099), some (.int x1)] [.ref 1099] h1 r) (f : v0 = 0 → tr_L g (d + 1) m_X9_cellOf 9 [some (.ref 1099), some (.int x1)] [.ref 1099] h1 r) : tr_L g (d + 1) m_X9_cellOf 0 [some (.ref 1099), some (.int x1)] [] h r := by
  refine tr_s (.aload_n 0) 1 1 [some (.ref 1099), some (.int x1)] [.ref 1099] h rfl rfl rfl ?_
  refine tr_s (.aload_n 0) 1 2 [some (.ref 1099), some (.int x1)] [.ref 1099, .ref 1099] h rfl rfl rfl ?_
  refine tr_s (.iload_n 1) 1 3 [some (.ref 1099), some (.int x1)] [.int x1, .ref 1099, .ref 1099] h rfl rfl rfl ?_
  refine tr_call (.invokevirtual 120) 120 0 1 8 m_X9_isCat [.ref 1099, .int x1] [.ref 1099] (some (.int v0)) h1 rfl rfl rfl rfl rfl rfl rfl rfl rfl (tr_cok rfl (Or.inr ⟨_, _, rfl, tr_rc (hh_rd (hh_obj hL (k := 99) rfl).1) (by decide)⟩)) c_0 ?_
  have hL0 := c_0.2
  exact tr_if1 .ne 7 13 v0 rfl rfl rfl (fun hc => t ((tr_ne hc).1 rfl)) (fun hc => f ((tr_ne hc).2 rfl))
theorem sg_X9_cellOf_9 {g : tr_g} {d : Nat} {h : ev_AH} {r : ev_O × ev_AH} {x1 v0 : Int32} {h1 : ev_AH} (hL : hh_L h) (c_0 : tr_L g d m_X9_isThrown 0 [some (.ref 1099), some (.int 1), some (.int 1)] [] h (.inl (some (.int v0)), h1)) (t : v0 = 0 → tr_L g (d + 1) m_X9_cellOf 25 [some (.ref 1099), some (.int x1)] [] h1 r) (f : v0 ≠ 0 → tr_L g (d + 1) m_X9_cellOf 21 [some (.ref 1099), some (.int x1)] [] h1 r) : tr_L g (d + 1) m_X9_cellOf 9 [some (.ref 1099), some (.int x1)] [.ref 1099] h r := by
  refine tr_ic 1 1 (by decide) rfl ?_
  refine tr_goto 4 14 rfl rfl rfl ?_
  refine tr_ic 1 1 (by decide) rfl ?_
  refine tr_call (.invokevirtual 66) 66 0 2 8 m_X9_isThrown [.ref 1099, .int 1, .int 1] [] (some (.int v0)) h1 rfl rfl rfl rfl rfl rfl rfl rfl rfl (tr_cok rfl (Or.inr ⟨_, _, rfl, tr_rc (hh_rd (hh_obj hL (k := 99) rfl).1) (by decide)⟩)) c_0 ?_
  have hL0 := c_0.2
  exact tr_if1 .eq 7 25 v0 rfl rfl rfl (fun hc => t ((tr_eq hc).1 rfl)) (fun hc => f ((tr_eq hc).2 rfl))
theorem sg_X9_cellOf_13 {g : tr_g} {d : Nat} {h : ev_AH} {r : ev_O × ev_AH} {x1 v0 : Int32} {h1 : ev_AH} (hL : hh_L h) (c_0 : tr_L g d m_X9_isThrown 0 [some (.ref 1099), some (.int 0), some (.int 1)] [] h (.inl (some (.int v0)), h1)) (t : v0 = 0 → tr_L g (d + 1) m_X9_cellOf 25 [some (.ref 1099), some (.int x1)] [] h1 r) (f : v0 ≠ 0 → tr_L g (d + 1) m_X9_cellOf 21 [some (.ref 1099), some (.int x1)] [] h1 r) : tr_L g (d + 1) m_X9_cellOf 13 [some (.ref 1099), some (.int x1)] [.ref 1099] h r := by
  refine tr_ic 0 0 (by decide) rfl ?_
  refine tr_ic 1 1 (by decide) rfl ?_
  refine tr_call (.invokevirtual 66) 66 0 2 8 m_X9_isThrown [.ref 1099, .int 0, .int 1] [] (some (.int v0)) h1 rfl rfl rfl rfl rfl rfl rfl rfl rfl (tr_cok rfl (Or.inr ⟨_, _, rfl, tr_rc (hh_rd (hh_obj hL (k := 99) rfl).1) (by decide)⟩)) c_0 ?_
  have hL0 := c_0.2
  exact tr_if1 .eq 7 25 v0 rfl rfl rfl (fun hc => t ((tr_eq hc).1 rfl)) (fun hc => f ((tr_eq hc).2 rfl))
theorem sg_X9_cellOf_21 {g : tr_g} {d : Nat} {h : ev_AH} {r : ev_O × ev_AH} {w0 w1 : Option Value} (hL : hh_L h) (hr : r = (.inl (some (.int 0)), h)) : tr_L g d m_X9_cellOf 21 [w0, w1] [] h r := by
  refine tr_ic 0 0 (by decide) rfl ?_
  refine tr_goto 9 31 rfl rfl rfl ?_
  exact tl_ret hL .ireturn 1 (some (.int 0)) rfl rfl rfl rfl hr
theorem sg_X9_cellOf_25 {g : tr_g} {d : Nat} {h : ev_AH} {r : ev_O × ev_AH} {x1 v0 : Int32} {h1 : ev_AH} (hL : hh_L h) (c_0 : tr_L g d m_X9_of 0 [some (.ref 1099), some (.int x1), some (.int 0)] [] h (.inl (some (.int v0)), h1)) (hr : r = (.inl (some (.int v0)), h1)) : tr_L g (d + 1) m_X9_cellOf 25 [some (.ref 1099), some (.int x1)] [] h r := by
  refine tr_s (.aload_n 0) 1 26 [some (.ref 1099), some (.int x1)] [.ref 1099] h rfl rfl rfl ?_
  refine tr_s (.iload_n 1) 1 27 [some (.ref 1099), some (.int x1)] [.int x1, .ref 1099] h rfl rfl rfl ?_
  refine tr_ic 0 0 (by decide) rfl ?_
  refine tr_call (.invokevirtual 74) 74 0 2 8 m_X9_of [.ref 1099, .int x1, .int 0] [] (some (.int v0)) h1 rfl rfl rfl rfl rfl rfl rfl rfl rfl (tr_cok rfl (Or.inr ⟨_, _, rfl, tr_rc (hh_rd (hh_obj hL (k := 99) rfl).1) (by decide)⟩)) c_0 ?_
  have hL0 := c_0.2
  exact tl_ret hL0 .ireturn 1 (some (.int v0)) rfl rfl rfl rfl hr
theorem sg_X9_isCat_0 {g : tr_g} {d : Nat} {h : ev_AH} {r : ev_O × ev_AH} {x1 v0 : Int32} {j0 : Nat} {h1 : ev_AH} (hL : hh_L h) (e0 : 1 = Int32.ofNat j0) (b0 : j0 < 124) (c_0 : tr_L g d m_X9_isIn 0 [some (.int x1), some (.int 0), some (.int (((hh_a h 100).getD j0 0) - 1))] [] h (.inl (some (.int v0)), h1)) (hb0 : v0 = 0 ∨ v0 = 1) (hr : r = (.inl (some (.int v0)), h1)) : tr_L g (d + 1) m_X9_isCat 0 [some (.ref 1099), some (.int x1)] [] h r := by
  refine tr_s (.iload_n 1) 1 1 [some (.ref 1099), some (.int x1)] [.int x1] h rfl rfl rfl ?_
  refine tr_ic 0 0 (by decide) rfl ?_
  refine tr_s (.aload_n 0) 1 3 [some (.ref 1099), some (.int x1)] [.ref 1099, .int 0, .int x1] h rfl rfl rfl ?_
  refine tl_gr hL 9 99 8 0 100 [1100, 1101, 1102, 1103, 1104, 1105, 0, 0, 0, 0, 0, 0, 0, 0, 0, 0, 0, 0, 0, 0, 0, 1106, 0, 1107, 1108, 0, 0, 0] rfl rfl rfl rfl ?_
  refine tr_ic 1 1 (by decide) rfl ?_
  refine tl_ald hL .iaload 100 0 124 j0 1 rfl (by decide) rfl e0 b0 (by decide) ?_
  refine tr_ic 1 1 (by decide) rfl ?_
  refine tr_s .isub 1 10 [some (.ref 1099), some (.int x1)] [.int (((hh_a h 100).getD j0 0) - 1), .int 0, .int x1] h rfl rfl rfl ?_
  refine tr_call (.invokestatic 70) 70 2 3 0 m_X9_isIn [.int x1, .int 0, .int (((hh_a h 100).getD j0 0) - 1)] [] (some (.int v0)) h1 rfl rfl rfl rfl rfl rfl rfl rfl rfl (tr_cok rfl (Or.inl rfl)) c_0 ?_
  have hL0 := c_0.2
  exact tl_ret hL0 .ireturn 1 (some (.int v0)) rfl rfl rfl (tr_eb rfl hb0) hr
theorem sg_X9_catIn_0 {g : tr_g} {d : Nat} {h : ev_AH} {r : ev_O × ev_AH} {x1 v0 : Int32} {h1 : ev_AH} (hL : hh_L h) (c_0 : tr_L g d m_X9_isCell 0 [some (.int x1)] [] h (.inl (some (.int v0)), h1)) (t : v0 ≠ 0 → tr_L g (d + 1) m_X9_catIn 12 [some (.ref 1099), some (.int x1)] [.ref 1099] h1 r) (f : v0 = 0 → tr_L g (d + 1) m_X9_catIn 8 [some (.ref 1099), some (.int x1)] [.ref 1099] h1 r) : tr_L g (d + 1) m_X9_catIn 0 [some (.ref 1099), some (.int x1)] [] h r := by
  refine tr_s (.aload_n 0) 1 1 [some (.ref 1099), some (.int x1)] [.ref 1099] h rfl rfl rfl ?_
  refine tr_s (.iload_n 1) 1 2 [some (.ref 1099), some (.int x1)] [.int x1, .ref 1099] h rfl rfl rfl ?_
  refine tr_call (.invokestatic 82) 82 2 1 0 m_X9_isCell [.int x1] [.ref 1099] (some (.int v0)) h1 rfl rfl rfl rfl rfl rfl rfl rfl rfl (tr_cok rfl (Or.inl rfl)) c_0 ?_
  have hL0 := c_0.2
  exact tr_if1 .ne 7 12 v0 rfl rfl rfl (fun hc => t ((tr_ne hc).1 rfl)) (fun hc => f ((tr_ne hc).2 rfl))
theorem sg_X9_catIn_8 {g : tr_g} {d : Nat} {h : ev_AH} {r : ev_O × ev_AH} {x1 v0 : Int32} {h1 : ev_AH} (hL : hh_L h) (c_0 : tr_L g d m_X9_isThrown 0 [some (.ref 1099), some (.int 1), some (.int 1)] [] h (.inl (some (.int v0)), h1)) (t : v0 ≠ 0 → tr_L g (d + 1) m_X9_catIn 41 [some (.ref 1099), some (.int x1)] [] h1 r) (f : v0 = 0 → tr_L g (d + 1) m_X9_catIn 20 [some (.ref 1099), some (.int x1)] [] h1 r) : tr_L g (d + 1) m_X9_catIn 8 [some (.ref 1099), some (.int x1)] [.ref 1099] h r := by
  refine tr_ic 1 1 (by decide) rfl ?_
  refine tr_goto 4 13 rfl rfl rfl ?_
  refine tr_ic 1 1 (by decide) rfl ?_
  refine tr_call (.invokevirtual 66) 66 0 2 8 m_X9_isThrown [.ref 1099, .int 1, .int 1] [] (some (.int v0)) h1 rfl rfl rfl rfl rfl rfl rfl rfl rfl (tr_cok rfl (Or.inr ⟨_, _, rfl, tr_rc (hh_rd (hh_obj hL (k := 99) rfl).1) (by decide)⟩)) c_0 ?_
  have hL0 := c_0.2
  exact tr_if1 .ne 24 41 v0 rfl rfl rfl (fun hc => t ((tr_ne hc).1 rfl)) (fun hc => f ((tr_ne hc).2 rfl))
theorem sg_X9_catIn_12 {g : tr_g} {d : Nat} {h : ev_AH} {r : ev_O × ev_AH} {x1 v0 : Int32} {h1 : ev_AH} (hL : hh_L h) (c_0 : tr_L g d m_X9_isThrown 0 [some (.ref 1099), some (.int 0), some (.int 1)] [] h (.inl (some (.int v0)), h1)) (t : v0 ≠ 0 → tr_L g (d + 1) m_X9_catIn 41 [some (.ref 1099), some (.int x1)] [] h1 r) (f : v0 = 0 → tr_L g (d + 1) m_X9_catIn 20 [some (.ref 1099), some (.int x1)] [] h1 r) : tr_L g (d + 1) m_X9_catIn 12 [some (.ref 1099), some (.int x1)] [.ref 1099] h r := by
  refine tr_ic 0 0 (by decide) rfl ?_
  refine tr_ic 1 1 (by decide) rfl ?_
  refine tr_call (.invokevirtual 66) 66 0 2 8 m_X9_isThrown [.ref 1099, .int 0, .int 1] [] (some (.int v0)) h1 rfl rfl rfl rfl rfl rfl rfl rfl rfl (tr_cok rfl (Or.inr ⟨_, _, rfl, tr_rc (hh_rd (hh_obj hL (k := 99) rfl).1) (by decide)⟩)) c_0 ?_
  have hL0 := c_0.2
  exact tr_if1 .ne 24 41 v0 rfl rfl rfl (fun hc => t ((tr_ne hc).1 rfl)) (fun hc => f ((tr_ne hc).2 rfl))
theorem sg_X9_catIn_20 {g : tr_g} {d : Nat} {h : ev_AH} {r : ev_O × ev_AH} {x1 v0 : Int32} {h1 : ev_AH} (hL : hh_L h) (c_0 : tr_L g d m_X9_catOn 0 [some (.ref 1099), some (.int x1), none] [] h (.inl (some (.int v0)), h1)) (t : 0 ≤ v0 → tr_L g (d + 1) m_X9_catIn 33 [some (.ref 1099), some (.int x1)] [.ref 1099] h1 r) (f : v0 < 0 → tr_L g (d + 1) m_X9_catIn 29 [some (.ref 1099), some (.int x1)] [.ref 1099] h1 r) : tr_L g (d + 1) m_X9_catIn 20 [some (.ref 1099), some (.int x1)] [] h r := by
  refine tr_s (.aload_n 0) 1 21 [some (.ref 1099), some (.int x1)] [.ref 1099] h rfl rfl rfl ?_
  refine tr_s (.aload_n 0) 1 22 [some (.ref 1099), some (.int x1)] [.ref 1099, .ref 1099] h rfl rfl rfl ?_
  refine tr_s (.iload_n 1) 1 23 [some (.ref 1099), some (.int x1)] [.int x1, .ref 1099, .ref 1099] h rfl rfl rfl ?_
  refine tr_call (.invokevirtual 92) 92 0 1 8 m_X9_catOn [.ref 1099, .int x1] [.ref 1099] (some (.int v0)) h1 rfl rfl rfl rfl rfl rfl rfl rfl rfl (tr_cok rfl (Or.inr ⟨_, _, rfl, tr_rc (hh_rd (hh_obj hL (k := 99) rfl).1) (by decide)⟩)) c_0 ?_
  have hL0 := c_0.2
  exact tr_if1 .ge 7 33 v0 rfl rfl rfl (fun hc => t ((tr_ge hc).1 rfl)) (fun hc => f ((tr_ge hc).2 rfl))
theorem sg_X9_catIn_29 {g : tr_g} {d : Nat} {h : ev_AH} {r : ev_O × ev_AH} {x1 v0 : Int32} {h1 : ev_AH} (hL : hh_L h) (c_0 : tr_L g d m_X9_isThrown 0 [some (.ref 1099), some (.int 1), some (.int 2)] [] h (.inl (some (.int v0)), h1)) (t : v0 = 0 → tr_L g (d + 1) m_X9_catIn 45 [some (.ref 1099), some (.int x1)] [] h1 r) (f : v0 ≠ 0 → tr_L g (d + 1) m_X9_catIn 41 [some (.ref 1099), some (.int x1)] [] h1 r) : tr_L g (d + 1) m_X9_catIn 29 [some (.ref 1099), some (.int x1)] [.ref 1099] h r := by
  refine tr_ic 1 1 (by decide) rfl ?_
  refine tr_goto 4 34 rfl rfl rfl ?_
  refine tr_ic 2 2 (by decide) rfl ?_
  refine tr_call (.invokevirtual 66) 66 0 2 8 m_X9_isThrown [.ref 1099, .int 1, .int 2] [] (some (.int v0)) h1 rfl rfl rfl rfl rfl rfl rfl rfl rfl (tr_cok rfl (Or.inr ⟨_, _, rfl, tr_rc (hh_rd (hh_obj hL (k := 99) rfl).1) (by decide)⟩)) c_0 ?_
  have hL0 := c_0.2
  exact tr_if1 .eq 7 45 v0 rfl rfl rfl (fun hc => t ((tr_eq hc).1 rfl)) (fun hc => f ((tr_eq hc).2 rfl))
theorem sg_X9_catIn_33 {g : tr_g} {d : Nat} {h : ev_AH} {r : ev_O × ev_AH} {x1 v0 : Int32} {h1 : ev_AH} (hL : hh_L h) (c_0 : tr_L g d m_X9_isThrown 0 [some (.ref 1099), some (.int 0), some (.int 2)] [] h (.inl (some (.int v0)), h1)) (t : v0 = 0 → tr_L g (d + 1) m_X9_catIn 45 [some (.ref 1099), some (.int x1)] [] h1 r) (f : v0 ≠ 0 → tr_L g (d + 1) m_X9_catIn 41 [some (.ref 1099), some (.int x1)] [] h1 r) : tr_L g (d + 1) m_X9_catIn 33 [some (.ref 1099), some (.int x1)] [.ref 1099] h r := by
  refine tr_ic 0 0 (by decide) rfl ?_
  refine tr_ic 2 2 (by decide) rfl ?_
  refine tr_call (.invokevirtual 66) 66 0 2 8 m_X9_isThrown [.ref 1099, .int 0, .int 2] [] (some (.int v0)) h1 rfl rfl rfl rfl rfl rfl rfl rfl rfl (tr_cok rfl (Or.inr ⟨_, _, rfl, tr_rc (hh_rd (hh_obj hL (k := 99) rfl).1) (by decide)⟩)) c_0 ?_
  have hL0 := c_0.2
  exact tr_if1 .eq 7 45 v0 rfl rfl rfl (fun hc => t ((tr_eq hc).1 rfl)) (fun hc => f ((tr_eq hc).2 rfl))
theorem sg_X9_catIn_41 {g : tr_g} {d : Nat} {h : ev_AH} {r : ev_O × ev_AH} {w0 w1 : Option Value} (hL : hh_L h) (hr : r = (.inl (some (.int 0)), h)) : tr_L g d m_X9_catIn 41 [w0, w1] [] h r := by
  refine tr_ic 0 0 (by decide) rfl ?_
  refine tr_goto 8 50 rfl rfl rfl ?_
  exact tl_ret hL .ireturn 1 (some (.int 0)) rfl rfl rfl rfl hr
theorem sg_X9_catIn_45 {g : tr_g} {d : Nat} {h : ev_AH} {r : ev_O × ev_AH} {x1 v0 : Int32} {h1 : ev_AH} (hL : hh_L h) (c_0 : tr_L g d m_X9_catOn 0 [some (.ref 1099), some (.int x1), none] [] h (.inl (some (.int v0)), h1)) (hr : r = (.inl (some (.int v0)), h1)) : tr_L g (d + 1) m_X9_catIn 45 [some (.ref 1099), some (.int x1)] [] h r := by
  refine tr_s (.aload_n 0) 1 46 [some (.ref 1099), some (.int x1)] [.ref 1099] h rfl rfl rfl ?_
  refine tr_s (.iload_n 1) 1 47 [some (.ref 1099), some (.int x1)] [.int x1, .ref 1099] h rfl rfl rfl ?_
  refine tr_call (.invokevirtual 92) 92 0 1 8 m_X9_catOn [.ref 1099, .int x1] [] (some (.int v0)) h1 rfl rfl rfl rfl rfl rfl rfl rfl rfl (tr_cok rfl (Or.inr ⟨_, _, rfl, tr_rc (hh_rd (hh_obj hL (k := 99) rfl).1) (by decide)⟩)) c_0 ?_
  have hL0 := c_0.2
  exact tl_ret hL0 .ireturn 1 (some (.int v0)) rfl rfl rfl rfl hr
theorem sg_X9_contentOf_0 {g : tr_g} {d : Nat} {h : ev_AH} {r : ev_O × ev_AH} {x1 v0 : Int32} {h1 : ev_AH} (hL : hh_L h) (c_0 : tr_L g d m_X9_isCell 0 [some (.int x1)] [] h (.inl (some (.int v0)), h1)) (t : v0 ≠ 0 → tr_L g (d + 1) m_X9_contentOf 12 [some (.ref 1099), some (.int x1)] [.ref 1099] h1 r) (f : v0 = 0 → tr_L g (d + 1) m_X9_contentOf 8 [some (.ref 1099), some (.int x1)] [.ref 1099] h1 r) : tr_L g (d + 1) m_X9_contentOf 0 [some (.ref 1099), some (.int x1)] [] h r := by
  refine tr_s (.aload_n 0) 1 1 [some (.ref 1099), some (.int x1)] [.ref 1099] h rfl rfl rfl ?_
  refine tr_s (.iload_n 1) 1 2 [some (.ref 1099), some (.int x1)] [.int x1, .ref 1099] h rfl rfl rfl ?_
  refine tr_call (.invokestatic 82) 82 2 1 0 m_X9_isCell [.int x1] [.ref 1099] (some (.int v0)) h1 rfl rfl rfl rfl rfl rfl rfl rfl rfl (tr_cok rfl (Or.inl rfl)) c_0 ?_
  have hL0 := c_0.2
  exact tr_if1 .ne 7 12 v0 rfl rfl rfl (fun hc => t ((tr_ne hc).1 rfl)) (fun hc => f ((tr_ne hc).2 rfl))
theorem sg_X9_contentOf_8 {g : tr_g} {d : Nat} {h : ev_AH} {r : ev_O × ev_AH} {x1 v0 : Int32} {h1 : ev_AH} (hL : hh_L h) (c_0 : tr_L g d m_X9_isThrown 0 [some (.ref 1099), some (.int 1), some (.int 1)] [] h (.inl (some (.int v0)), h1)) (t : v0 = 0 → tr_L g (d + 1) m_X9_contentOf 24 [some (.ref 1099), some (.int x1)] [] h1 r) (f : v0 ≠ 0 → tr_L g (d + 1) m_X9_contentOf 20 [some (.ref 1099), some (.int x1)] [] h1 r) : tr_L g (d + 1) m_X9_contentOf 8 [some (.ref 1099), some (.int x1)] [.ref 1099] h r := by
  refine tr_ic 1 1 (by decide) rfl ?_
  refine tr_goto 4 13 rfl rfl rfl ?_
  refine tr_ic 1 1 (by decide) rfl ?_
  refine tr_call (.invokevirtual 66) 66 0 2 8 m_X9_isThrown [.ref 1099, .int 1, .int 1] [] (some (.int v0)) h1 rfl rfl rfl rfl rfl rfl rfl rfl rfl (tr_cok rfl (Or.inr ⟨_, _, rfl, tr_rc (hh_rd (hh_obj hL (k := 99) rfl).1) (by decide)⟩)) c_0 ?_
  have hL0 := c_0.2
  exact tr_if1 .eq 7 24 v0 rfl rfl rfl (fun hc => t ((tr_eq hc).1 rfl)) (fun hc => f ((tr_eq hc).2 rfl))
theorem sg_X9_contentOf_12 {g : tr_g} {d : Nat} {h : ev_AH} {r : ev_O × ev_AH} {x1 v0 : Int32} {h1 : ev_AH} (hL : hh_L h) (c_0 : tr_L g d m_X9_isThrown 0 [some (.ref 1099), some (.int 0), some (.int 1)] [] h (.inl (some (.int v0)), h1)) (t : v0 = 0 → tr_L g (d + 1) m_X9_contentOf 24 [some (.ref 1099), some (.int x1)] [] h1 r) (f : v0 ≠ 0 → tr_L g (d + 1) m_X9_contentOf 20 [some (.ref 1099), some (.int x1)] [] h1 r) : tr_L g (d + 1) m_X9_contentOf 12 [some (.ref 1099), some (.int x1)] [.ref 1099] h r := by
  refine tr_ic 0 0 (by decide) rfl ?_
  refine tr_ic 1 1 (by decide) rfl ?_
  refine tr_call (.invokevirtual 66) 66 0 2 8 m_X9_isThrown [.ref 1099, .int 0, .int 1] [] (some (.int v0)) h1 rfl rfl rfl rfl rfl rfl rfl rfl rfl (tr_cok rfl (Or.inr ⟨_, _, rfl, tr_rc (hh_rd (hh_obj hL (k := 99) rfl).1) (by decide)⟩)) c_0 ?_
  have hL0 := c_0.2
  exact tr_if1 .eq 7 24 v0 rfl rfl rfl (fun hc => t ((tr_eq hc).1 rfl)) (fun hc => f ((tr_eq hc).2 rfl))
theorem sg_X9_contentOf_20 {g : tr_g} {d : Nat} {h : ev_AH} {r : ev_O × ev_AH} {w0 w1 : Option Value} (hL : hh_L h) (hr : r = (.inl (some (.int 0)), h)) : tr_L g d m_X9_contentOf 20 [w0, w1] [] h r := by
  refine tr_ic 0 0 (by decide) rfl ?_
  refine tr_goto 9 30 rfl rfl rfl ?_
  exact tl_ret hL .ireturn 1 (some (.int 0)) rfl rfl rfl rfl hr
theorem sg_X9_contentOf_24 {g : tr_g} {d : Nat} {h : ev_AH} {r : ev_O × ev_AH} {x1 v0 : Int32} {h1 : ev_AH} (hL : hh_L h) (c_0 : tr_L g d m_X9_content 0 [some (.ref 1099), some (.int x1)] [] h (.inl (some (.int v0)), h1)) (hc0 : tr_ch ((v0.toUInt32 % 65536).toInt32)) (hr : r = (.inl (some (.int ((v0.toUInt32 % 65536).toInt32))), h1)) : tr_L g (d + 1) m_X9_contentOf 24 [some (.ref 1099), some (.int x1)] [] h r := by
  refine tr_s (.aload_n 0) 1 25 [some (.ref 1099), some (.int x1)] [.ref 1099] h rfl rfl rfl ?_
  refine tr_s (.iload_n 1) 1 26 [some (.ref 1099), some (.int x1)] [.int x1, .ref 1099] h rfl rfl rfl ?_
  refine tr_call (.invokevirtual 123) 123 0 1 8 m_X9_content [.ref 1099, .int x1] [] (some (.int v0)) h1 rfl rfl rfl rfl rfl rfl rfl rfl rfl (tr_cok rfl (Or.inr ⟨_, _, rfl, tr_rc (hh_rd (hh_obj hL (k := 99) rfl).1) (by decide)⟩)) c_0 ?_
  have hL0 := c_0.2
  refine tr_s .i2c 1 30 [some (.ref 1099), some (.int x1)] [.int ((v0.toUInt32 % 65536).toInt32)] h1 rfl rfl rfl ?_
  exact tl_ret hL0 .ireturn 1 (some (.int ((v0.toUInt32 % 65536).toInt32))) rfl rfl rfl (tr_ec rfl hc0) hr
theorem sg_X9_content_0 {g : tr_g} {d : Nat} {h : ev_AH} {r : ev_O × ev_AH} {x1 v0 : Int32} {h1 : ev_AH} (hL : hh_L h) (c_0 : tr_L g d m_X9_catOn 0 [some (.ref 1099), some (.int x1), none] [] h (.inl (some (.int v0)), h1)) (t : v0 < 0 → tr_L g (d + 1) m_X9_content 13 [some (.ref 1099), some (.int x1)] [] h1 r) (f : 0 ≤ v0 → tr_L g (d + 1) m_X9_content 8 [some (.ref 1099), some (.int x1)] [] h1 r) : tr_L g (d + 1) m_X9_content 0 [some (.ref 1099), some (.int x1)] [] h r := by
  refine tr_s (.aload_n 0) 1 1 [some (.ref 1099), some (.int x1)] [.ref 1099] h rfl rfl rfl ?_
  refine tr_s (.iload_n 1) 1 2 [some (.ref 1099), some (.int x1)] [.int x1, .ref 1099] h rfl rfl rfl ?_
  refine tr_call (.invokevirtual 92) 92 0 1 8 m_X9_catOn [.ref 1099, .int x1] [] (some (.int v0)) h1 rfl rfl rfl rfl rfl rfl rfl rfl rfl (tr_cok rfl (Or.inr ⟨_, _, rfl, tr_rc (hh_rd (hh_obj hL (k := 99) rfl).1) (by decide)⟩)) c_0 ?_
  have hL0 := c_0.2
  exact tr_if1 .lt 8 13 v0 rfl rfl rfl (fun hc => t ((tr_lt hc).1 rfl)) (fun hc => f ((tr_lt hc).2 rfl))
theorem sg_X9_content_8 {g : tr_g} {d : Nat} {h : ev_AH} {r : ev_O × ev_AH} {w0 w1 : Option Value} (hL : hh_L h) (hr : r = (.inl (some (.int 99)), h)) : tr_L g d m_X9_content 8 [w0, w1] [] h r := by
  refine tr_bi 99 99 (by decide) rfl ?_
  refine tr_goto 29 39 rfl rfl rfl ?_
  exact tl_ret hL .ireturn 1 (some (.int 99)) rfl rfl rfl rfl hr
theorem sg_X9_content_13 {g : tr_g} {d : Nat} {h : ev_AH} {r : ev_O × ev_AH} {x1 : Int32} {j0 : Nat} (hL : hh_L h) (e0 : 19 + x1 = Int32.ofNat j0) (b0 : j0 < 124) (t : ((hh_a h 100).getD j0 0) ≤ 0 → tr_L g d m_X9_content 37 [some (.ref 1099), some (.int x1)] [] h r) (f : 0 < ((hh_a h 100).getD j0 0) → tr_L g d m_X9_content 25 [some (.ref 1099), some (.int x1)] [] h r) : tr_L g d m_X9_content 13 [some (.ref 1099), some (.int x1)] [] h r := by
  refine tr_s (.aload_n 0) 1 14 [some (.ref 1099), some (.int x1)] [.ref 1099] h rfl rfl rfl ?_
  refine tl_gr hL 9 99 8 0 100 [1100, 1101, 1102, 1103, 1104, 1105, 0, 0, 0, 0, 0, 0, 0, 0, 0, 0, 0, 0, 0, 0, 0, 1106, 0, 1107, 1108, 0, 0, 0] rfl rfl rfl rfl ?_
  refine tr_bi 19 19 (by decide) rfl ?_
  refine tr_s (.iload_n 1) 1 20 [some (.ref 1099), some (.int x1)] [.int x1, .int 19, .ref 1100] h rfl rfl rfl ?_
  refine tr_s .iadd 1 21 [some (.ref 1099), some (.int x1)] [.int (19 + x1), .ref 1100] h rfl rfl rfl ?_
  refine tl_ald hL .iaload 100 0 124 j0 (19 + x1) rfl (by decide) rfl e0 b0 (by decide) ?_
  exact tr_if1 .le 15 37 ((hh_a h 100).getD j0 0) rfl rfl rfl (fun hc => t ((tr_le hc).1 rfl)) (fun hc => f ((tr_le hc).2 rfl))
theorem sg_X9_content_25 {g : tr_g} {d : Nat} {h : ev_AH} {r : ev_O × ev_AH} {x1 : Int32} {j0 : Nat} (hL : hh_L h) (e0 : 19 + x1 = Int32.ofNat j0) (b0 : j0 < 124) (hr : r = (.inl (some (.int ((hh_a h 100).getD j0 0))), h)) : tr_L g d m_X9_content 25 [some (.ref 1099), some (.int x1)] [] h r := by
  refine tr_s (.aload_n 0) 1 26 [some (.ref 1099), some (.int x1)] [.ref 1099] h rfl rfl rfl ?_
  refine tl_gr hL 9 99 8 0 100 [1100, 1101, 1102, 1103, 1104, 1105, 0, 0, 0, 0, 0, 0, 0, 0, 0, 0, 0, 0, 0, 0, 0, 1106, 0, 1107, 1108, 0, 0, 0] rfl rfl rfl rfl ?_
  refine tr_bi 19 19 (by decide) rfl ?_
  refine tr_s (.iload_n 1) 1 32 [some (.ref 1099), some (.int x1)] [.int x1, .int 19, .ref 1100] h rfl rfl rfl ?_
  refine tr_s .iadd 1 33 [some (.ref 1099), some (.int x1)] [.int (19 + x1), .ref 1100] h rfl rfl rfl ?_
  refine tl_ald hL .iaload 100 0 124 j0 (19 + x1) rfl (by decide) rfl e0 b0 (by decide) ?_
  refine tr_goto 5 39 rfl rfl rfl ?_
  exact tl_ret hL .ireturn 1 (some (.int ((hh_a h 100).getD j0 0))) rfl rfl rfl rfl hr
theorem sg_X9_content_37 {g : tr_g} {d : Nat} {h : ev_AH} {r : ev_O × ev_AH} {w0 w1 : Option Value} (hL : hh_L h) (hr : r = (.inl (some (.int 46)), h)) : tr_L g d m_X9_content 37 [w0, w1] [] h r := by
  refine tr_bi 46 46 (by decide) rfl ?_
  exact tl_ret hL .ireturn 1 (some (.int 46)) rfl rfl rfl rfl hr
theorem sg_X9_optionAt_0 {g : tr_g} {d : Nat} {h : ev_AH} {r : ev_O × ev_AH} {x1 x2 v0 : Int32} {h1 : ev_AH} (hL : hh_L h) (c_0 : tr_L g d m_X9_isCat 0 [some (.ref 1099), some (.int x1)] [] h (.inl (some (.int v0)), h1)) (t : v0 ≠ 0 → tr_L g (d + 1) m_X9_optionAt 13 [some (.ref 1099), some (.int x1), some (.int x2)] [.ref 1099] h1 r) (f : v0 = 0 → tr_L g (d + 1) m_X9_optionAt 9 [some (.ref 1099), some (.int x1), some (.int x2)] [.ref 1099] h1 r) : tr_L g (d + 1) m_X9_optionAt 0 [some (.ref 1099), some (.int x1), some (.int x2)] [] h r := by
  refine tr_s (.aload_n 0) 1 1 [some (.ref 1099), some (.int x1), some (.int x2)] [.ref 1099] h rfl rfl rfl ?_
  refine tr_s (.aload_n 0) 1 2 [some (.ref 1099), some (.int x1), some (.int x2)] [.ref 1099, .ref 1099] h rfl rfl rfl ?_
  refine tr_s (.iload_n 1) 1 3 [some (.ref 1099), some (.int x1), some (.int x2)] [.int x1, .ref 1099, .ref 1099] h rfl rfl rfl ?_
  refine tr_call (.invokevirtual 120) 120 0 1 8 m_X9_isCat [.ref 1099, .int x1] [.ref 1099] (some (.int v0)) h1 rfl rfl rfl rfl rfl rfl rfl rfl rfl (tr_cok rfl (Or.inr ⟨_, _, rfl, tr_rc (hh_rd (hh_obj hL (k := 99) rfl).1) (by decide)⟩)) c_0 ?_
  have hL0 := c_0.2
  exact tr_if1 .ne 7 13 v0 rfl rfl rfl (fun hc => t ((tr_ne hc).1 rfl)) (fun hc => f ((tr_ne hc).2 rfl))
theorem sg_X9_optionAt_9 {g : tr_g} {d : Nat} {h : ev_AH} {r : ev_O × ev_AH} {x1 x2 v0 : Int32} {h1 : ev_AH} (hL : hh_L h) (c_0 : tr_L g d m_X9_isThrown 0 [some (.ref 1099), some (.int 1), some (.int 1)] [] h (.inl (some (.int v0)), h1)) (t : v0 ≠ 0 → tr_L g (d + 1) m_X9_optionAt 43 [some (.ref 1099), some (.int x1), some (.int x2)] [] h1 r) (f : v0 = 0 → tr_L g (d + 1) m_X9_optionAt 21 [some (.ref 1099), some (.int x1), some (.int x2)] [] h1 r) : tr_L g (d + 1) m_X9_optionAt 9 [some (.ref 1099), some (.int x1), some (.int x2)] [.ref 1099] h r := by
  refine tr_ic 1 1 (by decide) rfl ?_
  refine tr_goto 4 14 rfl rfl rfl ?_
  refine tr_ic 1 1 (by decide) rfl ?_
  refine tr_call (.invokevirtual 66) 66 0 2 8 m_X9_isThrown [.ref 1099, .int 1, .int 1] [] (some (.int v0)) h1 rfl rfl rfl rfl rfl rfl rfl rfl rfl (tr_cok rfl (Or.inr ⟨_, _, rfl, tr_rc (hh_rd (hh_obj hL (k := 99) rfl).1) (by decide)⟩)) c_0 ?_
  have hL0 := c_0.2
  exact tr_if1 .ne 25 43 v0 rfl rfl rfl (fun hc => t ((tr_ne hc).1 rfl)) (fun hc => f ((tr_ne hc).2 rfl))
theorem sg_X9_optionAt_13 {g : tr_g} {d : Nat} {h : ev_AH} {r : ev_O × ev_AH} {x1 x2 v0 : Int32} {h1 : ev_AH} (hL : hh_L h) (c_0 : tr_L g d m_X9_isThrown 0 [some (.ref 1099), some (.int 0), some (.int 1)] [] h (.inl (some (.int v0)), h1)) (t : v0 ≠ 0 → tr_L g (d + 1) m_X9_optionAt 43 [some (.ref 1099), some (.int x1), some (.int x2)] [] h1 r) (f : v0 = 0 → tr_L g (d + 1) m_X9_optionAt 21 [some (.ref 1099), some (.int x1), some (.int x2)] [] h1 r) : tr_L g (d + 1) m_X9_optionAt 13 [some (.ref 1099), some (.int x1), some (.int x2)] [.ref 1099] h r := by
  refine tr_ic 0 0 (by decide) rfl ?_
  refine tr_ic 1 1 (by decide) rfl ?_
  refine tr_call (.invokevirtual 66) 66 0 2 8 m_X9_isThrown [.ref 1099, .int 0, .int 1] [] (some (.int v0)) h1 rfl rfl rfl rfl rfl rfl rfl rfl rfl (tr_cok rfl (Or.inr ⟨_, _, rfl, tr_rc (hh_rd (hh_obj hL (k := 99) rfl).1) (by decide)⟩)) c_0 ?_
  have hL0 := c_0.2
  exact tr_if1 .ne 25 43 v0 rfl rfl rfl (fun hc => t ((tr_ne hc).1 rfl)) (fun hc => f ((tr_ne hc).2 rfl))
theorem sg_X9_optionAt_21 {g : tr_g} {d : Nat} {h : ev_AH} {r : ev_O × ev_AH} {x1 x2 v0 : Int32} {h1 : ev_AH} (hL : hh_L h) (c_0 : tr_L g d m_X9_isIn 0 [some (.int x2), some (.int 0), some (.int 3)] [] h (.inl (some (.int v0)), h1)) (t : v0 ≠ 0 → tr_L g (d + 1) m_X9_optionAt 35 [some (.ref 1099), some (.int x1), some (.int x2)] [.ref 1099] h1 r) (f : v0 = 0 → tr_L g (d + 1) m_X9_optionAt 31 [some (.ref 1099), some (.int x1), some (.int x2)] [.ref 1099] h1 r) : tr_L g (d + 1) m_X9_optionAt 21 [some (.ref 1099), some (.int x1), some (.int x2)] [] h r := by
  refine tr_s (.aload_n 0) 1 22 [some (.ref 1099), some (.int x1), some (.int x2)] [.ref 1099] h rfl rfl rfl ?_
  refine tr_s (.iload_n 2) 1 23 [some (.ref 1099), some (.int x1), some (.int x2)] [.int x2, .ref 1099] h rfl rfl rfl ?_
  refine tr_ic 0 0 (by decide) rfl ?_
  refine tr_ic 3 3 (by decide) rfl ?_
  refine tr_call (.invokestatic 70) 70 2 3 0 m_X9_isIn [.int x2, .int 0, .int 3] [.ref 1099] (some (.int v0)) h1 rfl rfl rfl rfl rfl rfl rfl rfl rfl (tr_cok rfl (Or.inl rfl)) c_0 ?_
  have hL0 := c_0.2
  exact tr_if1 .ne 7 35 v0 rfl rfl rfl (fun hc => t ((tr_ne hc).1 rfl)) (fun hc => f ((tr_ne hc).2 rfl))
theorem sg_X9_optionAt_31 {g : tr_g} {d : Nat} {h : ev_AH} {r : ev_O × ev_AH} {x1 x2 v0 : Int32} {h1 : ev_AH} (hL : hh_L h) (c_0 : tr_L g d m_X9_isThrown 0 [some (.ref 1099), some (.int 1), some (.int 2)] [] h (.inl (some (.int v0)), h1)) (t : v0 = 0 → tr_L g (d + 1) m_X9_optionAt 47 [some (.ref 1099), some (.int x1), some (.int x2)] [] h1 r) (f : v0 ≠ 0 → tr_L g (d + 1) m_X9_optionAt 43 [some (.ref 1099), some (.int x1), some (.int x2)] [] h1 r) : tr_L g (d + 1) m_X9_optionAt 31 [some (.ref 1099), some (.int x1), some (.int x2)] [.ref 1099] h r := by
  refine tr_ic 1 1 (by decide) rfl ?_
  refine tr_goto 4 36 rfl rfl rfl ?_
  refine tr_ic 2 2 (by decide) rfl ?_
  refine tr_call (.invokevirtual 66) 66 0 2 8 m_X9_isThrown [.ref 1099, .int 1, .int 2] [] (some (.int v0)) h1 rfl rfl rfl rfl rfl rfl rfl rfl rfl (tr_cok rfl (Or.inr ⟨_, _, rfl, tr_rc (hh_rd (hh_obj hL (k := 99) rfl).1) (by decide)⟩)) c_0 ?_
  have hL0 := c_0.2
  exact tr_if1 .eq 7 47 v0 rfl rfl rfl (fun hc => t ((tr_eq hc).1 rfl)) (fun hc => f ((tr_eq hc).2 rfl))
theorem sg_X9_optionAt_35 {g : tr_g} {d : Nat} {h : ev_AH} {r : ev_O × ev_AH} {x1 x2 v0 : Int32} {h1 : ev_AH} (hL : hh_L h) (c_0 : tr_L g d m_X9_isThrown 0 [some (.ref 1099), some (.int 0), some (.int 2)] [] h (.inl (some (.int v0)), h1)) (t : v0 = 0 → tr_L g (d + 1) m_X9_optionAt 47 [some (.ref 1099), some (.int x1), some (.int x2)] [] h1 r) (f : v0 ≠ 0 → tr_L g (d + 1) m_X9_optionAt 43 [some (.ref 1099), some (.int x1), some (.int x2)] [] h1 r) : tr_L g (d + 1) m_X9_optionAt 35 [some (.ref 1099), some (.int x1), some (.int x2)] [.ref 1099] h r := by
  refine tr_ic 0 0 (by decide) rfl ?_
  refine tr_ic 2 2 (by decide) rfl ?_
  refine tr_call (.invokevirtual 66) 66 0 2 8 m_X9_isThrown [.ref 1099, .int 0, .int 2] [] (some (.int v0)) h1 rfl rfl rfl rfl rfl rfl rfl rfl rfl (tr_cok rfl (Or.inr ⟨_, _, rfl, tr_rc (hh_rd (hh_obj hL (k := 99) rfl).1) (by decide)⟩)) c_0 ?_
  have hL0 := c_0.2
  exact tr_if1 .eq 7 47 v0 rfl rfl rfl (fun hc => t ((tr_eq hc).1 rfl)) (fun hc => f ((tr_eq hc).2 rfl))
theorem sg_X9_optionAt_43 {g : tr_g} {d : Nat} {h : ev_AH} {r : ev_O × ev_AH} {w0 w1 w2 : Option Value} (hL : hh_L h) (hr : r = (.inl (some (.int 0)), h)) : tr_L g d m_X9_optionAt 43 [w0, w1, w2] [] h r := by
  refine tr_ic 0 0 (by decide) rfl ?_
  refine tr_goto 15 59 rfl rfl rfl ?_
  exact tl_ret hL .ireturn 1 (some (.int 0)) rfl rfl rfl rfl hr
theorem sg_X9_optionAt_47 {g : tr_g} {d : Nat} {h : ev_AH} {r : ev_O × ev_AH} {x1 x2 v0 : Int32} {h1 : ev_AH} (hL : hh_L h) (c_0 : tr_L g d m_X9_of 0 [some (.ref 1099), some (.int x1), some (.int (2 + x2))] [] h (.inl (some (.int v0)), h1)) (hc0 : tr_ch (((97 + v0).toUInt32 % 65536).toInt32)) (hr : r = (.inl (some (.int (((97 + v0).toUInt32 % 65536).toInt32))), h1)) : tr_L g (d + 1) m_X9_optionAt 47 [some (.ref 1099), some (.int x1), some (.int x2)] [] h r := by
  refine tr_bi 97 97 (by decide) rfl ?_
  refine tr_s (.aload_n 0) 1 50 [some (.ref 1099), some (.int x1), some (.int x2)] [.ref 1099, .int 97] h rfl rfl rfl ?_
  refine tr_s (.iload_n 1) 1 51 [some (.ref 1099), some (.int x1), some (.int x2)] [.int x1, .ref 1099, .int 97] h rfl rfl rfl ?_
  refine tr_ic 2 2 (by decide) rfl ?_
  refine tr_s (.iload_n 2) 1 53 [some (.ref 1099), some (.int x1), some (.int x2)] [.int x2, .int 2, .int x1, .ref 1099, .int 97] h rfl rfl rfl ?_
  refine tr_s .iadd 1 54 [some (.ref 1099), some (.int x1), some (.int x2)] [.int (2 + x2), .int x1, .ref 1099, .int 97] h rfl rfl rfl ?_
  refine tr_call (.invokevirtual 74) 74 0 2 8 m_X9_of [.ref 1099, .int x1, .int (2 + x2)] [.int 97] (some (.int v0)) h1 rfl rfl rfl rfl rfl rfl rfl rfl rfl (tr_cok rfl (Or.inr ⟨_, _, rfl, tr_rc (hh_rd (hh_obj hL (k := 99) rfl).1) (by decide)⟩)) c_0 ?_
  have hL0 := c_0.2
  refine tr_s .iadd 1 58 [some (.ref 1099), some (.int x1), some (.int x2)] [.int (97 + v0)] h1 rfl rfl rfl ?_
  refine tr_s .i2c 1 59 [some (.ref 1099), some (.int x1), some (.int x2)] [.int (((97 + v0).toUInt32 % 65536).toInt32)] h1 rfl rfl rfl ?_
  exact tl_ret hL0 .ireturn 1 (some (.int (((97 + v0).toUInt32 % 65536).toInt32))) rfl rfl rfl (tr_ec rfl hc0) hr
theorem sg_X9_placeOf_0 {g : tr_g} {d : Nat} {h : ev_AH} {r : ev_O × ev_AH} {x1 x2 v0 : Int32} {h1 : ev_AH} (hL : hh_L h) (c_0 : tr_L g d m_X9_isCat 0 [some (.ref 1099), some (.int x1)] [] h (.inl (some (.int v0)), h1)) (t : v0 ≠ 0 → tr_L g (d + 1) m_X9_placeOf 13 [some (.ref 1099), some (.int x1), some (.int x2)] [.ref 1099] h1 r) (f : v0 = 0 → tr_L g (d + 1) m_X9_placeOf 9 [some (.ref 1099), some (.int x1), some (.int x2)] [.ref 1099] h1 r) : tr_L g (d + 1) m_X9_placeOf 0 [some (.ref 1099), some (.int x1), some (.int x2)] [] h r := by
  refine tr_s (.aload_n 0) 1 1 [some (.ref 1099), some (.int x1), some (.int x2)] [.ref 1099] h rfl rfl rfl ?_
  refine tr_s (.aload_n 0) 1 2 [some (.ref 1099), some (.int x1), some (.int x2)] [.ref 1099, .ref 1099] h rfl rfl rfl ?_
  refine tr_s (.iload_n 1) 1 3 [some (.ref 1099), some (.int x1), some (.int x2)] [.int x1, .ref 1099, .ref 1099] h rfl rfl rfl ?_
  refine tr_call (.invokevirtual 120) 120 0 1 8 m_X9_isCat [.ref 1099, .int x1] [.ref 1099] (some (.int v0)) h1 rfl rfl rfl rfl rfl rfl rfl rfl rfl (tr_cok rfl (Or.inr ⟨_, _, rfl, tr_rc (hh_rd (hh_obj hL (k := 99) rfl).1) (by decide)⟩)) c_0 ?_
  have hL0 := c_0.2
  exact tr_if1 .ne 7 13 v0 rfl rfl rfl (fun hc => t ((tr_ne hc).1 rfl)) (fun hc => f ((tr_ne hc).2 rfl))
theorem sg_X9_placeOf_9 {g : tr_g} {d : Nat} {h : ev_AH} {r : ev_O × ev_AH} {x1 x2 v0 : Int32} {h1 : ev_AH} (hL : hh_L h) (c_0 : tr_L g d m_X9_isThrown 0 [some (.ref 1099), some (.int 1), some (.int 1)] [] h (.inl (some (.int v0)), h1)) (t : v0 ≠ 0 → tr_L g (d + 1) m_X9_placeOf 41 [some (.ref 1099), some (.int x1), some (.int x2)] [] h1 r) (f : v0 = 0 → tr_L g (d + 1) m_X9_placeOf 21 [some (.ref 1099), some (.int x1), some (.int x2)] [] h1 r) : tr_L g (d + 1) m_X9_placeOf 9 [some (.ref 1099), some (.int x1), some (.int x2)] [.ref 1099] h r := by
  refine tr_ic 1 1 (by decide) rfl ?_
  refine tr_goto 4 14 rfl rfl rfl ?_
  refine tr_ic 1 1 (by decide) rfl ?_
  refine tr_call (.invokevirtual 66) 66 0 2 8 m_X9_isThrown [.ref 1099, .int 1, .int 1] [] (some (.int v0)) h1 rfl rfl rfl rfl rfl rfl rfl rfl rfl (tr_cok rfl (Or.inr ⟨_, _, rfl, tr_rc (hh_rd (hh_obj hL (k := 99) rfl).1) (by decide)⟩)) c_0 ?_
  have hL0 := c_0.2
  exact tr_if1 .ne 23 41 v0 rfl rfl rfl (fun hc => t ((tr_ne hc).1 rfl)) (fun hc => f ((tr_ne hc).2 rfl))
theorem sg_X9_placeOf_13 {g : tr_g} {d : Nat} {h : ev_AH} {r : ev_O × ev_AH} {x1 x2 v0 : Int32} {h1 : ev_AH} (hL : hh_L h) (c_0 : tr_L g d m_X9_isThrown 0 [some (.ref 1099), some (.int 0), some (.int 1)] [] h (.inl (some (.int v0)), h1)) (t : v0 ≠ 0 → tr_L g (d + 1) m_X9_placeOf 41 [some (.ref 1099), some (.int x1), some (.int x2)] [] h1 r) (f : v0 = 0 → tr_L g (d + 1) m_X9_placeOf 21 [some (.ref 1099), some (.int x1), some (.int x2)] [] h1 r) : tr_L g (d + 1) m_X9_placeOf 13 [some (.ref 1099), some (.int x1), some (.int x2)] [.ref 1099] h r := by
  refine tr_ic 0 0 (by decide) rfl ?_
  refine tr_ic 1 1 (by decide) rfl ?_
  refine tr_call (.invokevirtual 66) 66 0 2 8 m_X9_isThrown [.ref 1099, .int 0, .int 1] [] (some (.int v0)) h1 rfl rfl rfl rfl rfl rfl rfl rfl rfl (tr_cok rfl (Or.inr ⟨_, _, rfl, tr_rc (hh_rd (hh_obj hL (k := 99) rfl).1) (by decide)⟩)) c_0 ?_
  have hL0 := c_0.2
  exact tr_if1 .ne 23 41 v0 rfl rfl rfl (fun hc => t ((tr_ne hc).1 rfl)) (fun hc => f ((tr_ne hc).2 rfl))
theorem sg_X9_placeOf_21 {g : tr_g} {d : Nat} {h : ev_AH} {r : ev_O × ev_AH} {x1 x2 v0 : Int32} {h1 : ev_AH} (hL : hh_L h) (c_0 : tr_L g d m_X9_isOption 0 [some (.int x2)] [] h (.inl (some (.int v0)), h1)) (t : v0 ≠ 0 → tr_L g (d + 1) m_X9_placeOf 33 [some (.ref 1099), some (.int x1), some (.int x2)] [.ref 1099] h1 r) (f : v0 = 0 → tr_L g (d + 1) m_X9_placeOf 29 [some (.ref 1099), some (.int x1), some (.int x2)] [.ref 1099] h1 r) : tr_L g (d + 1) m_X9_placeOf 21 [some (.ref 1099), some (.int x1), some (.int x2)] [] h r := by
  refine tr_s (.aload_n 0) 1 22 [some (.ref 1099), some (.int x1), some (.int x2)] [.ref 1099] h rfl rfl rfl ?_
  refine tr_s (.iload_n 2) 1 23 [some (.ref 1099), some (.int x1), some (.int x2)] [.int x2, .ref 1099] h rfl rfl rfl ?_
  refine tr_call (.invokestatic 78) 78 2 1 0 m_X9_isOption [.int x2] [.ref 1099] (some (.int v0)) h1 rfl rfl rfl rfl rfl rfl rfl rfl rfl (tr_cok rfl (Or.inl rfl)) c_0 ?_
  have hL0 := c_0.2
  exact tr_if1 .ne 7 33 v0 rfl rfl rfl (fun hc => t ((tr_ne hc).1 rfl)) (fun hc => f ((tr_ne hc).2 rfl))
theorem sg_X9_placeOf_29 {g : tr_g} {d : Nat} {h : ev_AH} {r : ev_O × ev_AH} {x1 x2 v0 : Int32} {h1 : ev_AH} (hL : hh_L h) (c_0 : tr_L g d m_X9_isThrown 0 [some (.ref 1099), some (.int 1), some (.int 2)] [] h (.inl (some (.int v0)), h1)) (t : v0 = 0 → tr_L g (d + 1) m_X9_placeOf 45 [some (.ref 1099), some (.int x1), some (.int x2)] [] h1 r) (f : v0 ≠ 0 → tr_L g (d + 1) m_X9_placeOf 41 [some (.ref 1099), some (.int x1), some (.int x2)] [] h1 r) : tr_L g (d + 1) m_X9_placeOf 29 [some (.ref 1099), some (.int x1), some (.int x2)] [.ref 1099] h r := by
  refine tr_ic 1 1 (by decide) rfl ?_
  refine tr_goto 4 34 rfl rfl rfl ?_
  refine tr_ic 2 2 (by decide) rfl ?_
  refine tr_call (.invokevirtual 66) 66 0 2 8 m_X9_isThrown [.ref 1099, .int 1, .int 2] [] (some (.int v0)) h1 rfl rfl rfl rfl rfl rfl rfl rfl rfl (tr_cok rfl (Or.inr ⟨_, _, rfl, tr_rc (hh_rd (hh_obj hL (k := 99) rfl).1) (by decide)⟩)) c_0 ?_
  have hL0 := c_0.2
  exact tr_if1 .eq 7 45 v0 rfl rfl rfl (fun hc => t ((tr_eq hc).1 rfl)) (fun hc => f ((tr_eq hc).2 rfl))
theorem sg_X9_placeOf_33 {g : tr_g} {d : Nat} {h : ev_AH} {r : ev_O × ev_AH} {x1 x2 v0 : Int32} {h1 : ev_AH} (hL : hh_L h) (c_0 : tr_L g d m_X9_isThrown 0 [some (.ref 1099), some (.int 0), some (.int 2)] [] h (.inl (some (.int v0)), h1)) (t : v0 = 0 → tr_L g (d + 1) m_X9_placeOf 45 [some (.ref 1099), some (.int x1), some (.int x2)] [] h1 r) (f : v0 ≠ 0 → tr_L g (d + 1) m_X9_placeOf 41 [some (.ref 1099), some (.int x1), some (.int x2)] [] h1 r) : tr_L g (d + 1) m_X9_placeOf 33 [some (.ref 1099), some (.int x1), some (.int x2)] [.ref 1099] h r := by
  refine tr_ic 0 0 (by decide) rfl ?_
  refine tr_ic 2 2 (by decide) rfl ?_
  refine tr_call (.invokevirtual 66) 66 0 2 8 m_X9_isThrown [.ref 1099, .int 0, .int 2] [] (some (.int v0)) h1 rfl rfl rfl rfl rfl rfl rfl rfl rfl (tr_cok rfl (Or.inr ⟨_, _, rfl, tr_rc (hh_rd (hh_obj hL (k := 99) rfl).1) (by decide)⟩)) c_0 ?_
  have hL0 := c_0.2
  exact tr_if1 .eq 7 45 v0 rfl rfl rfl (fun hc => t ((tr_eq hc).1 rfl)) (fun hc => f ((tr_eq hc).2 rfl))
theorem sg_X9_placeOf_41 {g : tr_g} {d : Nat} {h : ev_AH} {r : ev_O × ev_AH} {w0 w1 w2 : Option Value} (hL : hh_L h) (hr : r = (.inl (some (.int 0)), h)) : tr_L g d m_X9_placeOf 41 [w0, w1, w2] [] h r := by
  refine tr_ic 0 0 (by decide) rfl ?_
  refine tr_goto 12 54 rfl rfl rfl ?_
  exact tl_ret hL .ireturn 1 (some (.int 0)) rfl rfl rfl rfl hr
theorem sg_X9_placeOf_45 {g : tr_g} {d : Nat} {h : ev_AH} {r : ev_O × ev_AH} {x1 x2 v0 : Int32} {h1 : ev_AH} (hL : hh_L h) (c_0 : tr_L g d m_X9_place 0 [some (.ref 1099), some (.int x1), some (.int (x2 - 97)), none] [] h (.inl (some (.int v0)), h1)) (hr : r = (.inl (some (.int v0)), h1)) : tr_L g (d + 1) m_X9_placeOf 45 [some (.ref 1099), some (.int x1), some (.int x2)] [] h r := by
  refine tr_s (.aload_n 0) 1 46 [some (.ref 1099), some (.int x1), some (.int x2)] [.ref 1099] h rfl rfl rfl ?_
  refine tr_s (.iload_n 1) 1 47 [some (.ref 1099), some (.int x1), some (.int x2)] [.int x1, .ref 1099] h rfl rfl rfl ?_
  refine tr_s (.iload_n 2) 1 48 [some (.ref 1099), some (.int x1), some (.int x2)] [.int x2, .int x1, .ref 1099] h rfl rfl rfl ?_
  refine tr_bi 97 97 (by decide) rfl ?_
  refine tr_s .isub 1 51 [some (.ref 1099), some (.int x1), some (.int x2)] [.int (x2 - 97), .int x1, .ref 1099] h rfl rfl rfl ?_
  refine tr_call (.invokevirtual 126) 126 0 2 8 m_X9_place [.ref 1099, .int x1, .int (x2 - 97)] [] (some (.int v0)) h1 rfl rfl rfl rfl rfl rfl rfl rfl rfl (tr_cok rfl (Or.inr ⟨_, _, rfl, tr_rc (hh_rd (hh_obj hL (k := 99) rfl).1) (by decide)⟩)) c_0 ?_
  have hL0 := c_0.2
  exact tl_ret hL0 .ireturn 1 (some (.int v0)) rfl rfl rfl rfl hr
theorem sg_X9_place_0 {g : tr_g} {d : Nat} {h : ev_AH} {r : ev_O × ev_AH} {x1 x2 : Int32} (hL : hh_L h) (k : tr_L g d m_X9_place 2 [some (.ref 1099), some (.int x1), some (.int x2), some (.int 0)] [] h r) : tr_L g d m_X9_place 0 [some (.ref 1099), some (.int x1), some (.int x2), none] [] h r := by
  refine tr_ic 0 0 (by decide) rfl ?_
  refine tr_st (.istore_n 3) 1 3 0 (.int 0) rfl rfl rfl rfl rfl rfl rfl ?_
  exact k
theorem sg_X9_place_2 {g : tr_g} {d : Nat} {h : ev_AH} {r : ev_O × ev_AH} {x1 x2 x3 v0 : Int32} {h1 : ev_AH} (hL : hh_L h) (c_0 : tr_L g d m_X9_of 0 [some (.ref 1099), some (.int x1), some (.int (2 + x3))] [] h (.inl (some (.int v0)), h1)) (t : v0 = x2 → tr_L g (d + 1) m_X9_place 20 [some (.ref 1099), some (.int x1), some (.int x2), some (.int x3)] [] h1 r) (f : v0 ≠ x2 → tr_L g (d + 1) m_X9_place 14 [some (.ref 1099), some (.int x1), some (.int x2), some (.int x3)] [] h1 r) : tr_L g (d + 1) m_X9_place 2 [some (.ref 1099), some (.int x1), some (.int x2), some (.int x3)] [] h r := by
  refine tr_s (.aload_n 0) 1 3 [some (.ref 1099), some (.int x1), some (.int x2), some (.int x3)] [.ref 1099] h rfl rfl rfl ?_
  refine tr_s (.iload_n 1) 1 4 [some (.ref 1099), some (.int x1), some (.int x2), some (.int x3)] [.int x1, .ref 1099] h rfl rfl rfl ?_
  refine tr_ic 2 2 (by decide) rfl ?_
  refine tr_s (.iload_n 3) 1 6 [some (.ref 1099), some (.int x1), some (.int x2), some (.int x3)] [.int x3, .int 2, .int x1, .ref 1099] h rfl rfl rfl ?_
  refine tr_s .iadd 1 7 [some (.ref 1099), some (.int x1), some (.int x2), some (.int x3)] [.int (2 + x3), .int x1, .ref 1099] h rfl rfl rfl ?_
  refine tr_call (.invokevirtual 74) 74 0 2 8 m_X9_of [.ref 1099, .int x1, .int (2 + x3)] [] (some (.int v0)) h1 rfl rfl rfl rfl rfl rfl rfl rfl rfl (tr_cok rfl (Or.inr ⟨_, _, rfl, tr_rc (hh_rd (hh_obj hL (k := 99) rfl).1) (by decide)⟩)) c_0 ?_
  have hL0 := c_0.2
  refine tr_s (.iload_n 2) 1 11 [some (.ref 1099), some (.int x1), some (.int x2), some (.int x3)] [.int x2, .int v0] h1 rfl rfl rfl ?_
  exact tr_if2 .eq 9 20 v0 x2 rfl rfl rfl (fun hc => t ((tr_eq hc).1 rfl)) (fun hc => f ((tr_eq hc).2 rfl))
theorem sg_X9_place_14 {g : tr_g} {d : Nat} {h : ev_AH} {r : ev_O × ev_AH} {x1 x2 x3 : Int32} (hL : hh_L h) (k : tr_L g d m_X9_place 2 [some (.ref 1099), some (.int x1), some (.int x2), some (.int (x3 + 1))] [] h r) : tr_L g d m_X9_place 14 [some (.ref 1099), some (.int x1), some (.int x2), some (.int x3)] [] h r := by
  refine tr_inc 3 1 x3 1 (by decide) rfl rfl rfl ?_
  refine tr_goto (-15) 2 rfl rfl rfl ?_
  exact k
theorem sg_X9_place_20 {g : tr_g} {d : Nat} {h : ev_AH} {r : ev_O × ev_AH} {w0 w1 w2 : Option Value} {x3 : Int32} (hL : hh_L h) (hr : r = (.inl (some (.int x3)), h)) : tr_L g d m_X9_place 20 [w0, w1, w2, some (.int x3)] [] h r := by
  refine tr_s (.iload_n 3) 1 21 [w0, w1, w2, some (.int x3)] [.int x3] h rfl rfl rfl ?_
  exact tl_ret hL .ireturn 1 (some (.int x3)) rfl rfl rfl rfl hr
theorem sg_X9_heardBy_0 {g : tr_g} {d : Nat} {h : ev_AH} {r : ev_O × ev_AH} {x1 v0 : Int32} {h1 : ev_AH} (hL : hh_L h) (c_0 : tr_L g d m_X9_isCat 0 [some (.ref 1099), some (.int x1)] [] h (.inl (some (.int v0)), h1)) (t : v0 ≠ 0 → tr_L g (d + 1) m_X9_heardBy 13 [some (.ref 1099), some (.int x1)] [.ref 1099] h1 r) (f : v0 = 0 → tr_L g (d + 1) m_X9_heardBy 9 [some (.ref 1099), some (.int x1)] [.ref 1099] h1 r) : tr_L g (d + 1) m_X9_heardBy 0 [some (.ref 1099), some (.int x1)] [] h r := by
  refine tr_s (.aload_n 0) 1 1 [some (.ref 1099), some (.int x1)] [.ref 1099] h rfl rfl rfl ?_
  refine tr_s (.aload_n 0) 1 2 [some (.ref 1099), some (.int x1)] [.ref 1099, .ref 1099] h rfl rfl rfl ?_
  refine tr_s (.iload_n 1) 1 3 [some (.ref 1099), some (.int x1)] [.int x1, .ref 1099, .ref 1099] h rfl rfl rfl ?_
  refine tr_call (.invokevirtual 120) 120 0 1 8 m_X9_isCat [.ref 1099, .int x1] [.ref 1099] (some (.int v0)) h1 rfl rfl rfl rfl rfl rfl rfl rfl rfl (tr_cok rfl (Or.inr ⟨_, _, rfl, tr_rc (hh_rd (hh_obj hL (k := 99) rfl).1) (by decide)⟩)) c_0 ?_
  have hL0 := c_0.2
  exact tr_if1 .ne 7 13 v0 rfl rfl rfl (fun hc => t ((tr_ne hc).1 rfl)) (fun hc => f ((tr_ne hc).2 rfl))
theorem sg_X9_heardBy_9 {g : tr_g} {d : Nat} {h : ev_AH} {r : ev_O × ev_AH} {x1 v0 : Int32} {h1 : ev_AH} (hL : hh_L h) (c_0 : tr_L g d m_X9_isThrown 0 [some (.ref 1099), some (.int 1), some (.int 1)] [] h (.inl (some (.int v0)), h1)) (t : v0 = 0 → tr_L g (d + 1) m_X9_heardBy 25 [some (.ref 1099), some (.int x1)] [] h1 r) (f : v0 ≠ 0 → tr_L g (d + 1) m_X9_heardBy 21 [some (.ref 1099), some (.int x1)] [] h1 r) : tr_L g (d + 1) m_X9_heardBy 9 [some (.ref 1099), some (.int x1)] [.ref 1099] h r := by
  refine tr_ic 1 1 (by decide) rfl ?_
  refine tr_goto 4 14 rfl rfl rfl ?_
  refine tr_ic 1 1 (by decide) rfl ?_
  refine tr_call (.invokevirtual 66) 66 0 2 8 m_X9_isThrown [.ref 1099, .int 1, .int 1] [] (some (.int v0)) h1 rfl rfl rfl rfl rfl rfl rfl rfl rfl (tr_cok rfl (Or.inr ⟨_, _, rfl, tr_rc (hh_rd (hh_obj hL (k := 99) rfl).1) (by decide)⟩)) c_0 ?_
  have hL0 := c_0.2
  exact tr_if1 .eq 7 25 v0 rfl rfl rfl (fun hc => t ((tr_eq hc).1 rfl)) (fun hc => f ((tr_eq hc).2 rfl))
theorem sg_X9_heardBy_13 {g : tr_g} {d : Nat} {h : ev_AH} {r : ev_O × ev_AH} {x1 v0 : Int32} {h1 : ev_AH} (hL : hh_L h) (c_0 : tr_L g d m_X9_isThrown 0 [some (.ref 1099), some (.int 0), some (.int 1)] [] h (.inl (some (.int v0)), h1)) (t : v0 = 0 → tr_L g (d + 1) m_X9_heardBy 25 [some (.ref 1099), some (.int x1)] [] h1 r) (f : v0 ≠ 0 → tr_L g (d + 1) m_X9_heardBy 21 [some (.ref 1099), some (.int x1)] [] h1 r) : tr_L g (d + 1) m_X9_heardBy 13 [some (.ref 1099), some (.int x1)] [.ref 1099] h r := by
  refine tr_ic 0 0 (by decide) rfl ?_
  refine tr_ic 1 1 (by decide) rfl ?_
  refine tr_call (.invokevirtual 66) 66 0 2 8 m_X9_isThrown [.ref 1099, .int 0, .int 1] [] (some (.int v0)) h1 rfl rfl rfl rfl rfl rfl rfl rfl rfl (tr_cok rfl (Or.inr ⟨_, _, rfl, tr_rc (hh_rd (hh_obj hL (k := 99) rfl).1) (by decide)⟩)) c_0 ?_
  have hL0 := c_0.2
  exact tr_if1 .eq 7 25 v0 rfl rfl rfl (fun hc => t ((tr_eq hc).1 rfl)) (fun hc => f ((tr_eq hc).2 rfl))
theorem sg_X9_heardBy_21 {g : tr_g} {d : Nat} {h : ev_AH} {r : ev_O × ev_AH} {w0 w1 : Option Value} (hL : hh_L h) (hr : r = (.inl (some (.int 0)), h)) : tr_L g d m_X9_heardBy 21 [w0, w1] [] h r := by
  refine tr_ic 0 0 (by decide) rfl ?_
  refine tr_goto 9 31 rfl rfl rfl ?_
  exact tl_ret hL .ireturn 1 (some (.int 0)) rfl rfl rfl rfl hr
theorem sg_X9_heardBy_25 {g : tr_g} {d : Nat} {h : ev_AH} {r : ev_O × ev_AH} {x1 v0 : Int32} {h1 : ev_AH} (hL : hh_L h) (c_0 : tr_L g d m_X9_of 0 [some (.ref 1099), some (.int x1), some (.int 1)] [] h (.inl (some (.int v0)), h1)) (hr : r = (.inl (some (.int v0)), h1)) : tr_L g (d + 1) m_X9_heardBy 25 [some (.ref 1099), some (.int x1)] [] h r := by
  refine tr_s (.aload_n 0) 1 26 [some (.ref 1099), some (.int x1)] [.ref 1099] h rfl rfl rfl ?_
  refine tr_s (.iload_n 1) 1 27 [some (.ref 1099), some (.int x1)] [.int x1, .ref 1099] h rfl rfl rfl ?_
  refine tr_ic 1 1 (by decide) rfl ?_
  refine tr_call (.invokevirtual 74) 74 0 2 8 m_X9_of [.ref 1099, .int x1, .int 1] [] (some (.int v0)) h1 rfl rfl rfl rfl rfl rfl rfl rfl rfl (tr_cok rfl (Or.inr ⟨_, _, rfl, tr_rc (hh_rd (hh_obj hL (k := 99) rfl).1) (by decide)⟩)) c_0 ?_
  have hL0 := c_0.2
  exact tl_ret hL0 .ireturn 1 (some (.int v0)) rfl rfl rfl rfl hr
theorem sg_X9_rayEnd_0 {g : tr_g} {d : Nat} {h : ev_AH} {r : ev_O × ev_AH} {x1 v0 : Int32} {h1 : ev_AH} (hL : hh_L h) (c_0 : tr_L g d m_X9_isNoPort 0 [some (.ref 1099), some (.int x1)] [] h (.inl (some (.int v0)), h1)) (t : v0 ≠ 0 → tr_L g (d + 1) m_X9_rayEnd 28 [some (.ref 1099), some (.int x1)] [] h1 r) (f : v0 = 0 → tr_L g (d + 1) m_X9_rayEnd 8 [some (.ref 1099), some (.int x1)] [] h1 r) : tr_L g (d + 1) m_X9_rayEnd 0 [some (.ref 1099), some (.int x1)] [] h r := by
  refine tr_s (.aload_n 0) 1 1 [some (.ref 1099), some (.int x1)] [.ref 1099] h rfl rfl rfl ?_
  refine tr_s (.iload_n 1) 1 2 [some (.ref 1099), some (.int x1)] [.int x1, .ref 1099] h rfl rfl rfl ?_
  refine tr_call (.invokevirtual 160) 160 0 1 8 m_X9_isNoPort [.ref 1099, .int x1] [] (some (.int v0)) h1 rfl rfl rfl rfl rfl rfl rfl rfl rfl (tr_cok rfl (Or.inr ⟨_, _, rfl, tr_rc (hh_rd (hh_obj hL (k := 99) rfl).1) (by decide)⟩)) c_0 ?_
  have hL0 := c_0.2
  exact tr_if1 .ne 23 28 v0 rfl rfl rfl (fun hc => t ((tr_ne hc).1 rfl)) (fun hc => f ((tr_ne hc).2 rfl))
theorem sg_X9_rayEnd_8 {g : tr_g} {d : Nat} {h : ev_AH} {r : ev_O × ev_AH} {w1 : Option Value} (hL : hh_L h) (t : (hh_i h 99 15) < 0 → tr_L g d m_X9_rayEnd 20 [some (.ref 1099), w1] [.ref 1099] h r) (f : 0 ≤ (hh_i h 99 15) → tr_L g d m_X9_rayEnd 16 [some (.ref 1099), w1] [.ref 1099] h r) : tr_L g d m_X9_rayEnd 8 [some (.ref 1099), w1] [] h r := by
  refine tr_s (.aload_n 0) 1 9 [some (.ref 1099), w1] [.ref 1099] h rfl rfl rfl ?_
  refine tr_s (.aload_n 0) 1 10 [some (.ref 1099), w1] [.ref 1099, .ref 1099] h rfl rfl rfl ?_
  refine tl_gi hL 141 99 8 15 [1100, 1101, 1102, 1103, 1104, 1105, 0, 0, 0, 0, 0, 0, 0, 0, 0, 0, 0, 0, 0, 0, 0, 1106, 0, 1107, 1108, 0, 0, 0] rfl rfl rfl rfl ?_
  exact tr_if1 .lt 7 20 (hh_i h 99 15) rfl rfl rfl (fun hc => t ((tr_lt hc).1 rfl)) (fun hc => f ((tr_lt hc).2 rfl))
theorem sg_X9_rayEnd_16 {g : tr_g} {d : Nat} {h : ev_AH} {r : ev_O × ev_AH} {w1 : Option Value} {h1 : ev_AH} {v0 : Int32} (hL : hh_L h) (c_0 : tr_L g d m_X9_isThrown 0 [some (.ref 1099), some (.int 1), some (.int 2)] [] h (.inl (some (.int v0)), h1)) (t : v0 = 0 → tr_L g (d + 1) m_X9_rayEnd 32 [some (.ref 1099), w1] [] h1 r) (f : v0 ≠ 0 → tr_L g (d + 1) m_X9_rayEnd 28 [some (.ref 1099), w1] [] h1 r) : tr_L g (d + 1) m_X9_rayEnd 16 [some (.ref 1099), w1] [.ref 1099] h r := by
  refine tr_ic 1 1 (by decide) rfl ?_
  refine tr_goto 4 21 rfl rfl rfl ?_
  refine tr_ic 2 2 (by decide) rfl ?_
  refine tr_call (.invokevirtual 66) 66 0 2 8 m_X9_isThrown [.ref 1099, .int 1, .int 2] [] (some (.int v0)) h1 rfl rfl rfl rfl rfl rfl rfl rfl rfl (tr_cok rfl (Or.inr ⟨_, _, rfl, tr_rc (hh_rd (hh_obj hL (k := 99) rfl).1) (by decide)⟩)) c_0 ?_
  have hL0 := c_0.2
  exact tr_if1 .eq 7 32 v0 rfl rfl rfl (fun hc => t ((tr_eq hc).1 rfl)) (fun hc => f ((tr_eq hc).2 rfl))
theorem sg_X9_rayEnd_20 {g : tr_g} {d : Nat} {h : ev_AH} {r : ev_O × ev_AH} {w1 : Option Value} {h1 : ev_AH} {v0 : Int32} (hL : hh_L h) (c_0 : tr_L g d m_X9_isThrown 0 [some (.ref 1099), some (.int 0), some (.int 2)] [] h (.inl (some (.int v0)), h1)) (t : v0 = 0 → tr_L g (d + 1) m_X9_rayEnd 32 [some (.ref 1099), w1] [] h1 r) (f : v0 ≠ 0 → tr_L g (d + 1) m_X9_rayEnd 28 [some (.ref 1099), w1] [] h1 r) : tr_L g (d + 1) m_X9_rayEnd 20 [some (.ref 1099), w1] [.ref 1099] h r := by
  refine tr_ic 0 0 (by decide) rfl ?_
  refine tr_ic 2 2 (by decide) rfl ?_
  refine tr_call (.invokevirtual 66) 66 0 2 8 m_X9_isThrown [.ref 1099, .int 0, .int 2] [] (some (.int v0)) h1 rfl rfl rfl rfl rfl rfl rfl rfl rfl (tr_cok rfl (Or.inr ⟨_, _, rfl, tr_rc (hh_rd (hh_obj hL (k := 99) rfl).1) (by decide)⟩)) c_0 ?_
  have hL0 := c_0.2
  exact tr_if1 .eq 7 32 v0 rfl rfl rfl (fun hc => t ((tr_eq hc).1 rfl)) (fun hc => f ((tr_eq hc).2 rfl))
theorem sg_X9_rayEnd_28 {g : tr_g} {d : Nat} {h : ev_AH} {r : ev_O × ev_AH} {w0 w1 : Option Value} (hL : hh_L h) (hr : r = (.inl (some (.int 0)), h)) : tr_L g d m_X9_rayEnd 28 [w0, w1] [] h r := by
  refine tr_ic 0 0 (by decide) rfl ?_
  refine tr_goto 7 36 rfl rfl rfl ?_
  exact tl_ret hL .ireturn 1 (some (.int 0)) rfl rfl rfl rfl hr
theorem sg_X9_rayEnd_32 {g : tr_g} {d : Nat} {h : ev_AH} {r : ev_O × ev_AH} {w1 : Option Value} (hL : hh_L h) (hr : r = (.inl (some (.int (hh_i h 99 16))), h)) : tr_L g d m_X9_rayEnd 32 [some (.ref 1099), w1] [] h r := by
  refine tr_s (.aload_n 0) 1 33 [some (.ref 1099), w1] [.ref 1099] h rfl rfl rfl ?_
  refine tl_gi hL 150 99 8 16 [1100, 1101, 1102, 1103, 1104, 1105, 0, 0, 0, 0, 0, 0, 0, 0, 0, 0, 0, 0, 0, 0, 0, 1106, 0, 1107, 1108, 0, 0, 0] rfl rfl rfl rfl ?_
  exact tl_ret hL .ireturn 1 (some (.int (hh_i h 99 16))) rfl rfl rfl rfl hr
theorem sg_X9_isNoPort_0 {g : tr_g} {d : Nat} {h : ev_AH} {r : ev_O × ev_AH} {x1 v0 : Int32} {h1 : ev_AH} (hL : hh_L h) (c_0 : tr_L g d m_X9_isPort 0 [some (.int x1)] [] h (.inl (some (.int v0)), h1)) (t : v0 ≠ 0 → tr_L g (d + 1) m_X9_isNoPort 12 [some (.ref 1099), some (.int x1)] [.ref 1099] h1 r) (f : v0 = 0 → tr_L g (d + 1) m_X9_isNoPort 8 [some (.ref 1099), some (.int x1)] [.ref 1099] h1 r) : tr_L g (d + 1) m_X9_isNoPort 0 [some (.ref 1099), some (.int x1)] [] h r := by
  refine tr_s (.aload_n 0) 1 1 [some (.ref 1099), some (.int x1)] [.ref 1099] h rfl rfl rfl ?_
  refine tr_s (.iload_n 1) 1 2 [some (.ref 1099), some (.int x1)] [.int x1, .ref 1099] h rfl rfl rfl ?_
  refine tr_call (.invokestatic 153) 153 2 1 0 m_X9_isPort [.int x1] [.ref 1099] (some (.int v0)) h1 rfl rfl rfl rfl rfl rfl rfl rfl rfl (tr_cok rfl (Or.inl rfl)) c_0 ?_
  have hL0 := c_0.2
  exact tr_if1 .ne 7 12 v0 rfl rfl rfl (fun hc => t ((tr_ne hc).1 rfl)) (fun hc => f ((tr_ne hc).2 rfl))
theorem sg_X9_isNoPort_8 {g : tr_g} {d : Nat} {h : ev_AH} {r : ev_O × ev_AH} {x1 v0 : Int32} {h1 : ev_AH} (hL : hh_L h) (c_0 : tr_L g d m_X9_isThrown 0 [some (.ref 1099), some (.int 1), some (.int 1)] [] h (.inl (some (.int v0)), h1)) (t : v0 = 0 → tr_L g (d + 1) m_X9_isNoPort 22 [some (.ref 1099), some (.int x1)] [] h1 r) (f : v0 ≠ 0 → tr_L g (d + 1) m_X9_isNoPort 20 [some (.ref 1099), some (.int x1)] [] h1 r) : tr_L g (d + 1) m_X9_isNoPort 8 [some (.ref 1099), some (.int x1)] [.ref 1099] h r := by
  refine tr_ic 1 1 (by decide) rfl ?_
  refine tr_goto 4 13 rfl rfl rfl ?_
  refine tr_ic 1 1 (by decide) rfl ?_
  refine tr_call (.invokevirtual 66) 66 0 2 8 m_X9_isThrown [.ref 1099, .int 1, .int 1] [] (some (.int v0)) h1 rfl rfl rfl rfl rfl rfl rfl rfl rfl (tr_cok rfl (Or.inr ⟨_, _, rfl, tr_rc (hh_rd (hh_obj hL (k := 99) rfl).1) (by decide)⟩)) c_0 ?_
  have hL0 := c_0.2
  exact tr_if1 .eq 5 22 v0 rfl rfl rfl (fun hc => t ((tr_eq hc).1 rfl)) (fun hc => f ((tr_eq hc).2 rfl))
theorem sg_X9_isNoPort_12 {g : tr_g} {d : Nat} {h : ev_AH} {r : ev_O × ev_AH} {x1 v0 : Int32} {h1 : ev_AH} (hL : hh_L h) (c_0 : tr_L g d m_X9_isThrown 0 [some (.ref 1099), some (.int 0), some (.int 1)] [] h (.inl (some (.int v0)), h1)) (t : v0 = 0 → tr_L g (d + 1) m_X9_isNoPort 22 [some (.ref 1099), some (.int x1)] [] h1 r) (f : v0 ≠ 0 → tr_L g (d + 1) m_X9_isNoPort 20 [some (.ref 1099), some (.int x1)] [] h1 r) : tr_L g (d + 1) m_X9_isNoPort 12 [some (.ref 1099), some (.int x1)] [.ref 1099] h r := by
  refine tr_ic 0 0 (by decide) rfl ?_
  refine tr_ic 1 1 (by decide) rfl ?_
  refine tr_call (.invokevirtual 66) 66 0 2 8 m_X9_isThrown [.ref 1099, .int 0, .int 1] [] (some (.int v0)) h1 rfl rfl rfl rfl rfl rfl rfl rfl rfl (tr_cok rfl (Or.inr ⟨_, _, rfl, tr_rc (hh_rd (hh_obj hL (k := 99) rfl).1) (by decide)⟩)) c_0 ?_
  have hL0 := c_0.2
  exact tr_if1 .eq 5 22 v0 rfl rfl rfl (fun hc => t ((tr_eq hc).1 rfl)) (fun hc => f ((tr_eq hc).2 rfl))
theorem sg_X9_isNoPort_20 {g : tr_g} {d : Nat} {h : ev_AH} {r : ev_O × ev_AH} {w0 w1 : Option Value} (hL : hh_L h) (hr : r = (.inl (some (.int 1)), h)) : tr_L g d m_X9_isNoPort 20 [w0, w1] [] h r := by
  refine tr_ic 1 1 (by decide) rfl ?_
  exact tl_ret hL .ireturn 1 (some (.int 1)) rfl rfl rfl rfl hr
theorem sg_X9_isNoPort_22 {g : tr_g} {d : Nat} {h : ev_AH} {r : ev_O × ev_AH} {x1 : Int32} {h1 : ev_AH} (hL : hh_L h) (c_0 : tr_L g d m_X9_shines 0 [some (.ref 1099), some (.int x1), none, none, none] [] h (.inl none, h1)) (hr : r = (.inl (some (.int 0)), h1)) : tr_L g (d + 1) m_X9_isNoPort 22 [some (.ref 1099), some (.int x1)] [] h r := by
  refine tr_s (.aload_n 0) 1 23 [some (.ref 1099), some (.int x1)] [.ref 1099] h rfl rfl rfl ?_
  refine tr_s (.iload_n 1) 1 24 [some (.ref 1099), some (.int x1)] [.int x1, .ref 1099] h rfl rfl rfl ?_
  refine tr_call (.invokevirtual 156) 156 0 1 8 m_X9_shines [.ref 1099, .int x1] [] none h1 rfl rfl rfl rfl rfl rfl rfl rfl rfl (tr_cok rfl (Or.inr ⟨_, _, rfl, tr_rc (hh_rd (hh_obj hL (k := 99) rfl).1) (by decide)⟩)) c_0 ?_
  have hL0 := c_0.2
  refine tr_ic 0 0 (by decide) rfl ?_
  exact tl_ret hL0 .ireturn 1 (some (.int 0)) rfl rfl rfl rfl hr
theorem sg_X9_isPort_0 {g : tr_g} {d : Nat} {h : ev_AH} {r : ev_O × ev_AH} {x0 v0 : Int32} {h1 : ev_AH} (hL : hh_L h) (c_0 : tr_L g d m_X9_isIn 0 [some (.int x0), some (.int 0), some (.int 23)] [] h (.inl (some (.int v0)), h1)) (hb0 : v0 = 0 ∨ v0 = 1) (hr : r = (.inl (some (.int v0)), h1)) : tr_L g (d + 1) m_X9_isPort 0 [some (.int x0)] [] h r := by
  refine tr_s (.iload_n 0) 1 1 [some (.int x0)] [.int x0] h rfl rfl rfl ?_
  refine tr_ic 0 0 (by decide) rfl ?_
  refine tr_bi 23 23 (by decide) rfl ?_
  refine tr_call (.invokestatic 70) 70 2 3 0 m_X9_isIn [.int x0, .int 0, .int 23] [] (some (.int v0)) h1 rfl rfl rfl rfl rfl rfl rfl rfl rfl (tr_cok rfl (Or.inl rfl)) c_0 ?_
  have hL0 := c_0.2
  exact tl_ret hL0 .ireturn 1 (some (.int v0)) rfl rfl rfl (tr_eb rfl hb0) hr
theorem sg_X9_shines_0 {g : tr_g} {d : Nat} {h : ev_AH} {r : ev_O × ev_AH} {x1 v0 v1 : Int32} {h1 h2 : ev_AH} (hL : hh_L h) (c_0 : tr_L g d m_X9_firstCell 0 [some (.int x1)] [] h (.inl (some (.int v0)), h1)) (c_1 : tr_L g d m_X9_firstWay 0 [some (.int x1)] [] h1 (.inl (some (.int v1)), h2)) (k : tr_L g (d + 1) m_X9_shines 25 [some (.ref 1099), some (.int x1), some (.int v0), some (.int v1), none] [] (hh_si (hh_si (hh_si h2 99 8 17 0) 99 8 18 0) 99 8 15 (-1)) r) : tr_L g (d + 1) m_X9_shines 0 [some (.ref 1099), some (.int x1), none, none, none] [] h r := by
  refine tr_s (.iload_n 1) 1 1 [some (.ref 1099), some (.int x1), none, none, none] [.int x1] h rfl rfl rfl ?_
  refine tr_call (.invokestatic 129) 129 2 1 0 m_X9_firstCell [.int x1] [] (some (.int v0)) h1 rfl rfl rfl rfl rfl rfl rfl rfl rfl (tr_cok rfl (Or.inl rfl)) c_0 ?_
  have hL0 := c_0.2
  refine tr_st (.istore_n 2) 1 2 0 (.int v0) rfl rfl rfl rfl rfl rfl rfl ?_
  refine tr_s (.iload_n 1) 1 6 [some (.ref 1099), some (.int x1), some (.int v0), none, none] [.int x1] h1 rfl rfl rfl ?_
  refine tr_call (.invokestatic 132) 132 2 1 0 m_X9_firstWay [.int x1] [] (some (.int v1)) h2 rfl rfl rfl rfl rfl rfl rfl rfl rfl (tr_cok rfl (Or.inl rfl)) c_1 ?_
  have hL1 := c_1.2
  refine tr_st (.istore_n 3) 1 3 0 (.int v1) rfl rfl rfl rfl rfl rfl rfl ?_
  refine tr_s (.aload_n 0) 1 11 [some (.ref 1099), some (.int x1), some (.int v0), some (.int v1), none] [.ref 1099] h2 rfl rfl rfl ?_
  refine tr_ic 0 0 (by decide) rfl ?_
  refine tl_pf hL1 135 99 8 17 [1100, 1101, 1102, 1103, 1104, 1105, 0, 0, 0, 0, 0, 0, 0, 0, 0, 0, 0, 0, 0, 0, 0, 1106, 0, 1107, 1108, 0, 0, 0] 0 .int rfl rfl rfl rfl rfl tr_oki ?_
  have hL2 := hh_L_si (sl := 17) (x := 0) hL1 (show hh_t[99]? = some (.inr (8, [1100, 1101, 1102, 1103, 1104, 1105, 0, 0, 0, 0, 0, 0, 0, 0, 0, 0, 0, 0, 0, 0, 0, 1106, 0, 1107, 1108, 0, 0, 0])) from rfl) rfl
  refine tr_s (.aload_n 0) 1 16 [some (.ref 1099), some (.int x1), some (.int v0), some (.int v1), none] [.ref 1099] (hh_si h2 99 8 17 0) rfl rfl rfl ?_
  refine tr_ic 0 0 (by decide) rfl ?_
  refine tl_pf hL2 138 99 8 18 [1100, 1101, 1102, 1103, 1104, 1105, 0, 0, 0, 0, 0, 0, 0, 0, 0, 0, 0, 0, 0, 0, 0, 1106, 0, 1107, 1108, 0, 0, 0] 0 .int rfl rfl rfl rfl rfl tr_oki ?_
  have hL3 := hh_L_si (sl := 18) (x := 0) hL2 (show hh_t[99]? = some (.inr (8, [1100, 1101, 1102, 1103, 1104, 1105, 0, 0, 0, 0, 0, 0, 0, 0, 0, 0, 0, 0, 0, 0, 0, 1106, 0, 1107, 1108, 0, 0, 0])) from rfl) rfl
  refine tr_s (.aload_n 0) 1 21 [some (.ref 1099), some (.int x1), some (.int v0), some (.int v1), none] [.ref 1099] (hh_si (hh_si h2 99 8 17 0) 99 8 18 0) rfl rfl rfl ?_
  refine tr_ic (-1) (-1) (by decide) rfl ?_
  refine tl_pf hL3 141 99 8 15 [1100, 1101, 1102, 1103, 1104, 1105, 0, 0, 0, 0, 0, 0, 0, 0, 0, 0, 0, 0, 0, 0, 0, 1106, 0, 1107, 1108, 0, 0, 0] (-1) .int rfl rfl rfl rfl rfl tr_oki ?_
  have hL4 := hh_L_si (sl := 15) (x := (-1)) hL3 (show hh_t[99]? = some (.inr (8, [1100, 1101, 1102, 1103, 1104, 1105, 0, 0, 0, 0, 0, 0, 0, 0, 0, 0, 0, 0, 0, 0, 0, 1106, 0, 1107, 1108, 0, 0, 0])) from rfl) rfl
  exact k
theorem sg_X9_shines_25 {g : tr_g} {d : Nat} {h : ev_AH} {r : ev_O × ev_AH} {w1 w4 : Option Value} {x2 x3 : Int32} (hL : hh_L h) (t : x2 < 0 → tr_L g d m_X9_shines 97 [some (.ref 1099), w1, some (.int x2), some (.int x3), w4] [] h r) (f : 0 ≤ x2 → tr_L g d m_X9_shines 29 [some (.ref 1099), w1, some (.int x2), some (.int x3), w4] [] h r) : tr_L g d m_X9_shines 25 [some (.ref 1099), w1, some (.int x2), some (.int x3), w4] [] h r := by
  refine tr_s (.iload_n 2) 1 26 [some (.ref 1099), w1, some (.int x2), some (.int x3), w4] [.int x2] h rfl rfl rfl ?_
  exact tr_if1 .lt 71 97 x2 rfl rfl rfl (fun hc => t ((tr_lt hc).1 rfl)) (fun hc => f ((tr_lt hc).2 rfl))
theorem sg_X9_shines_29 {g : tr_g} {d : Nat} {h : ev_AH} {r : ev_O × ev_AH} {w1 w4 : Option Value} {x2 x3 v0 : Int32} {h1 : ev_AH} (hL : hh_L h) (c_0 : tr_L g d m_X9_catOn 0 [some (.ref 1099), some (.int x2), none] [] (hh_si h 99 8 17 ((hh_i h 99 17) + 1)) (.inl (some (.int v0)), h1)) (t : v0 < 0 → tr_L g (d + 1) m_X9_shines 57 [some (.ref 1099), w1, some (.int x2), some (.int x3), w4] [] h1 r) (f : 0 ≤ v0 → tr_L g (d + 1) m_X9_shines 47 [some (.ref 1099), w1, some (.int x2), some (.int x3), w4] [] h1 r) : tr_L g (d + 1) m_X9_shines 29 [some (.ref 1099), w1, some (.int x2), some (.int x3), w4] [] h r := by
  refine tr_s (.aload_n 0) 1 30 [some (.ref 1099), w1, some (.int x2), some (.int x3), w4] [.ref 1099] h rfl rfl rfl ?_
  refine tr_s .dup 1 31 [some (.ref 1099), w1, some (.int x2), some (.int x3), w4] [.ref 1099, .ref 1099] h rfl rfl rfl ?_
  refine tl_gi hL 135 99 8 17 [1100, 1101, 1102, 1103, 1104, 1105, 0, 0, 0, 0, 0, 0, 0, 0, 0, 0, 0, 0, 0, 0, 0, 1106, 0, 1107, 1108, 0, 0, 0] rfl rfl rfl rfl ?_
  refine tr_ic 1 1 (by decide) rfl ?_
  refine tr_s .iadd 1 36 [some (.ref 1099), w1, some (.int x2), some (.int x3), w4] [.int ((hh_i h 99 17) + 1), .ref 1099] h rfl rfl rfl ?_
  refine tl_pf hL 135 99 8 17 [1100, 1101, 1102, 1103, 1104, 1105, 0, 0, 0, 0, 0, 0, 0, 0, 0, 0, 0, 0, 0, 0, 0, 1106, 0, 1107, 1108, 0, 0, 0] ((hh_i h 99 17) + 1) .int rfl rfl rfl rfl rfl tr_oki ?_
  have hL0 := hh_L_si (sl := 17) (x := ((hh_i h 99 17) + 1)) hL (show hh_t[99]? = some (.inr (8, [1100, 1101, 1102, 1103, 1104, 1105, 0, 0, 0, 0, 0, 0, 0, 0, 0, 0, 0, 0, 0, 0, 0, 1106, 0, 1107, 1108, 0, 0, 0])) from rfl) rfl
  refine tr_s (.aload_n 0) 1 40 [some (.ref 1099), w1, some (.int x2), some (.int x3), w4] [.ref 1099] (hh_si h 99 8 17 ((hh_i h 99 17) + 1)) rfl rfl rfl ?_
  refine tr_s (.iload_n 2) 1 41 [some (.ref 1099), w1, some (.int x2), some (.int x3), w4] [.int x2, .ref 1099] (hh_si h 99 8 17 ((hh_i h 99 17) + 1)) rfl rfl rfl ?_
  refine tr_call (.invokevirtual 92) 92 0 1 8 m_X9_catOn [.ref 1099, .int x2] [] (some (.int v0)) h1 rfl rfl rfl rfl rfl rfl rfl rfl rfl (tr_cok rfl (Or.inr ⟨_, _, rfl, tr_rc (hh_rd (hh_obj hL0 (k := 99) rfl).1) (by decide)⟩)) c_0 ?_
  have hL1 := c_0.2
  exact tr_if1 .lt 13 57 v0 rfl rfl rfl (fun hc => t ((tr_lt hc).1 rfl)) (fun hc => f ((tr_lt hc).2 rfl))
theorem sg_X9_shines_47 {g : tr_g} {d : Nat} {h : ev_AH} {r : ev_O × ev_AH} {w1 w3 w4 : Option Value} {x2 v0 : Int32} {h1 : ev_AH} (hL : hh_L h) (c_0 : tr_L g d m_X9_catOn 0 [some (.ref 1099), some (.int x2), none] [] h (.inl (some (.int v0)), h1)) (hr : r = (.inl (none), hh_si h1 99 8 15 v0)) : tr_L g (d + 1) m_X9_shines 47 [some (.ref 1099), w1, some (.int x2), w3, w4] [] h r := by
  refine tr_s (.aload_n 0) 1 48 [some (.ref 1099), w1, some (.int x2), w3, w4] [.ref 1099] h rfl rfl rfl ?_
  refine tr_s (.aload_n 0) 1 49 [some (.ref 1099), w1, some (.int x2), w3, w4] [.ref 1099, .ref 1099] h rfl rfl rfl ?_
  refine tr_s (.iload_n 2) 1 50 [some (.ref 1099), w1, some (.int x2), w3, w4] [.int x2, .ref 1099, .ref 1099] h rfl rfl rfl ?_
  refine tr_call (.invokevirtual 92) 92 0 1 8 m_X9_catOn [.ref 1099, .int x2] [.ref 1099] (some (.int v0)) h1 rfl rfl rfl rfl rfl rfl rfl rfl rfl (tr_cok rfl (Or.inr ⟨_, _, rfl, tr_rc (hh_rd (hh_obj hL (k := 99) rfl).1) (by decide)⟩)) c_0 ?_
  have hL0 := c_0.2
  refine tl_pf hL0 141 99 8 15 [1100, 1101, 1102, 1103, 1104, 1105, 0, 0, 0, 0, 0, 0, 0, 0, 0, 0, 0, 0, 0, 0, 0, 1106, 0, 1107, 1108, 0, 0, 0] v0 .int rfl rfl rfl rfl rfl tr_oki ?_
  have hL1 := hh_L_si (sl := 15) (x := v0) hL0 (show hh_t[99]? = some (.inr (8, [1100, 1101, 1102, 1103, 1104, 1105, 0, 0, 0, 0, 0, 0, 0, 0, 0, 0, 0, 0, 0, 0, 0, 1106, 0, 1107, 1108, 0, 0, 0])) from rfl) rfl
  exact tl_ret hL1 .return_ 1 none rfl rfl rfl rfl hr
theorem sg_X9_shines_57 {g : tr_g} {d : Nat} {h : ev_AH} {r : ev_O × ev_AH} {w1 w4 : Option Value} {x2 x3 v0 : Int32} {h1 : ev_AH} (hL : hh_L h) (c_0 : tr_L g d m_X9_reflected 0 [some (.ref 1099), some (.int x2), some (.int x3)] [] h (.inl (some (.int v0)), h1)) (t : v0 ≠ x3 → tr_L g (d + 1) m_X9_shines 80 [some (.ref 1099), w1, some (.int x2), some (.int x3), some (.int v0)] [.int (hh_i h1 99 18), .ref 1099] h1 r) (f : v0 = x3 → tr_L g (d + 1) m_X9_shines 76 [some (.ref 1099), w1, some (.int x2), some (.int x3), some (.int v0)] [.int (hh_i h1 99 18), .ref 1099] h1 r) : tr_L g (d + 1) m_X9_shines 57 [some (.ref 1099), w1, some (.int x2), some (.int x3), w4] [] h r := by
  refine tr_s (.aload_n 0) 1 58 [some (.ref 1099), w1, some (.int x2), some (.int x3), w4] [.ref 1099] h rfl rfl rfl ?_
  refine tr_s (.iload_n 2) 1 59 [some (.ref 1099), w1, some (.int x2), some (.int x3), w4] [.int x2, .ref 1099] h rfl rfl rfl ?_
  refine tr_s (.iload_n 3) 1 60 [some (.ref 1099), w1, some (.int x2), some (.int x3), w4] [.int x3, .int x2, .ref 1099] h rfl rfl rfl ?_
  refine tr_call (.invokevirtual 144) 144 0 2 8 m_X9_reflected [.ref 1099, .int x2, .int x3] [] (some (.int v0)) h1 rfl rfl rfl rfl rfl rfl rfl rfl rfl (tr_cok rfl (Or.inr ⟨_, _, rfl, tr_rc (hh_rd (hh_obj hL (k := 99) rfl).1) (by decide)⟩)) c_0 ?_
  have hL0 := c_0.2
  refine tr_st (.istore 4) 2 4 0 (.int v0) rfl rfl rfl rfl rfl rfl rfl ?_
  refine tr_s (.aload_n 0) 1 66 [some (.ref 1099), w1, some (.int x2), some (.int x3), some (.int v0)] [.ref 1099] h1 rfl rfl rfl ?_
  refine tr_s .dup 1 67 [some (.ref 1099), w1, some (.int x2), some (.int x3), some (.int v0)] [.ref 1099, .ref 1099] h1 rfl rfl rfl ?_
  refine tl_gi hL0 138 99 8 18 [1100, 1101, 1102, 1103, 1104, 1105, 0, 0, 0, 0, 0, 0, 0, 0, 0, 0, 0, 0, 0, 0, 0, 1106, 0, 1107, 1108, 0, 0, 0] rfl rfl rfl rfl ?_
  refine tr_s (.iload 4) 2 72 [some (.ref 1099), w1, some (.int x2), some (.int x3), some (.int v0)] [.int v0, .int (hh_i h1 99 18), .ref 1099] h1 rfl rfl rfl ?_
  refine tr_s (.iload_n 3) 1 73 [some (.ref 1099), w1, some (.int x2), some (.int x3), some (.int v0)] [.int x3, .int v0, .int (hh_i h1 99 18), .ref 1099] h1 rfl rfl rfl ?_
  exact tr_if2 .ne 7 80 v0 x3 rfl rfl rfl (fun hc => t ((tr_ne hc).1 rfl)) (fun hc => f ((tr_ne hc).2 rfl))
theorem sg_X9_shines_76 {g : tr_g} {d : Nat} {h : ev_AH} {r : ev_O × ev_AH} {w1 w3 : Option Value} {x2 x4 s1 v0 : Int32} {h1 : ev_AH} (hL : hh_L h) (c_0 : tr_L g d m_X9_next 0 [some (.int x2), some (.int x4), none, none] [] (hh_si h 99 8 18 (s1 + 0)) (.inl (some (.int v0)), h1)) (o1 : tr_ow w1 = true) (k : tr_L g (d + 1) m_X9_shines 25 [some (.ref 1099), w1, some (.int v0), some (.int x4), some (.int x4)] [] h1 r) : tr_L g (d + 1) m_X9_shines 76 [some (.ref 1099), w1, some (.int x2), w3, some (.int x4)] [.int s1, .ref 1099] h r := by
  refine tr_ic 0 0 (by decide) rfl ?_
  refine tr_goto 4 81 rfl rfl rfl ?_
  refine tr_s .iadd 1 82 [some (.ref 1099), w1, some (.int x2), w3, some (.int x4)] [.int (s1 + 0), .ref 1099] h rfl rfl rfl ?_
  refine tl_pf hL 138 99 8 18 [1100, 1101, 1102, 1103, 1104, 1105, 0, 0, 0, 0, 0, 0, 0, 0, 0, 0, 0, 0, 0, 0, 0, 1106, 0, 1107, 1108, 0, 0, 0] (s1 + 0) .int rfl rfl rfl rfl rfl tr_oki ?_
  have hL0 := hh_L_si (sl := 18) (x := (s1 + 0)) hL (show hh_t[99]? = some (.inr (8, [1100, 1101, 1102, 1103, 1104, 1105, 0, 0, 0, 0, 0, 0, 0, 0, 0, 0, 0, 0, 0, 0, 0, 1106, 0, 1107, 1108, 0, 0, 0])) from rfl) rfl
  refine tr_s (.iload 4) 2 87 [some (.ref 1099), w1, some (.int x2), w3, some (.int x4)] [.int x4] (hh_si h 99 8 18 (s1 + 0)) rfl rfl rfl ?_
  refine tr_st (.istore_n 3) 1 3 0 (.int x4) rfl rfl rfl rfl rfl rfl rfl ?_
  refine tr_s (.iload_n 2) 1 89 [some (.ref 1099), w1, some (.int x2), some (.int x4), some (.int x4)] [.int x2] (hh_si h 99 8 18 (s1 + 0)) rfl rfl rfl ?_
  refine tr_s (.iload_n 3) 1 90 [some (.ref 1099), w1, some (.int x2), some (.int x4), some (.int x4)] [.int x4, .int x2] (hh_si h 99 8 18 (s1 + 0)) rfl rfl rfl ?_
  refine tr_call (.invokestatic 147) 147 2 2 0 m_X9_next [.int x2, .int x4] [] (some (.int v0)) h1 rfl rfl rfl rfl rfl rfl rfl rfl rfl (tr_cok rfl (Or.inl rfl)) c_0 ?_
  have hL1 := c_0.2
  refine tr_st (.istore_n 2) 1 2 0 (.int v0) rfl rfl rfl rfl rfl rfl (tr_sok (Nat.le_of_ble_eq_true rfl) rfl o1) ?_
  refine tr_goto (-69) 25 rfl rfl rfl ?_
  exact k
theorem sg_X9_shines_80 {g : tr_g} {d : Nat} {h : ev_AH} {r : ev_O × ev_AH} {w1 w3 : Option Value} {x2 x4 s1 v0 : Int32} {h1 : ev_AH} (hL : hh_L h) (c_0 : tr_L g d m_X9_next 0 [some (.int x2), some (.int x4), none, none] [] (hh_si h 99 8 18 (s1 + 1)) (.inl (some (.int v0)), h1)) (o1 : tr_ow w1 = true) (k : tr_L g (d + 1) m_X9_shines 25 [some (.ref 1099), w1, some (.int v0), some (.int x4), some (.int x4)] [] h1 r) : tr_L g (d + 1) m_X9_shines 80 [some (.ref 1099), w1, some (.int x2), w3, some (.int x4)] [.int s1, .ref 1099] h r := by
  refine tr_ic 1 1 (by decide) rfl ?_
  refine tr_s .iadd 1 82 [some (.ref 1099), w1, some (.int x2), w3, some (.int x4)] [.int (s1 + 1), .ref 1099] h rfl rfl rfl ?_
  refine tl_pf hL 138 99 8 18 [1100, 1101, 1102, 1103, 1104, 1105, 0, 0, 0, 0, 0, 0, 0, 0, 0, 0, 0, 0, 0, 0, 0, 1106, 0, 1107, 1108, 0, 0, 0] (s1 + 1) .int rfl rfl rfl rfl rfl tr_oki ?_
  have hL0 := hh_L_si (sl := 18) (x := (s1 + 1)) hL (show hh_t[99]? = some (.inr (8, [1100, 1101, 1102, 1103, 1104, 1105, 0, 0, 0, 0, 0, 0, 0, 0, 0, 0, 0, 0, 0, 0, 0, 1106, 0, 1107, 1108, 0, 0, 0])) from rfl) rfl
  refine tr_s (.iload 4) 2 87 [some (.ref 1099), w1, some (.int x2), w3, some (.int x4)] [.int x4] (hh_si h 99 8 18 (s1 + 1)) rfl rfl rfl ?_
  refine tr_st (.istore_n 3) 1 3 0 (.int x4) rfl rfl rfl rfl rfl rfl rfl ?_
  refine tr_s (.iload_n 2) 1 89 [some (.ref 1099), w1, some (.int x2), some (.int x4), some (.int x4)] [.int x2] (hh_si h 99 8 18 (s1 + 1)) rfl rfl rfl ?_
  refine tr_s (.iload_n 3) 1 90 [some (.ref 1099), w1, some (.int x2), some (.int x4), some (.int x4)] [.int x4, .int x2] (hh_si h 99 8 18 (s1 + 1)) rfl rfl rfl ?_
  refine tr_call (.invokestatic 147) 147 2 2 0 m_X9_next [.int x2, .int x4] [] (some (.int v0)) h1 rfl rfl rfl rfl rfl rfl rfl rfl rfl (tr_cok rfl (Or.inl rfl)) c_0 ?_
  have hL1 := c_0.2
  refine tr_st (.istore_n 2) 1 2 0 (.int v0) rfl rfl rfl rfl rfl rfl (tr_sok (Nat.le_of_ble_eq_true rfl) rfl o1) ?_
  refine tr_goto (-69) 25 rfl rfl rfl ?_
  exact k
theorem sg_X9_shines_97 {g : tr_g} {d : Nat} {h : ev_AH} {r : ev_O × ev_AH} {w1 w3 w4 : Option Value} {x2 : Int32} (hL : hh_L h) (hr : r = (.inl (none), hh_si h 99 8 16 ((-1) - x2))) : tr_L g d m_X9_shines 97 [some (.ref 1099), w1, some (.int x2), w3, w4] [] h r := by
  refine tr_s (.aload_n 0) 1 98 [some (.ref 1099), w1, some (.int x2), w3, w4] [.ref 1099] h rfl rfl rfl ?_
  refine tr_ic (-1) (-1) (by decide) rfl ?_
  refine tr_s (.iload_n 2) 1 100 [some (.ref 1099), w1, some (.int x2), w3, w4] [.int x2, .int (-1), .ref 1099] h rfl rfl rfl ?_
  refine tr_s .isub 1 101 [some (.ref 1099), w1, some (.int x2), w3, w4] [.int ((-1) - x2), .ref 1099] h rfl rfl rfl ?_
  refine tl_pf hL 150 99 8 16 [1100, 1101, 1102, 1103, 1104, 1105, 0, 0, 0, 0, 0, 0, 0, 0, 0, 0, 0, 0, 0, 0, 0, 1106, 0, 1107, 1108, 0, 0, 0] ((-1) - x2) .int rfl rfl rfl rfl rfl tr_oki ?_
  have hL0 := hh_L_si (sl := 16) (x := ((-1) - x2)) hL (show hh_t[99]? = some (.inr (8, [1100, 1101, 1102, 1103, 1104, 1105, 0, 0, 0, 0, 0, 0, 0, 0, 0, 0, 0, 0, 0, 0, 0, 1106, 0, 1107, 1108, 0, 0, 0])) from rfl) rfl
  exact tl_ret hL0 .return_ 1 none rfl rfl rfl rfl hr
theorem sg_X9_firstCell_0 {g : tr_g} {d : Nat} {h : ev_AH} {r : ev_O × ev_AH} {x0 : Int32} (hL : hh_L h) (t : 7 ≤ x0 → tr_L g d m_X9_firstCell 10 [some (.int x0)] [] h r) (f : x0 < 7 → tr_L g d m_X9_firstCell 6 [some (.int x0)] [] h r) : tr_L g d m_X9_firstCell 0 [some (.int x0)] [] h r := by
  refine tr_s (.iload_n 0) 1 1 [some (.int x0)] [.int x0] h rfl rfl rfl ?_
  refine tr_bi 7 7 (by decide) rfl ?_
  exact tr_if2 .ge 7 10 x0 7 rfl rfl rfl (fun hc => t ((tr_ge hc).1 rfl)) (fun hc => f ((tr_ge hc).2 rfl))
theorem sg_X9_firstCell_6 {g : tr_g} {d : Nat} {h : ev_AH} {r : ev_O × ev_AH} {x0 : Int32} (hL : hh_L h) (hr : r = (.inl (some (.int x0)), h)) : tr_L g d m_X9_firstCell 6 [some (.int x0)] [] h r := by
  refine tr_s (.iload_n 0) 1 7 [some (.int x0)] [.int x0] h rfl rfl rfl ?_
  refine tr_goto 42 49 rfl rfl rfl ?_
  exact tl_ret hL .ireturn 1 (some (.int x0)) rfl rfl rfl rfl hr
theorem sg_X9_firstCell_10 {g : tr_g} {d : Nat} {h : ev_AH} {r : ev_O × ev_AH} {x0 : Int32} (hL : hh_L h) (t : 12 ≤ x0 → tr_L g d m_X9_firstCell 29 [some (.int x0)] [] h r) (f : x0 < 12 → tr_L g d m_X9_firstCell 16 [some (.int x0)] [] h r) : tr_L g d m_X9_firstCell 10 [some (.int x0)] [] h r := by
  refine tr_s (.iload_n 0) 1 11 [some (.int x0)] [.int x0] h rfl rfl rfl ?_
  refine tr_bi 12 12 (by decide) rfl ?_
  exact tr_if2 .ge 16 29 x0 12 rfl rfl rfl (fun hc => t ((tr_ge hc).1 rfl)) (fun hc => f ((tr_ge hc).2 rfl))
theorem sg_X9_firstCell_16 {g : tr_g} {d : Nat} {h : ev_AH} {r : ev_O × ev_AH} {x0 : Int32} (hL : hh_L h) (hr : r = (.inl (some (.int ((7 * (x0 - 7)) + 6))), h)) : tr_L g d m_X9_firstCell 16 [some (.int x0)] [] h r := by
  refine tr_bi 7 7 (by decide) rfl ?_
  refine tr_s (.iload_n 0) 1 19 [some (.int x0)] [.int x0, .int 7] h rfl rfl rfl ?_
  refine tr_bi 7 7 (by decide) rfl ?_
  refine tr_s .isub 1 22 [some (.int x0)] [.int (x0 - 7), .int 7] h rfl rfl rfl ?_
  refine tr_s .imul 1 23 [some (.int x0)] [.int (7 * (x0 - 7))] h rfl rfl rfl ?_
  refine tr_bi 6 6 (by decide) rfl ?_
  refine tr_s .iadd 1 26 [some (.int x0)] [.int ((7 * (x0 - 7)) + 6)] h rfl rfl rfl ?_
  refine tr_goto 23 49 rfl rfl rfl ?_
  exact tl_ret hL .ireturn 1 (some (.int ((7 * (x0 - 7)) + 6))) rfl rfl rfl rfl hr
theorem sg_X9_firstCell_29 {g : tr_g} {d : Nat} {h : ev_AH} {r : ev_O × ev_AH} {x0 : Int32} (hL : hh_L h) (t : 19 ≤ x0 → tr_L g d m_X9_firstCell 42 [some (.int x0)] [] h r) (f : x0 < 19 → tr_L g d m_X9_firstCell 35 [some (.int x0)] [] h r) : tr_L g d m_X9_firstCell 29 [some (.int x0)] [] h r := by
  refine tr_s (.iload_n 0) 1 30 [some (.int x0)] [.int x0] h rfl rfl rfl ?_
  refine tr_bi 19 19 (by decide) rfl ?_
  exact tr_if2 .ge 10 42 x0 19 rfl rfl rfl (fun hc => t ((tr_ge hc).1 rfl)) (fun hc => f ((tr_ge hc).2 rfl))
theorem sg_X9_firstCell_35 {g : tr_g} {d : Nat} {h : ev_AH} {r : ev_O × ev_AH} {x0 : Int32} (hL : hh_L h) (hr : r = (.inl (some (.int (46 - x0))), h)) : tr_L g d m_X9_firstCell 35 [some (.int x0)] [] h r := by
  refine tr_bi 46 46 (by decide) rfl ?_
  refine tr_s (.iload_n 0) 1 38 [some (.int x0)] [.int x0, .int 46] h rfl rfl rfl ?_
  refine tr_s .isub 1 39 [some (.int x0)] [.int (46 - x0)] h rfl rfl rfl ?_
  refine tr_goto 10 49 rfl rfl rfl ?_
  exact tl_ret hL .ireturn 1 (some (.int (46 - x0))) rfl rfl rfl rfl hr
theorem sg_X9_firstCell_42 {g : tr_g} {d : Nat} {h : ev_AH} {r : ev_O × ev_AH} {x0 : Int32} (hL : hh_L h) (hr : r = (.inl (some (.int (7 * (23 - x0)))), h)) : tr_L g d m_X9_firstCell 42 [some (.int x0)] [] h r := by
  refine tr_bi 7 7 (by decide) rfl ?_
  refine tr_bi 23 23 (by decide) rfl ?_
  refine tr_s (.iload_n 0) 1 47 [some (.int x0)] [.int x0, .int 23, .int 7] h rfl rfl rfl ?_
  refine tr_s .isub 1 48 [some (.int x0)] [.int (23 - x0), .int 7] h rfl rfl rfl ?_
  refine tr_s .imul 1 49 [some (.int x0)] [.int (7 * (23 - x0))] h rfl rfl rfl ?_
  exact tl_ret hL .ireturn 1 (some (.int (7 * (23 - x0)))) rfl rfl rfl rfl hr
theorem sg_X9_firstWay_0 {g : tr_g} {d : Nat} {h : ev_AH} {r : ev_O × ev_AH} {x0 : Int32} (hL : hh_L h) (t : 7 ≤ x0 → tr_L g d m_X9_firstWay 10 [some (.int x0)] [] h r) (f : x0 < 7 → tr_L g d m_X9_firstWay 6 [some (.int x0)] [] h r) : tr_L g d m_X9_firstWay 0 [some (.int x0)] [] h r := by
  refine tr_s (.iload_n 0) 1 1 [some (.int x0)] [.int x0] h rfl rfl rfl ?_
  refine tr_bi 7 7 (by decide) rfl ?_
  exact tr_if2 .ge 7 10 x0 7 rfl rfl rfl (fun hc => t ((tr_ge hc).1 rfl)) (fun hc => f ((tr_ge hc).2 rfl))
theorem sg_X9_firstWay_6 {g : tr_g} {d : Nat} {h : ev_AH} {r : ev_O × ev_AH} {w0 : Option Value} (hL : hh_L h) (hr : r = (.inl (some (.int 2)), h)) : tr_L g d m_X9_firstWay 6 [w0] [] h r := by
  refine tr_ic 2 2 (by decide) rfl ?_
  refine tr_goto 24 31 rfl rfl rfl ?_
  exact tl_ret hL .ireturn 1 (some (.int 2)) rfl rfl rfl rfl hr
theorem sg_X9_firstWay_10 {g : tr_g} {d : Nat} {h : ev_AH} {r : ev_O × ev_AH} {x0 : Int32} (hL : hh_L h) (t : 12 ≤ x0 → tr_L g d m_X9_firstWay 20 [some (.int x0)] [] h r) (f : x0 < 12 → tr_L g d m_X9_firstWay 16 [some (.int x0)] [] h r) : tr_L g d m_X9_firstWay 10 [some (.int x0)] [] h r := by
  refine tr_s (.iload_n 0) 1 11 [some (.int x0)] [.int x0] h rfl rfl rfl ?_
  refine tr_bi 12 12 (by decide) rfl ?_
  exact tr_if2 .ge 7 20 x0 12 rfl rfl rfl (fun hc => t ((tr_ge hc).1 rfl)) (fun hc => f ((tr_ge hc).2 rfl))
theorem sg_X9_firstWay_16 {g : tr_g} {d : Nat} {h : ev_AH} {r : ev_O × ev_AH} {w0 : Option Value} (hL : hh_L h) (hr : r = (.inl (some (.int 3)), h)) : tr_L g d m_X9_firstWay 16 [w0] [] h r := by
  refine tr_ic 3 3 (by decide) rfl ?_
  refine tr_goto 14 31 rfl rfl rfl ?_
  exact tl_ret hL .ireturn 1 (some (.int 3)) rfl rfl rfl rfl hr
theorem sg_X9_firstWay_20 {g : tr_g} {d : Nat} {h : ev_AH} {r : ev_O × ev_AH} {x0 : Int32} (hL : hh_L h) (t : 19 ≤ x0 → tr_L g d m_X9_firstWay 30 [some (.int x0)] [] h r) (f : x0 < 19 → tr_L g d m_X9_firstWay 26 [some (.int x0)] [] h r) : tr_L g d m_X9_firstWay 20 [some (.int x0)] [] h r := by
  refine tr_s (.iload_n 0) 1 21 [some (.int x0)] [.int x0] h rfl rfl rfl ?_
  refine tr_bi 19 19 (by decide) rfl ?_
  exact tr_if2 .ge 7 30 x0 19 rfl rfl rfl (fun hc => t ((tr_ge hc).1 rfl)) (fun hc => f ((tr_ge hc).2 rfl))
theorem sg_X9_firstWay_26 {g : tr_g} {d : Nat} {h : ev_AH} {r : ev_O × ev_AH} {w0 : Option Value} (hL : hh_L h) (hr : r = (.inl (some (.int 0)), h)) : tr_L g d m_X9_firstWay 26 [w0] [] h r := by
  refine tr_ic 0 0 (by decide) rfl ?_
  refine tr_goto 4 31 rfl rfl rfl ?_
  exact tl_ret hL .ireturn 1 (some (.int 0)) rfl rfl rfl rfl hr
theorem sg_X9_firstWay_30 {g : tr_g} {d : Nat} {h : ev_AH} {r : ev_O × ev_AH} {w0 : Option Value} (hL : hh_L h) (hr : r = (.inl (some (.int 1)), h)) : tr_L g d m_X9_firstWay 30 [w0] [] h r := by
  refine tr_ic 1 1 (by decide) rfl ?_
  exact tl_ret hL .ireturn 1 (some (.int 1)) rfl rfl rfl rfl hr
theorem sg_X9_reflected_0 {g : tr_g} {d : Nat} {h : ev_AH} {r : ev_O × ev_AH} {x1 x2 : Int32} {j0 : Nat} (hL : hh_L h) (e0 : 19 + x1 = Int32.ofNat j0) (b0 : j0 < 124) (t : ((hh_a h 100).getD j0 0) ≠ 47 → tr_L g d m_X9_reflected 42 [some (.ref 1099), some (.int x1), some (.int x2)] [] h r) (f : ((hh_a h 100).getD j0 0) = 47 → tr_L g d m_X9_reflected 14 [some (.ref 1099), some (.int x1), some (.int x2)] [] h r) : tr_L g d m_X9_reflected 0 [some (.ref 1099), some (.int x1), some (.int x2)] [] h r := by
  refine tr_s (.aload_n 0) 1 1 [some (.ref 1099), some (.int x1), some (.int x2)] [.ref 1099] h rfl rfl rfl ?_
  refine tl_gr hL 9 99 8 0 100 [1100, 1101, 1102, 1103, 1104, 1105, 0, 0, 0, 0, 0, 0, 0, 0, 0, 0, 0, 0, 0, 0, 0, 1106, 0, 1107, 1108, 0, 0, 0] rfl rfl rfl rfl ?_
  refine tr_bi 19 19 (by decide) rfl ?_
  refine tr_s (.iload_n 1) 1 7 [some (.ref 1099), some (.int x1), some (.int x2)] [.int x1, .int 19, .ref 1100] h rfl rfl rfl ?_
  refine tr_s .iadd 1 8 [some (.ref 1099), some (.int x1), some (.int x2)] [.int (19 + x1), .ref 1100] h rfl rfl rfl ?_
  refine tl_ald hL .iaload 100 0 124 j0 (19 + x1) rfl (by decide) rfl e0 b0 (by decide) ?_
  refine tr_bi 47 47 (by decide) rfl ?_
  exact tr_if2 .ne 31 42 ((hh_a h 100).getD j0 0) 47 rfl rfl rfl (fun hc => t ((tr_ne hc).1 rfl)) (fun hc => f ((tr_ne hc).2 rfl))
theorem sg_X9_reflected_14 {g : tr_g} {d : Nat} {h : ev_AH} {r : ev_O × ev_AH} {w0 w1 : Option Value} {x2 : Int32} (hL : hh_L h) (t : x2 ≠ 1 → tr_L g d m_X9_reflected 23 [w0, w1, some (.int x2)] [] h r) (f : x2 = 1 → tr_L g d m_X9_reflected 19 [w0, w1, some (.int x2)] [] h r) : tr_L g d m_X9_reflected 14 [w0, w1, some (.int x2)] [] h r := by
  refine tr_s (.iload_n 2) 1 15 [w0, w1, some (.int x2)] [.int x2] h rfl rfl rfl ?_
  refine tr_ic 1 1 (by decide) rfl ?_
  exact tr_if2 .ne 7 23 x2 1 rfl rfl rfl (fun hc => t ((tr_ne hc).1 rfl)) (fun hc => f ((tr_ne hc).2 rfl))
theorem sg_X9_reflected_19 {g : tr_g} {d : Nat} {h : ev_AH} {r : ev_O × ev_AH} {w0 w1 w2 : Option Value} (hL : hh_L h) (hr : r = (.inl (some (.int 0)), h)) : tr_L g d m_X9_reflected 19 [w0, w1, w2] [] h r := by
  refine tr_ic 0 0 (by decide) rfl ?_
  refine tr_goto 21 41 rfl rfl rfl ?_
  exact tl_ret hL .ireturn 1 (some (.int 0)) rfl rfl rfl rfl hr
theorem sg_X9_reflected_23 {g : tr_g} {d : Nat} {h : ev_AH} {r : ev_O × ev_AH} {w0 w1 : Option Value} {x2 : Int32} (hL : hh_L h) (t : x2 ≠ 0 → tr_L g d m_X9_reflected 31 [w0, w1, some (.int x2)] [] h r) (f : x2 = 0 → tr_L g d m_X9_reflected 27 [w0, w1, some (.int x2)] [] h r) : tr_L g d m_X9_reflected 23 [w0, w1, some (.int x2)] [] h r := by
  refine tr_s (.iload_n 2) 1 24 [w0, w1, some (.int x2)] [.int x2] h rfl rfl rfl ?_
  exact tr_if1 .ne 7 31 x2 rfl rfl rfl (fun hc => t ((tr_ne hc).1 rfl)) (fun hc => f ((tr_ne hc).2 rfl))
theorem sg_X9_reflected_27 {g : tr_g} {d : Nat} {h : ev_AH} {r : ev_O × ev_AH} {w0 w1 w2 : Option Value} (hL : hh_L h) (hr : r = (.inl (some (.int 1)), h)) : tr_L g d m_X9_reflected 27 [w0, w1, w2] [] h r := by
  refine tr_ic 1 1 (by decide) rfl ?_
  refine tr_goto 13 41 rfl rfl rfl ?_
  exact tl_ret hL .ireturn 1 (some (.int 1)) rfl rfl rfl rfl hr
theorem sg_X9_reflected_31 {g : tr_g} {d : Nat} {h : ev_AH} {r : ev_O × ev_AH} {w0 w1 : Option Value} {x2 : Int32} (hL : hh_L h) (t : x2 ≠ 3 → tr_L g d m_X9_reflected 40 [w0, w1, some (.int x2)] [] h r) (f : x2 = 3 → tr_L g d m_X9_reflected 36 [w0, w1, some (.int x2)] [] h r) : tr_L g d m_X9_reflected 31 [w0, w1, some (.int x2)] [] h r := by
  refine tr_s (.iload_n 2) 1 32 [w0, w1, some (.int x2)] [.int x2] h rfl rfl rfl ?_
  refine tr_ic 3 3 (by decide) rfl ?_
  exact tr_if2 .ne 7 40 x2 3 rfl rfl rfl (fun hc => t ((tr_ne hc).1 rfl)) (fun hc => f ((tr_ne hc).2 rfl))
theorem sg_X9_reflected_36 {g : tr_g} {d : Nat} {h : ev_AH} {r : ev_O × ev_AH} {w0 w1 w2 : Option Value} (hL : hh_L h) (hr : r = (.inl (some (.int 2)), h)) : tr_L g d m_X9_reflected 36 [w0, w1, w2] [] h r := by
  refine tr_ic 2 2 (by decide) rfl ?_
  refine tr_goto 4 41 rfl rfl rfl ?_
  exact tl_ret hL .ireturn 1 (some (.int 2)) rfl rfl rfl rfl hr
theorem sg_X9_reflected_40 {g : tr_g} {d : Nat} {h : ev_AH} {r : ev_O × ev_AH} {w0 w1 w2 : Option Value} (hL : hh_L h) (hr : r = (.inl (some (.int 3)), h)) : tr_L g d m_X9_reflected 40 [w0, w1, w2] [] h r := by
  refine tr_ic 3 3 (by decide) rfl ?_
  exact tl_ret hL .ireturn 1 (some (.int 3)) rfl rfl rfl rfl hr
theorem sg_X9_reflected_42 {g : tr_g} {d : Nat} {h : ev_AH} {r : ev_O × ev_AH} {x1 x2 : Int32} {j0 : Nat} (hL : hh_L h) (e0 : 19 + x1 = Int32.ofNat j0) (b0 : j0 < 124) (t : ((hh_a h 100).getD j0 0) ≠ 92 → tr_L g d m_X9_reflected 85 [some (.ref 1099), some (.int x1), some (.int x2)] [] h r) (f : ((hh_a h 100).getD j0 0) = 92 → tr_L g d m_X9_reflected 56 [some (.ref 1099), some (.int x1), some (.int x2)] [] h r) : tr_L g d m_X9_reflected 42 [some (.ref 1099), some (.int x1), some (.int x2)] [] h r := by
  refine tr_s (.aload_n 0) 1 43 [some (.ref 1099), some (.int x1), some (.int x2)] [.ref 1099] h rfl rfl rfl ?_
  refine tl_gr hL 9 99 8 0 100 [1100, 1101, 1102, 1103, 1104, 1105, 0, 0, 0, 0, 0, 0, 0, 0, 0, 0, 0, 0, 0, 0, 0, 1106, 0, 1107, 1108, 0, 0, 0] rfl rfl rfl rfl ?_
  refine tr_bi 19 19 (by decide) rfl ?_
  refine tr_s (.iload_n 1) 1 49 [some (.ref 1099), some (.int x1), some (.int x2)] [.int x1, .int 19, .ref 1100] h rfl rfl rfl ?_
  refine tr_s .iadd 1 50 [some (.ref 1099), some (.int x1), some (.int x2)] [.int (19 + x1), .ref 1100] h rfl rfl rfl ?_
  refine tl_ald hL .iaload 100 0 124 j0 (19 + x1) rfl (by decide) rfl e0 b0 (by decide) ?_
  refine tr_bi 92 92 (by decide) rfl ?_
  exact tr_if2 .ne 32 85 ((hh_a h 100).getD j0 0) 92 rfl rfl rfl (fun hc => t ((tr_ne hc).1 rfl)) (fun hc => f ((tr_ne hc).2 rfl))
theorem sg_X9_reflected_56 {g : tr_g} {d : Nat} {h : ev_AH} {r : ev_O × ev_AH} {w0 w1 : Option Value} {x2 : Int32} (hL : hh_L h) (t : x2 ≠ 1 → tr_L g d m_X9_reflected 65 [w0, w1, some (.int x2)] [] h r) (f : x2 = 1 → tr_L g d m_X9_reflected 61 [w0, w1, some (.int x2)] [] h r) : tr_L g d m_X9_reflected 56 [w0, w1, some (.int x2)] [] h r := by
  refine tr_s (.iload_n 2) 1 57 [w0, w1, some (.int x2)] [.int x2] h rfl rfl rfl ?_
  refine tr_ic 1 1 (by decide) rfl ?_
  exact tr_if2 .ne 7 65 x2 1 rfl rfl rfl (fun hc => t ((tr_ne hc).1 rfl)) (fun hc => f ((tr_ne hc).2 rfl))
theorem sg_X9_reflected_61 {g : tr_g} {d : Nat} {h : ev_AH} {r : ev_O × ev_AH} {w0 w1 w2 : Option Value} (hL : hh_L h) (hr : r = (.inl (some (.int 2)), h)) : tr_L g d m_X9_reflected 61 [w0, w1, w2] [] h r := by
  refine tr_ic 2 2 (by decide) rfl ?_
  refine tr_goto 22 84 rfl rfl rfl ?_
  exact tl_ret hL .ireturn 1 (some (.int 2)) rfl rfl rfl rfl hr
theorem sg_X9_reflected_65 {g : tr_g} {d : Nat} {h : ev_AH} {r : ev_O × ev_AH} {w0 w1 : Option Value} {x2 : Int32} (hL : hh_L h) (t : x2 ≠ 2 → tr_L g d m_X9_reflected 74 [w0, w1, some (.int x2)] [] h r) (f : x2 = 2 → tr_L g d m_X9_reflected 70 [w0, w1, some (.int x2)] [] h r) : tr_L g d m_X9_reflected 65 [w0, w1, some (.int x2)] [] h r := by
  refine tr_s (.iload_n 2) 1 66 [w0, w1, some (.int x2)] [.int x2] h rfl rfl rfl ?_
  refine tr_ic 2 2 (by decide) rfl ?_
  exact tr_if2 .ne 7 74 x2 2 rfl rfl rfl (fun hc => t ((tr_ne hc).1 rfl)) (fun hc => f ((tr_ne hc).2 rfl))
theorem sg_X9_reflected_70 {g : tr_g} {d : Nat} {h : ev_AH} {r : ev_O × ev_AH} {w0 w1 w2 : Option Value} (hL : hh_L h) (hr : r = (.inl (some (.int 1)), h)) : tr_L g d m_X9_reflected 70 [w0, w1, w2] [] h r := by
  refine tr_ic 1 1 (by decide) rfl ?_
  refine tr_goto 13 84 rfl rfl rfl ?_
  exact tl_ret hL .ireturn 1 (some (.int 1)) rfl rfl rfl rfl hr
theorem sg_X9_reflected_74 {g : tr_g} {d : Nat} {h : ev_AH} {r : ev_O × ev_AH} {w0 w1 : Option Value} {x2 : Int32} (hL : hh_L h) (t : x2 ≠ 3 → tr_L g d m_X9_reflected 83 [w0, w1, some (.int x2)] [] h r) (f : x2 = 3 → tr_L g d m_X9_reflected 79 [w0, w1, some (.int x2)] [] h r) : tr_L g d m_X9_reflected 74 [w0, w1, some (.int x2)] [] h r := by
  refine tr_s (.iload_n 2) 1 75 [w0, w1, some (.int x2)] [.int x2] h rfl rfl rfl ?_
  refine tr_ic 3 3 (by decide) rfl ?_
  exact tr_if2 .ne 7 83 x2 3 rfl rfl rfl (fun hc => t ((tr_ne hc).1 rfl)) (fun hc => f ((tr_ne hc).2 rfl))
theorem sg_X9_reflected_79 {g : tr_g} {d : Nat} {h : ev_AH} {r : ev_O × ev_AH} {w0 w1 w2 : Option Value} (hL : hh_L h) (hr : r = (.inl (some (.int 0)), h)) : tr_L g d m_X9_reflected 79 [w0, w1, w2] [] h r := by
  refine tr_ic 0 0 (by decide) rfl ?_
  refine tr_goto 4 84 rfl rfl rfl ?_
  exact tl_ret hL .ireturn 1 (some (.int 0)) rfl rfl rfl rfl hr
theorem sg_X9_reflected_83 {g : tr_g} {d : Nat} {h : ev_AH} {r : ev_O × ev_AH} {w0 w1 w2 : Option Value} (hL : hh_L h) (hr : r = (.inl (some (.int 3)), h)) : tr_L g d m_X9_reflected 83 [w0, w1, w2] [] h r := by
  refine tr_ic 3 3 (by decide) rfl ?_
  exact tl_ret hL .ireturn 1 (some (.int 3)) rfl rfl rfl rfl hr
theorem sg_X9_reflected_85 {g : tr_g} {d : Nat} {h : ev_AH} {r : ev_O × ev_AH} {w0 w1 : Option Value} {x2 : Int32} (hL : hh_L h) (hr : r = (.inl (some (.int x2)), h)) : tr_L g d m_X9_reflected 85 [w0, w1, some (.int x2)] [] h r := by
  refine tr_s (.iload_n 2) 1 86 [w0, w1, some (.int x2)] [.int x2] h rfl rfl rfl ?_
  exact tl_ret hL .ireturn 1 (some (.int x2)) rfl rfl rfl rfl hr
theorem sg_X9_next_0_t0 {g : tr_g} {d : Nat} {h : ev_AH} {r : ev_O × ev_AH} {x0 x1 : Int32} (hL : hh_L h) (e : x1 = 0) (k : tr_L g d m_X9_next 36 [some (.int x0), some (.int x1), some (.int (x0 / 7)), some (.int (x0 - x0 / 7 * 7))] [] h r) : tr_L g d m_X9_next 0 [some (.int x0), some (.int x1), none, none] [] h r := by
  refine tr_s (.iload_n 0) 1 1 [some (.int x0), some (.int x1), none, none] [.int x0] h rfl rfl rfl ?_
  refine tr_bi 7 7 (by decide) rfl ?_
  refine tr_s .idiv 1 4 [some (.int x0), some (.int x1), none, none] [.int (x0 / 7)] h rfl rfl rfl ?_
  refine tr_st (.istore_n 2) 1 2 0 (.int (x0 / 7)) rfl rfl rfl rfl rfl rfl rfl ?_
  refine tr_s (.iload_n 0) 1 6 [some (.int x0), some (.int x1), some (.int (x0 / 7)), none] [.int x0] h rfl rfl rfl ?_
  refine tr_bi 7 7 (by decide) rfl ?_
  refine tr_s .irem 1 9 [some (.int x0), some (.int x1), some (.int (x0 / 7)), none] [.int (x0 - x0 / 7 * 7)] h rfl rfl rfl ?_
  refine tr_st (.istore_n 3) 1 3 0 (.int (x0 - x0 / 7 * 7)) rfl rfl rfl rfl rfl rfl rfl ?_
  refine tr_s (.iload_n 1) 1 11 [some (.int x0), some (.int x1), some (.int (x0 / 7)), some (.int (x0 - x0 / 7 * 7))] [.int x1] h rfl rfl rfl ?_
  exact tr_s (.tableswitch 78 0 2 #[25, 40, 59]) 25 36 [some (.int x0), some (.int x1), some (.int (x0 / 7)), some (.int (x0 - x0 / 7 * 7))] [] h rfl rfl (by rw [e]; rfl) k
theorem sg_X9_next_0_t1 {g : tr_g} {d : Nat} {h : ev_AH} {r : ev_O × ev_AH} {x0 x1 : Int32} (hL : hh_L h) (e : x1 = 1) (k : tr_L g d m_X9_next 51 [some (.int x0), some (.int x1), some (.int (x0 / 7)), some (.int (x0 - x0 / 7 * 7))] [] h r) : tr_L g d m_X9_next 0 [some (.int x0), some (.int x1), none, none] [] h r := by
  refine tr_s (.iload_n 0) 1 1 [some (.int x0), some (.int x1), none, none] [.int x0] h rfl rfl rfl ?_
  refine tr_bi 7 7 (by decide) rfl ?_
  refine tr_s .idiv 1 4 [some (.int x0), some (.int x1), none, none] [.int (x0 / 7)] h rfl rfl rfl ?_
  refine tr_st (.istore_n 2) 1 2 0 (.int (x0 / 7)) rfl rfl rfl rfl rfl rfl rfl ?_
  refine tr_s (.iload_n 0) 1 6 [some (.int x0), some (.int x1), some (.int (x0 / 7)), none] [.int x0] h rfl rfl rfl ?_
  refine tr_bi 7 7 (by decide) rfl ?_
  refine tr_s .irem 1 9 [some (.int x0), some (.int x1), some (.int (x0 / 7)), none] [.int (x0 - x0 / 7 * 7)] h rfl rfl rfl ?_
  refine tr_st (.istore_n 3) 1 3 0 (.int (x0 - x0 / 7 * 7)) rfl rfl rfl rfl rfl rfl rfl ?_
  refine tr_s (.iload_n 1) 1 11 [some (.int x0), some (.int x1), some (.int (x0 / 7)), some (.int (x0 - x0 / 7 * 7))] [.int x1] h rfl rfl rfl ?_
  exact tr_s (.tableswitch 78 0 2 #[25, 40, 59]) 25 51 [some (.int x0), some (.int x1), some (.int (x0 / 7)), some (.int (x0 - x0 / 7 * 7))] [] h rfl rfl (by rw [e]; rfl) k
theorem sg_X9_next_0_t2 {g : tr_g} {d : Nat} {h : ev_AH} {r : ev_O × ev_AH} {x0 x1 : Int32} (hL : hh_L h) (e : x1 = 2) (k : tr_L g d m_X9_next 70 [some (.int x0), some (.int x1), some (.int (x0 / 7)), some (.int (x0 - x0 / 7 * 7))] [] h r) : tr_L g d m_X9_next 0 [some (.int x0), some (.int x1), none, none] [] h r := by
  refine tr_s (.iload_n 0) 1 1 [some (.int x0), some (.int x1), none, none] [.int x0] h rfl rfl rfl ?_
  refine tr_bi 7 7 (by decide) rfl ?_
  refine tr_s .idiv 1 4 [some (.int x0), some (.int x1), none, none] [.int (x0 / 7)] h rfl rfl rfl ?_
  refine tr_st (.istore_n 2) 1 2 0 (.int (x0 / 7)) rfl rfl rfl rfl rfl rfl rfl ?_
  refine tr_s (.iload_n 0) 1 6 [some (.int x0), some (.int x1), some (.int (x0 / 7)), none] [.int x0] h rfl rfl rfl ?_
  refine tr_bi 7 7 (by decide) rfl ?_
  refine tr_s .irem 1 9 [some (.int x0), some (.int x1), some (.int (x0 / 7)), none] [.int (x0 - x0 / 7 * 7)] h rfl rfl rfl ?_
  refine tr_st (.istore_n 3) 1 3 0 (.int (x0 - x0 / 7 * 7)) rfl rfl rfl rfl rfl rfl rfl ?_
  refine tr_s (.iload_n 1) 1 11 [some (.int x0), some (.int x1), some (.int (x0 / 7)), some (.int (x0 - x0 / 7 * 7))] [.int x1] h rfl rfl rfl ?_
  exact tr_s (.tableswitch 78 0 2 #[25, 40, 59]) 25 70 [some (.int x0), some (.int x1), some (.int (x0 / 7)), some (.int (x0 - x0 / 7 * 7))] [] h rfl rfl (by rw [e]; rfl) k
theorem sg_X9_next_0_td {g : tr_g} {d : Nat} {h : ev_AH} {r : ev_O × ev_AH} {x0 x1 : Int32} (hL : hh_L h) (e : x1.toInt < 0 ∨ 2 < x1.toInt) (k : tr_L g d m_X9_next 89 [some (.int x0), some (.int x1), some (.int (x0 / 7)), some (.int (x0 - x0 / 7 * 7))] [] h r) : tr_L g d m_X9_next 0 [some (.int x0), some (.int x1), none, none] [] h r := by
  refine tr_s (.iload_n 0) 1 1 [some (.int x0), some (.int x1), none, none] [.int x0] h rfl rfl rfl ?_
  refine tr_bi 7 7 (by decide) rfl ?_
  refine tr_s .idiv 1 4 [some (.int x0), some (.int x1), none, none] [.int (x0 / 7)] h rfl rfl rfl ?_
  refine tr_st (.istore_n 2) 1 2 0 (.int (x0 / 7)) rfl rfl rfl rfl rfl rfl rfl ?_
  refine tr_s (.iload_n 0) 1 6 [some (.int x0), some (.int x1), some (.int (x0 / 7)), none] [.int x0] h rfl rfl rfl ?_
  refine tr_bi 7 7 (by decide) rfl ?_
  refine tr_s .irem 1 9 [some (.int x0), some (.int x1), some (.int (x0 / 7)), none] [.int (x0 - x0 / 7 * 7)] h rfl rfl rfl ?_
  refine tr_st (.istore_n 3) 1 3 0 (.int (x0 - x0 / 7 * 7)) rfl rfl rfl rfl rfl rfl rfl ?_
  refine tr_s (.iload_n 1) 1 11 [some (.int x0), some (.int x1), some (.int (x0 / 7)), some (.int (x0 - x0 / 7 * 7))] [.int x1] h rfl rfl rfl ?_
  exact tr_s (.tableswitch 78 0 2 #[25, 40, 59]) 25 89 [some (.int x0), some (.int x1), some (.int (x0 / 7)), some (.int (x0 - x0 / 7 * 7))] [] h rfl rfl (tr_tsd rfl e) k
theorem sg_X9_next_36 {g : tr_g} {d : Nat} {h : ev_AH} {r : ev_O × ev_AH} {x0 x2 x3 : Int32} {w1 : Option Value} (hL : hh_L h) (t : x2 ≤ 0 → tr_L g d m_X9_next 47 [some (.int x0), w1, some (.int x2), some (.int x3)] [] h r) (f : 0 < x2 → tr_L g d m_X9_next 40 [some (.int x0), w1, some (.int x2), some (.int x3)] [] h r) : tr_L g d m_X9_next 36 [some (.int x0), w1, some (.int x2), some (.int x3)] [] h r := by
  refine tr_s (.iload_n 2) 1 37 [some (.int x0), w1, some (.int x2), some (.int x3)] [.int x2] h rfl rfl rfl ?_
  exact tr_if1 .le 10 47 x2 rfl rfl rfl (fun hc => t ((tr_le hc).1 rfl)) (fun hc => f ((tr_le hc).2 rfl))
theorem sg_X9_next_40 {g : tr_g} {d : Nat} {h : ev_AH} {r : ev_O × ev_AH} {x0 : Int32} {w1 w2 w3 : Option Value} (hL : hh_L h) (hr : r = (.inl (some (.int (x0 - 7))), h)) : tr_L g d m_X9_next 40 [some (.int x0), w1, w2, w3] [] h r := by
  refine tr_s (.iload_n 0) 1 41 [some (.int x0), w1, w2, w3] [.int x0] h rfl rfl rfl ?_
  refine tr_bi 7 7 (by decide) rfl ?_
  refine tr_s .isub 1 44 [some (.int x0), w1, w2, w3] [.int (x0 - 7)] h rfl rfl rfl ?_
  refine tr_goto 6 50 rfl rfl rfl ?_
  exact tl_ret hL .ireturn 1 (some (.int (x0 - 7))) rfl rfl rfl rfl hr
theorem sg_X9_next_47 {g : tr_g} {d : Nat} {h : ev_AH} {r : ev_O × ev_AH} {w0 w1 w2 : Option Value} {x3 : Int32} (hL : hh_L h) (hr : r = (.inl (some (.int ((-1) - x3))), h)) : tr_L g d m_X9_next 47 [w0, w1, w2, some (.int x3)] [] h r := by
  refine tr_ic (-1) (-1) (by decide) rfl ?_
  refine tr_s (.iload_n 3) 1 49 [w0, w1, w2, some (.int x3)] [.int x3, .int (-1)] h rfl rfl rfl ?_
  refine tr_s .isub 1 50 [w0, w1, w2, some (.int x3)] [.int ((-1) - x3)] h rfl rfl rfl ?_
  exact tl_ret hL .ireturn 1 (some (.int ((-1) - x3))) rfl rfl rfl rfl hr
theorem sg_X9_next_51 {g : tr_g} {d : Nat} {h : ev_AH} {r : ev_O × ev_AH} {x0 x2 x3 : Int32} {w1 : Option Value} (hL : hh_L h) (t : 6 ≤ x3 → tr_L g d m_X9_next 63 [some (.int x0), w1, some (.int x2), some (.int x3)] [] h r) (f : x3 < 6 → tr_L g d m_X9_next 57 [some (.int x0), w1, some (.int x2), some (.int x3)] [] h r) : tr_L g d m_X9_next 51 [some (.int x0), w1, some (.int x2), some (.int x3)] [] h r := by
  refine tr_s (.iload_n 3) 1 52 [some (.int x0), w1, some (.int x2), some (.int x3)] [.int x3] h rfl rfl rfl ?_
  refine tr_bi 6 6 (by decide) rfl ?_
  exact tr_if2 .ge 9 63 x3 6 rfl rfl rfl (fun hc => t ((tr_ge hc).1 rfl)) (fun hc => f ((tr_ge hc).2 rfl))
theorem sg_X9_next_57 {g : tr_g} {d : Nat} {h : ev_AH} {r : ev_O × ev_AH} {x0 : Int32} {w1 w2 w3 : Option Value} (hL : hh_L h) (hr : r = (.inl (some (.int (x0 + 1))), h)) : tr_L g d m_X9_next 57 [some (.int x0), w1, w2, w3] [] h r := by
  refine tr_s (.iload_n 0) 1 58 [some (.int x0), w1, w2, w3] [.int x0] h rfl rfl rfl ?_
  refine tr_ic 1 1 (by decide) rfl ?_
  refine tr_s .iadd 1 60 [some (.int x0), w1, w2, w3] [.int (x0 + 1)] h rfl rfl rfl ?_
  refine tr_goto 9 69 rfl rfl rfl ?_
  exact tl_ret hL .ireturn 1 (some (.int (x0 + 1))) rfl rfl rfl rfl hr
theorem sg_X9_next_63 {g : tr_g} {d : Nat} {h : ev_AH} {r : ev_O × ev_AH} {w0 w1 w3 : Option Value} {x2 : Int32} (hL : hh_L h) (hr : r = (.inl (some (.int ((-1) - (7 + x2)))), h)) : tr_L g d m_X9_next 63 [w0, w1, some (.int x2), w3] [] h r := by
  refine tr_ic (-1) (-1) (by decide) rfl ?_
  refine tr_bi 7 7 (by decide) rfl ?_
  refine tr_s (.iload_n 2) 1 67 [w0, w1, some (.int x2), w3] [.int x2, .int 7, .int (-1)] h rfl rfl rfl ?_
  refine tr_s .iadd 1 68 [w0, w1, some (.int x2), w3] [.int (7 + x2), .int (-1)] h rfl rfl rfl ?_
  refine tr_s .isub 1 69 [w0, w1, some (.int x2), w3] [.int ((-1) - (7 + x2))] h rfl rfl rfl ?_
  exact tl_ret hL .ireturn 1 (some (.int ((-1) - (7 + x2)))) rfl rfl rfl rfl hr
theorem sg_X9_next_70 {g : tr_g} {d : Nat} {h : ev_AH} {r : ev_O × ev_AH} {x0 x2 x3 : Int32} {w1 : Option Value} (hL : hh_L h) (t : 4 ≤ x2 → tr_L g d m_X9_next 82 [some (.int x0), w1, some (.int x2), some (.int x3)] [] h r) (f : x2 < 4 → tr_L g d m_X9_next 75 [some (.int x0), w1, some (.int x2), some (.int x3)] [] h r) : tr_L g d m_X9_next 70 [some (.int x0), w1, some (.int x2), some (.int x3)] [] h r := by
  refine tr_s (.iload_n 2) 1 71 [some (.int x0), w1, some (.int x2), some (.int x3)] [.int x2] h rfl rfl rfl ?_
  refine tr_ic 4 4 (by decide) rfl ?_
  exact tr_if2 .ge 10 82 x2 4 rfl rfl rfl (fun hc => t ((tr_ge hc).1 rfl)) (fun hc => f ((tr_ge hc).2 rfl))
theorem sg_X9_next_75 {g : tr_g} {d : Nat} {h : ev_AH} {r : ev_O × ev_AH} {x0 : Int32} {w1 w2 w3 : Option Value} (hL : hh_L h) (hr : r = (.inl (some (.int (x0 + 7))), h)) : tr_L g d m_X9_next 75 [some (.int x0), w1, w2, w3] [] h r := by
  refine tr_s (.iload_n 0) 1 76 [some (.int x0), w1, w2, w3] [.int x0] h rfl rfl rfl ?_
  refine tr_bi 7 7 (by decide) rfl ?_
  refine tr_s .iadd 1 79 [some (.int x0), w1, w2, w3] [.int (x0 + 7)] h rfl rfl rfl ?_
  refine tr_goto 9 88 rfl rfl rfl ?_
  exact tl_ret hL .ireturn 1 (some (.int (x0 + 7))) rfl rfl rfl rfl hr
theorem sg_X9_next_82 {g : tr_g} {d : Nat} {h : ev_AH} {r : ev_O × ev_AH} {w0 w1 w2 : Option Value} {x3 : Int32} (hL : hh_L h) (hr : r = (.inl (some (.int ((-1) - (18 - x3)))), h)) : tr_L g d m_X9_next 82 [w0, w1, w2, some (.int x3)] [] h r := by
  refine tr_ic (-1) (-1) (by decide) rfl ?_
  refine tr_bi 18 18 (by decide) rfl ?_
  refine tr_s (.iload_n 3) 1 86 [w0, w1, w2, some (.int x3)] [.int x3, .int 18, .int (-1)] h rfl rfl rfl ?_
  refine tr_s .isub 1 87 [w0, w1, w2, some (.int x3)] [.int (18 - x3), .int (-1)] h rfl rfl rfl ?_
  refine tr_s .isub 1 88 [w0, w1, w2, some (.int x3)] [.int ((-1) - (18 - x3))] h rfl rfl rfl ?_
  exact tl_ret hL .ireturn 1 (some (.int ((-1) - (18 - x3)))) rfl rfl rfl rfl hr
theorem sg_X9_next_89 {g : tr_g} {d : Nat} {h : ev_AH} {r : ev_O × ev_AH} {x0 x2 x3 : Int32} {w1 : Option Value} (hL : hh_L h) (t : x3 ≤ 0 → tr_L g d m_X9_next 99 [some (.int x0), w1, some (.int x2), some (.int x3)] [] h r) (f : 0 < x3 → tr_L g d m_X9_next 93 [some (.int x0), w1, some (.int x2), some (.int x3)] [] h r) : tr_L g d m_X9_next 89 [some (.int x0), w1, some (.int x2), some (.int x3)] [] h r := by
  refine tr_s (.iload_n 3) 1 90 [some (.int x0), w1, some (.int x2), some (.int x3)] [.int x3] h rfl rfl rfl ?_
  exact tr_if1 .le 9 99 x3 rfl rfl rfl (fun hc => t ((tr_le hc).1 rfl)) (fun hc => f ((tr_le hc).2 rfl))
theorem sg_X9_next_93 {g : tr_g} {d : Nat} {h : ev_AH} {r : ev_O × ev_AH} {x0 : Int32} {w1 w2 w3 : Option Value} (hL : hh_L h) (hr : r = (.inl (some (.int (x0 - 1))), h)) : tr_L g d m_X9_next 93 [some (.int x0), w1, w2, w3] [] h r := by
  refine tr_s (.iload_n 0) 1 94 [some (.int x0), w1, w2, w3] [.int x0] h rfl rfl rfl ?_
  refine tr_ic 1 1 (by decide) rfl ?_
  refine tr_s .isub 1 96 [some (.int x0), w1, w2, w3] [.int (x0 - 1)] h rfl rfl rfl ?_
  refine tr_goto 9 105 rfl rfl rfl ?_
  exact tl_ret hL .ireturn 1 (some (.int (x0 - 1))) rfl rfl rfl rfl hr
theorem sg_X9_next_99 {g : tr_g} {d : Nat} {h : ev_AH} {r : ev_O × ev_AH} {w0 w1 w3 : Option Value} {x2 : Int32} (hL : hh_L h) (hr : r = (.inl (some (.int ((-1) - (23 - x2)))), h)) : tr_L g d m_X9_next 99 [w0, w1, some (.int x2), w3] [] h r := by
  refine tr_ic (-1) (-1) (by decide) rfl ?_
  refine tr_bi 23 23 (by decide) rfl ?_
  refine tr_s (.iload_n 2) 1 103 [w0, w1, some (.int x2), w3] [.int x2, .int 23, .int (-1)] h rfl rfl rfl ?_
  refine tr_s .isub 1 104 [w0, w1, some (.int x2), w3] [.int (23 - x2), .int (-1)] h rfl rfl rfl ?_
  refine tr_s .isub 1 105 [w0, w1, some (.int x2), w3] [.int ((-1) - (23 - x2))] h rfl rfl rfl ?_
  exact tl_ret hL .ireturn 1 (some (.int ((-1) - (23 - x2)))) rfl rfl rfl rfl hr
theorem sg_X9_rayEndByJoining_0 {g : tr_g} {d : Nat} {h : ev_AH} {r : ev_O × ev_AH} {x1 v0 : Int32} {h1 : ev_AH} (hL : hh_L h) (c_0 : tr_L g d m_X9_rayEnd 0 [some (.ref 1099), some (.int x1)] [] h (.inl (some (.int v0)), h1)) (hr : r = (.inl (some (.int v0)), h1)) : tr_L g (d + 1) m_X9_rayEndByJoining 0 [some (.ref 1099), some (.int x1)] [] h r := by
  refine tr_s (.aload_n 0) 1 1 [some (.ref 1099), some (.int x1)] [.ref 1099] h rfl rfl rfl ?_
  refine tr_s (.iload_n 1) 1 2 [some (.ref 1099), some (.int x1)] [.int x1, .ref 1099] h rfl rfl rfl ?_
  refine tr_call (.invokevirtual 163) 163 0 1 8 m_X9_rayEnd [.ref 1099, .int x1] [] (some (.int v0)) h1 rfl rfl rfl rfl rfl rfl rfl rfl rfl (tr_cok rfl (Or.inr ⟨_, _, rfl, tr_rc (hh_rd (hh_obj hL (k := 99) rfl).1) (by decide)⟩)) c_0 ?_
  have hL0 := c_0.2
  exact tl_ret hL0 .ireturn 1 (some (.int v0)) rfl rfl rfl rfl hr
theorem sg_X9_rayCat_0 {g : tr_g} {d : Nat} {h : ev_AH} {r : ev_O × ev_AH} {x1 v0 : Int32} {h1 : ev_AH} (hL : hh_L h) (c_0 : tr_L g d m_X9_isNoPort 0 [some (.ref 1099), some (.int x1)] [] h (.inl (some (.int v0)), h1)) (t : v0 ≠ 0 → tr_L g (d + 1) m_X9_rayCat 28 [some (.ref 1099), some (.int x1)] [] h1 r) (f : v0 = 0 → tr_L g (d + 1) m_X9_rayCat 8 [some (.ref 1099), some (.int x1)] [] h1 r) : tr_L g (d + 1) m_X9_rayCat 0 [some (.ref 1099), some (.int x1)] [] h r := by
  refine tr_s (.aload_n 0) 1 1 [some (.ref 1099), some (.int x1)] [.ref 1099] h rfl rfl rfl ?_
  refine tr_s (.iload_n 1) 1 2 [some (.ref 1099), some (.int x1)] [.int x1, .ref 1099] h rfl rfl rfl ?_
  refine tr_call (.invokevirtual 160) 160 0 1 8 m_X9_isNoPort [.ref 1099, .int x1] [] (some (.int v0)) h1 rfl rfl rfl rfl rfl rfl rfl rfl rfl (tr_cok rfl (Or.inr ⟨_, _, rfl, tr_rc (hh_rd (hh_obj hL (k := 99) rfl).1) (by decide)⟩)) c_0 ?_
  have hL0 := c_0.2
  exact tr_if1 .ne 23 28 v0 rfl rfl rfl (fun hc => t ((tr_ne hc).1 rfl)) (fun hc => f ((tr_ne hc).2 rfl))
theorem sg_X9_rayCat_8 {g : tr_g} {d : Nat} {h : ev_AH} {r : ev_O × ev_AH} {w1 : Option Value} (hL : hh_L h) (t : 0 ≤ (hh_i h 99 15) → tr_L g d m_X9_rayCat 20 [some (.ref 1099), w1] [.ref 1099] h r) (f : (hh_i h 99 15) < 0 → tr_L g d m_X9_rayCat 16 [some (.ref 1099), w1] [.ref 1099] h r) : tr_L g d m_X9_rayCat 8 [some (.ref 1099), w1] [] h r := by
  refine tr_s (.aload_n 0) 1 9 [some (.ref 1099), w1] [.ref 1099] h rfl rfl rfl ?_
  refine tr_s (.aload_n 0) 1 10 [some (.ref 1099), w1] [.ref 1099, .ref 1099] h rfl rfl rfl ?_
  refine tl_gi hL 141 99 8 15 [1100, 1101, 1102, 1103, 1104, 1105, 0, 0, 0, 0, 0, 0, 0, 0, 0, 0, 0, 0, 0, 0, 0, 1106, 0, 1107, 1108, 0, 0, 0] rfl rfl rfl rfl ?_
  exact tr_if1 .ge 7 20 (hh_i h 99 15) rfl rfl rfl (fun hc => t ((tr_ge hc).1 rfl)) (fun hc => f ((tr_ge hc).2 rfl))
theorem sg_X9_rayCat_16 {g : tr_g} {d : Nat} {h : ev_AH} {r : ev_O × ev_AH} {w1 : Option Value} {h1 : ev_AH} {v0 : Int32} (hL : hh_L h) (c_0 : tr_L g d m_X9_isThrown 0 [some (.ref 1099), some (.int 1), some (.int 2)] [] h (.inl (some (.int v0)), h1)) (t : v0 = 0 → tr_L g (d + 1) m_X9_rayCat 32 [some (.ref 1099), w1] [] h1 r) (f : v0 ≠ 0 → tr_L g (d + 1) m_X9_rayCat 28 [some (.ref 1099), w1] [] h1 r) : tr_L g (d + 1) m_X9_rayCat 16 [some (.ref 1099), w1] [.ref 1099] h r := by
  refine tr_ic 1 1 (by decide) rfl ?_
  refine tr_goto 4 21 rfl rfl rfl ?_
  refine tr_ic 2 2 (by decide) rfl ?_
  refine tr_call (.invokevirtual 66) 66 0 2 8 m_X9_isThrown [.ref 1099, .int 1, .int 2] [] (some (.int v0)) h1 rfl rfl rfl rfl rfl rfl rfl rfl rfl (tr_cok rfl (Or.inr ⟨_, _, rfl, tr_rc (hh_rd (hh_obj hL (k := 99) rfl).1) (by decide)⟩)) c_0 ?_
  have hL0 := c_0.2
  exact tr_if1 .eq 7 32 v0 rfl rfl rfl (fun hc => t ((tr_eq hc).1 rfl)) (fun hc => f ((tr_eq hc).2 rfl))
theorem sg_X9_rayCat_20 {g : tr_g} {d : Nat} {h : ev_AH} {r : ev_O × ev_AH} {w1 : Option Value} {h1 : ev_AH} {v0 : Int32} (hL : hh_L h) (c_0 : tr_L g d m_X9_isThrown 0 [some (.ref 1099), some (.int 0), some (.int 2)] [] h (.inl (some (.int v0)), h1)) (t : v0 = 0 → tr_L g (d + 1) m_X9_rayCat 32 [some (.ref 1099), w1] [] h1 r) (f : v0 ≠ 0 → tr_L g (d + 1) m_X9_rayCat 28 [some (.ref 1099), w1] [] h1 r) : tr_L g (d + 1) m_X9_rayCat 20 [some (.ref 1099), w1] [.ref 1099] h r := by
  refine tr_ic 0 0 (by decide) rfl ?_
  refine tr_ic 2 2 (by decide) rfl ?_
  refine tr_call (.invokevirtual 66) 66 0 2 8 m_X9_isThrown [.ref 1099, .int 0, .int 2] [] (some (.int v0)) h1 rfl rfl rfl rfl rfl rfl rfl rfl rfl (tr_cok rfl (Or.inr ⟨_, _, rfl, tr_rc (hh_rd (hh_obj hL (k := 99) rfl).1) (by decide)⟩)) c_0 ?_
  have hL0 := c_0.2
  exact tr_if1 .eq 7 32 v0 rfl rfl rfl (fun hc => t ((tr_eq hc).1 rfl)) (fun hc => f ((tr_eq hc).2 rfl))
theorem sg_X9_rayCat_28 {g : tr_g} {d : Nat} {h : ev_AH} {r : ev_O × ev_AH} {w0 w1 : Option Value} (hL : hh_L h) (hr : r = (.inl (some (.int 0)), h)) : tr_L g d m_X9_rayCat 28 [w0, w1] [] h r := by
  refine tr_ic 0 0 (by decide) rfl ?_
  refine tr_goto 7 36 rfl rfl rfl ?_
  exact tl_ret hL .ireturn 1 (some (.int 0)) rfl rfl rfl rfl hr
theorem sg_X9_rayCat_32 {g : tr_g} {d : Nat} {h : ev_AH} {r : ev_O × ev_AH} {w1 : Option Value} (hL : hh_L h) (hr : r = (.inl (some (.int (hh_i h 99 15))), h)) : tr_L g d m_X9_rayCat 32 [some (.ref 1099), w1] [] h r := by
  refine tr_s (.aload_n 0) 1 33 [some (.ref 1099), w1] [.ref 1099] h rfl rfl rfl ?_
  refine tl_gi hL 141 99 8 15 [1100, 1101, 1102, 1103, 1104, 1105, 0, 0, 0, 0, 0, 0, 0, 0, 0, 0, 0, 0, 0, 0, 0, 1106, 0, 1107, 1108, 0, 0, 0] rfl rfl rfl rfl ?_
  exact tl_ret hL .ireturn 1 (some (.int (hh_i h 99 15))) rfl rfl rfl rfl hr
theorem sg_X9_rayLength_0 {g : tr_g} {d : Nat} {h : ev_AH} {r : ev_O × ev_AH} {x1 v0 : Int32} {h1 : ev_AH} (hL : hh_L h) (c_0 : tr_L g d m_X9_isNoPort 0 [some (.ref 1099), some (.int x1)] [] h (.inl (some (.int v0)), h1)) (t : v0 = 0 → tr_L g (d + 1) m_X9_rayLength 12 [some (.ref 1099), some (.int x1)] [] h1 r) (f : v0 ≠ 0 → tr_L g (d + 1) m_X9_rayLength 8 [some (.ref 1099), some (.int x1)] [] h1 r) : tr_L g (d + 1) m_X9_rayLength 0 [some (.ref 1099), some (.int x1)] [] h r := by
  refine tr_s (.aload_n 0) 1 1 [some (.ref 1099), some (.int x1)] [.ref 1099] h rfl rfl rfl ?_
  refine tr_s (.iload_n 1) 1 2 [some (.ref 1099), some (.int x1)] [.int x1, .ref 1099] h rfl rfl rfl ?_
  refine tr_call (.invokevirtual 160) 160 0 1 8 m_X9_isNoPort [.ref 1099, .int x1] [] (some (.int v0)) h1 rfl rfl rfl rfl rfl rfl rfl rfl rfl (tr_cok rfl (Or.inr ⟨_, _, rfl, tr_rc (hh_rd (hh_obj hL (k := 99) rfl).1) (by decide)⟩)) c_0 ?_
  have hL0 := c_0.2
  exact tr_if1 .eq 7 12 v0 rfl rfl rfl (fun hc => t ((tr_eq hc).1 rfl)) (fun hc => f ((tr_eq hc).2 rfl))
theorem sg_X9_rayLength_8 {g : tr_g} {d : Nat} {h : ev_AH} {r : ev_O × ev_AH} {w0 w1 : Option Value} (hL : hh_L h) (hr : r = (.inl (some (.int 0)), h)) : tr_L g d m_X9_rayLength 8 [w0, w1] [] h r := by
  refine tr_ic 0 0 (by decide) rfl ?_
  refine tr_goto 7 16 rfl rfl rfl ?_
  exact tl_ret hL .ireturn 1 (some (.int 0)) rfl rfl rfl rfl hr
theorem sg_X9_rayLength_12 {g : tr_g} {d : Nat} {h : ev_AH} {r : ev_O × ev_AH} {w1 : Option Value} (hL : hh_L h) (hr : r = (.inl (some (.int (hh_i h 99 17))), h)) : tr_L g d m_X9_rayLength 12 [some (.ref 1099), w1] [] h r := by
  refine tr_s (.aload_n 0) 1 13 [some (.ref 1099), w1] [.ref 1099] h rfl rfl rfl ?_
  refine tl_gi hL 135 99 8 17 [1100, 1101, 1102, 1103, 1104, 1105, 0, 0, 0, 0, 0, 0, 0, 0, 0, 0, 0, 0, 0, 0, 0, 1106, 0, 1107, 1108, 0, 0, 0] rfl rfl rfl rfl ?_
  exact tl_ret hL .ireturn 1 (some (.int (hh_i h 99 17))) rfl rfl rfl rfl hr
theorem sg_X9_rayBounces_0 {g : tr_g} {d : Nat} {h : ev_AH} {r : ev_O × ev_AH} {x1 v0 : Int32} {h1 : ev_AH} (hL : hh_L h) (c_0 : tr_L g d m_X9_isNoPort 0 [some (.ref 1099), some (.int x1)] [] h (.inl (some (.int v0)), h1)) (t : v0 = 0 → tr_L g (d + 1) m_X9_rayBounces 12 [some (.ref 1099), some (.int x1)] [] h1 r) (f : v0 ≠ 0 → tr_L g (d + 1) m_X9_rayBounces 8 [some (.ref 1099), some (.int x1)] [] h1 r) : tr_L g (d + 1) m_X9_rayBounces 0 [some (.ref 1099), some (.int x1)] [] h r := by
  refine tr_s (.aload_n 0) 1 1 [some (.ref 1099), some (.int x1)] [.ref 1099] h rfl rfl rfl ?_
  refine tr_s (.iload_n 1) 1 2 [some (.ref 1099), some (.int x1)] [.int x1, .ref 1099] h rfl rfl rfl ?_
  refine tr_call (.invokevirtual 160) 160 0 1 8 m_X9_isNoPort [.ref 1099, .int x1] [] (some (.int v0)) h1 rfl rfl rfl rfl rfl rfl rfl rfl rfl (tr_cok rfl (Or.inr ⟨_, _, rfl, tr_rc (hh_rd (hh_obj hL (k := 99) rfl).1) (by decide)⟩)) c_0 ?_
  have hL0 := c_0.2
  exact tr_if1 .eq 7 12 v0 rfl rfl rfl (fun hc => t ((tr_eq hc).1 rfl)) (fun hc => f ((tr_eq hc).2 rfl))
theorem sg_X9_rayBounces_8 {g : tr_g} {d : Nat} {h : ev_AH} {r : ev_O × ev_AH} {w0 w1 : Option Value} (hL : hh_L h) (hr : r = (.inl (some (.int 0)), h)) : tr_L g d m_X9_rayBounces 8 [w0, w1] [] h r := by
  refine tr_ic 0 0 (by decide) rfl ?_
  refine tr_goto 7 16 rfl rfl rfl ?_
  exact tl_ret hL .ireturn 1 (some (.int 0)) rfl rfl rfl rfl hr
theorem sg_X9_rayBounces_12 {g : tr_g} {d : Nat} {h : ev_AH} {r : ev_O × ev_AH} {w1 : Option Value} (hL : hh_L h) (hr : r = (.inl (some (.int (hh_i h 99 18))), h)) : tr_L g d m_X9_rayBounces 12 [some (.ref 1099), w1] [] h r := by
  refine tr_s (.aload_n 0) 1 13 [some (.ref 1099), w1] [.ref 1099] h rfl rfl rfl ?_
  refine tl_gi hL 138 99 8 18 [1100, 1101, 1102, 1103, 1104, 1105, 0, 0, 0, 0, 0, 0, 0, 0, 0, 0, 0, 0, 0, 0, 0, 1106, 0, 1107, 1108, 0, 0, 0] rfl rfl rfl rfl ?_
  exact tl_ret hL .ireturn 1 (some (.int (hh_i h 99 18))) rfl rfl rfl rfl hr
theorem sg_X9_leastEffort_0 {g : tr_g} {d : Nat} {h : ev_AH} {r : ev_O × ev_AH} {x1 x2 v0 : Int32} {h1 : ev_AH} (hL : hh_L h) (c_0 : tr_L g d m_X9_isPort 0 [some (.int x1)] [] h (.inl (some (.int v0)), h1)) (t : v0 ≠ 0 → tr_L g (d + 1) m_X9_leastEffort 12 [some (.ref 1099), some (.int x1), some (.int x2), none] [.ref 1099] h1 r) (f : v0 = 0 → tr_L g (d + 1) m_X9_leastEffort 8 [some (.ref 1099), some (.int x1), some (.int x2), none] [.ref 1099] h1 r) : tr_L g (d + 1) m_X9_leastEffort 0 [some (.ref 1099), some (.int x1), some (.int x2), none] [] h r := by
  refine tr_s (.aload_n 0) 1 1 [some (.ref 1099), some (.int x1), some (.int x2), none] [.ref 1099] h rfl rfl rfl ?_
  refine tr_s (.iload_n 1) 1 2 [some (.ref 1099), some (.int x1), some (.int x2), none] [.int x1, .ref 1099] h rfl rfl rfl ?_
  refine tr_call (.invokestatic 153) 153 2 1 0 m_X9_isPort [.int x1] [.ref 1099] (some (.int v0)) h1 rfl rfl rfl rfl rfl rfl rfl rfl rfl (tr_cok rfl (Or.inl rfl)) c_0 ?_
  have hL0 := c_0.2
  exact tr_if1 .ne 7 12 v0 rfl rfl rfl (fun hc => t ((tr_ne hc).1 rfl)) (fun hc => f ((tr_ne hc).2 rfl))
theorem sg_X9_leastEffort_8 {g : tr_g} {d : Nat} {h : ev_AH} {r : ev_O × ev_AH} {x1 x2 v0 : Int32} {w3 : Option Value} {h1 : ev_AH} (hL : hh_L h) (c_0 : tr_L g d m_X9_isThrown 0 [some (.ref 1099), some (.int 1), some (.int 1)] [] h (.inl (some (.int v0)), h1)) (t : v0 ≠ 0 → tr_L g (d + 1) m_X9_leastEffort 41 [some (.ref 1099), some (.int x1), some (.int x2), w3] [] h1 r) (f : v0 = 0 → tr_L g (d + 1) m_X9_leastEffort 20 [some (.ref 1099), some (.int x1), some (.int x2), w3] [] h1 r) : tr_L g (d + 1) m_X9_leastEffort 8 [some (.ref 1099), some (.int x1), some (.int x2), w3] [.ref 1099] h r := by
  refine tr_ic 1 1 (by decide) rfl ?_
  refine tr_goto 4 13 rfl rfl rfl ?_
  refine tr_ic 1 1 (by decide) rfl ?_
  refine tr_call (.invokevirtual 66) 66 0 2 8 m_X9_isThrown [.ref 1099, .int 1, .int 1] [] (some (.int v0)) h1 rfl rfl rfl rfl rfl rfl rfl rfl rfl (tr_cok rfl (Or.inr ⟨_, _, rfl, tr_rc (hh_rd (hh_obj hL (k := 99) rfl).1) (by decide)⟩)) c_0 ?_
  have hL0 := c_0.2
  exact tr_if1 .ne 24 41 v0 rfl rfl rfl (fun hc => t ((tr_ne hc).1 rfl)) (fun hc => f ((tr_ne hc).2 rfl))
theorem sg_X9_leastEffort_12 {g : tr_g} {d : Nat} {h : ev_AH} {r : ev_O × ev_AH} {x1 x2 v0 : Int32} {w3 : Option Value} {h1 : ev_AH} (hL : hh_L h) (c_0 : tr_L g d m_X9_isThrown 0 [some (.ref 1099), some (.int 0), some (.int 1)] [] h (.inl (some (.int v0)), h1)) (t : v0 ≠ 0 → tr_L g (d + 1) m_X9_leastEffort 41 [some (.ref 1099), some (.int x1), some (.int x2), w3] [] h1 r) (f : v0 = 0 → tr_L g (d + 1) m_X9_leastEffort 20 [some (.ref 1099), some (.int x1), some (.int x2), w3] [] h1 r) : tr_L g (d + 1) m_X9_leastEffort 12 [some (.ref 1099), some (.int x1), some (.int x2), w3] [.ref 1099] h r := by
  refine tr_ic 0 0 (by decide) rfl ?_
  refine tr_ic 1 1 (by decide) rfl ?_
  refine tr_call (.invokevirtual 66) 66 0 2 8 m_X9_isThrown [.ref 1099, .int 0, .int 1] [] (some (.int v0)) h1 rfl rfl rfl rfl rfl rfl rfl rfl rfl (tr_cok rfl (Or.inr ⟨_, _, rfl, tr_rc (hh_rd (hh_obj hL (k := 99) rfl).1) (by decide)⟩)) c_0 ?_
  have hL0 := c_0.2
  exact tr_if1 .ne 24 41 v0 rfl rfl rfl (fun hc => t ((tr_ne hc).1 rfl)) (fun hc => f ((tr_ne hc).2 rfl))
theorem sg_X9_leastEffort_20 {g : tr_g} {d : Nat} {h : ev_AH} {r : ev_O × ev_AH} {x1 x2 v0 : Int32} {w3 : Option Value} {h1 : ev_AH} (hL : hh_L h) (c_0 : tr_L g d m_X9_isCat 0 [some (.ref 1099), some (.int x2)] [] h (.inl (some (.int v0)), h1)) (t : v0 ≠ 0 → tr_L g (d + 1) m_X9_leastEffort 33 [some (.ref 1099), some (.int x1), some (.int x2), w3] [.ref 1099] h1 r) (f : v0 = 0 → tr_L g (d + 1) m_X9_leastEffort 29 [some (.ref 1099), some (.int x1), some (.int x2), w3] [.ref 1099] h1 r) : tr_L g (d + 1) m_X9_leastEffort 20 [some (.ref 1099), some (.int x1), some (.int x2), w3] [] h r := by
  refine tr_s (.aload_n 0) 1 21 [some (.ref 1099), some (.int x1), some (.int x2), w3] [.ref 1099] h rfl rfl rfl ?_
  refine tr_s (.aload_n 0) 1 22 [some (.ref 1099), some (.int x1), some (.int x2), w3] [.ref 1099, .ref 1099] h rfl rfl rfl ?_
  refine tr_s (.iload_n 2) 1 23 [some (.ref 1099), some (.int x1), some (.int x2), w3] [.int x2, .ref 1099, .ref 1099] h rfl rfl rfl ?_
  refine tr_call (.invokevirtual 120) 120 0 1 8 m_X9_isCat [.ref 1099, .int x2] [.ref 1099] (some (.int v0)) h1 rfl rfl rfl rfl rfl rfl rfl rfl rfl (tr_cok rfl (Or.inr ⟨_, _, rfl, tr_rc (hh_rd (hh_obj hL (k := 99) rfl).1) (by decide)⟩)) c_0 ?_
  have hL0 := c_0.2
  exact tr_if1 .ne 7 33 v0 rfl rfl rfl (fun hc => t ((tr_ne hc).1 rfl)) (fun hc => f ((tr_ne hc).2 rfl))
theorem sg_X9_leastEffort_29 {g : tr_g} {d : Nat} {h : ev_AH} {r : ev_O × ev_AH} {x1 x2 v0 : Int32} {w3 : Option Value} {h1 : ev_AH} (hL : hh_L h) (c_0 : tr_L g d m_X9_isThrown 0 [some (.ref 1099), some (.int 1), some (.int 2)] [] h (.inl (some (.int v0)), h1)) (t : v0 = 0 → tr_L g (d + 1) m_X9_leastEffort 43 [some (.ref 1099), some (.int x1), some (.int x2), w3] [] h1 r) (f : v0 ≠ 0 → tr_L g (d + 1) m_X9_leastEffort 41 [some (.ref 1099), some (.int x1), some (.int x2), w3] [] h1 r) : tr_L g (d + 1) m_X9_leastEffort 29 [some (.ref 1099), some (.int x1), some (.int x2), w3] [.ref 1099] h r := by
  refine tr_ic 1 1 (by decide) rfl ?_
  refine tr_goto 4 34 rfl rfl rfl ?_
  refine tr_ic 2 2 (by decide) rfl ?_
  refine tr_call (.invokevirtual 66) 66 0 2 8 m_X9_isThrown [.ref 1099, .int 1, .int 2] [] (some (.int v0)) h1 rfl rfl rfl rfl rfl rfl rfl rfl rfl (tr_cok rfl (Or.inr ⟨_, _, rfl, tr_rc (hh_rd (hh_obj hL (k := 99) rfl).1) (by decide)⟩)) c_0 ?_
  have hL0 := c_0.2
  exact tr_if1 .eq 5 43 v0 rfl rfl rfl (fun hc => t ((tr_eq hc).1 rfl)) (fun hc => f ((tr_eq hc).2 rfl))
theorem sg_X9_leastEffort_33 {g : tr_g} {d : Nat} {h : ev_AH} {r : ev_O × ev_AH} {x1 x2 v0 : Int32} {w3 : Option Value} {h1 : ev_AH} (hL : hh_L h) (c_0 : tr_L g d m_X9_isThrown 0 [some (.ref 1099), some (.int 0), some (.int 2)] [] h (.inl (some (.int v0)), h1)) (t : v0 = 0 → tr_L g (d + 1) m_X9_leastEffort 43 [some (.ref 1099), some (.int x1), some (.int x2), w3] [] h1 r) (f : v0 ≠ 0 → tr_L g (d + 1) m_X9_leastEffort 41 [some (.ref 1099), some (.int x1), some (.int x2), w3] [] h1 r) : tr_L g (d + 1) m_X9_leastEffort 33 [some (.ref 1099), some (.int x1), some (.int x2), w3] [.ref 1099] h r := by
  refine tr_ic 0 0 (by decide) rfl ?_
  refine tr_ic 2 2 (by decide) rfl ?_
  refine tr_call (.invokevirtual 66) 66 0 2 8 m_X9_isThrown [.ref 1099, .int 0, .int 2] [] (some (.int v0)) h1 rfl rfl rfl rfl rfl rfl rfl rfl rfl (tr_cok rfl (Or.inr ⟨_, _, rfl, tr_rc (hh_rd (hh_obj hL (k := 99) rfl).1) (by decide)⟩)) c_0 ?_
  have hL0 := c_0.2
  exact tr_if1 .eq 5 43 v0 rfl rfl rfl (fun hc => t ((tr_eq hc).1 rfl)) (fun hc => f ((tr_eq hc).2 rfl))
theorem sg_X9_leastEffort_41 {g : tr_g} {d : Nat} {h : ev_AH} {r : ev_O × ev_AH} {w0 w1 w2 w3 : Option Value} (hL : hh_L h) (hr : r = (.inl (some (.int 0)), h)) : tr_L g d m_X9_leastEffort 41 [w0, w1, w2, w3] [] h r := by
  refine tr_ic 0 0 (by decide) rfl ?_
  exact tl_ret hL .ireturn 1 (some (.int 0)) rfl rfl rfl rfl hr
theorem sg_X9_leastEffort_43 {g : tr_g} {d : Nat} {h : ev_AH} {r : ev_O × ev_AH} {x1 x2 v0 : Int32} {w3 : Option Value} {h1 : ev_AH} (hL : hh_L h) (c_0 : tr_L g d m_X9_effort 0 [some (.ref 1099), some (.int x1), some (.int x2), none, none, none, none] [] h (.inl (some (.int v0)), h1)) (t : v0 ≠ 9999 → tr_L g (d + 1) m_X9_leastEffort 62 [some (.ref 1099), some (.int x1), some (.int x2), some (.int v0)] [.ref 1099] h1 r) (f : v0 = 9999 → tr_L g (d + 1) m_X9_leastEffort 58 [some (.ref 1099), some (.int x1), some (.int x2), some (.int v0)] [.ref 1099] h1 r) : tr_L g (d + 1) m_X9_leastEffort 43 [some (.ref 1099), some (.int x1), some (.int x2), w3] [] h r := by
  refine tr_s (.aload_n 0) 1 44 [some (.ref 1099), some (.int x1), some (.int x2), w3] [.ref 1099] h rfl rfl rfl ?_
  refine tr_s (.iload_n 1) 1 45 [some (.ref 1099), some (.int x1), some (.int x2), w3] [.int x1, .ref 1099] h rfl rfl rfl ?_
  refine tr_s (.iload_n 2) 1 46 [some (.ref 1099), some (.int x1), some (.int x2), w3] [.int x2, .int x1, .ref 1099] h rfl rfl rfl ?_
  refine tr_call (.invokevirtual 172) 172 0 2 8 m_X9_effort [.ref 1099, .int x1, .int x2] [] (some (.int v0)) h1 rfl rfl rfl rfl rfl rfl rfl rfl rfl (tr_cok rfl (Or.inr ⟨_, _, rfl, tr_rc (hh_rd (hh_obj hL (k := 99) rfl).1) (by decide)⟩)) c_0 ?_
  have hL0 := c_0.2
  refine tr_st (.istore_n 3) 1 3 0 (.int v0) rfl rfl rfl rfl rfl rfl rfl ?_
  refine tr_s (.aload_n 0) 1 51 [some (.ref 1099), some (.int x1), some (.int x2), some (.int v0)] [.ref 1099] h1 rfl rfl rfl ?_
  refine tr_s (.iload_n 3) 1 52 [some (.ref 1099), some (.int x1), some (.int x2), some (.int v0)] [.int v0, .ref 1099] h1 rfl rfl rfl ?_
  refine tr_si 9999 9999 (by decide) rfl ?_
  exact tr_if2 .ne 7 62 v0 9999 rfl rfl rfl (fun hc => t ((tr_ne hc).1 rfl)) (fun hc => f ((tr_ne hc).2 rfl))
theorem sg_X9_leastEffort_58 {g : tr_g} {d : Nat} {h : ev_AH} {r : ev_O × ev_AH} {w0 w1 w2 : Option Value} {x3 v0 : Int32} {h1 : ev_AH} (hL : hh_L h) (c_0 : tr_L g d m_X9_isThrown 0 [some (.ref 1099), some (.int 1), some (.int 3)] [] h (.inl (some (.int v0)), h1)) (t : v0 = 0 → tr_L g (d + 1) m_X9_leastEffort 74 [w0, w1, w2, some (.int x3)] [] h1 r) (f : v0 ≠ 0 → tr_L g (d + 1) m_X9_leastEffort 70 [w0, w1, w2, some (.int x3)] [] h1 r) : tr_L g (d + 1) m_X9_leastEffort 58 [w0, w1, w2, some (.int x3)] [.ref 1099] h r := by
  refine tr_ic 1 1 (by decide) rfl ?_
  refine tr_goto 4 63 rfl rfl rfl ?_
  refine tr_ic 3 3 (by decide) rfl ?_
  refine tr_call (.invokevirtual 66) 66 0 2 8 m_X9_isThrown [.ref 1099, .int 1, .int 3] [] (some (.int v0)) h1 rfl rfl rfl rfl rfl rfl rfl rfl rfl (tr_cok rfl (Or.inr ⟨_, _, rfl, tr_rc (hh_rd (hh_obj hL (k := 99) rfl).1) (by decide)⟩)) c_0 ?_
  have hL0 := c_0.2
  exact tr_if1 .eq 7 74 v0 rfl rfl rfl (fun hc => t ((tr_eq hc).1 rfl)) (fun hc => f ((tr_eq hc).2 rfl))
theorem sg_X9_leastEffort_62 {g : tr_g} {d : Nat} {h : ev_AH} {r : ev_O × ev_AH} {w0 w1 w2 : Option Value} {x3 v0 : Int32} {h1 : ev_AH} (hL : hh_L h) (c_0 : tr_L g d m_X9_isThrown 0 [some (.ref 1099), some (.int 0), some (.int 3)] [] h (.inl (some (.int v0)), h1)) (t : v0 = 0 → tr_L g (d + 1) m_X9_leastEffort 74 [w0, w1, w2, some (.int x3)] [] h1 r) (f : v0 ≠ 0 → tr_L g (d + 1) m_X9_leastEffort 70 [w0, w1, w2, some (.int x3)] [] h1 r) : tr_L g (d + 1) m_X9_leastEffort 62 [w0, w1, w2, some (.int x3)] [.ref 1099] h r := by
  refine tr_ic 0 0 (by decide) rfl ?_
  refine tr_ic 3 3 (by decide) rfl ?_
  refine tr_call (.invokevirtual 66) 66 0 2 8 m_X9_isThrown [.ref 1099, .int 0, .int 3] [] (some (.int v0)) h1 rfl rfl rfl rfl rfl rfl rfl rfl rfl (tr_cok rfl (Or.inr ⟨_, _, rfl, tr_rc (hh_rd (hh_obj hL (k := 99) rfl).1) (by decide)⟩)) c_0 ?_
  have hL0 := c_0.2
  exact tr_if1 .eq 7 74 v0 rfl rfl rfl (fun hc => t ((tr_eq hc).1 rfl)) (fun hc => f ((tr_eq hc).2 rfl))
theorem sg_X9_leastEffort_70 {g : tr_g} {d : Nat} {h : ev_AH} {r : ev_O × ev_AH} {w0 w1 w2 w3 : Option Value} (hL : hh_L h) (hr : r = (.inl (some (.int 0)), h)) : tr_L g d m_X9_leastEffort 70 [w0, w1, w2, w3] [] h r := by
  refine tr_ic 0 0 (by decide) rfl ?_
  refine tr_goto 4 75 rfl rfl rfl ?_
  exact tl_ret hL .ireturn 1 (some (.int 0)) rfl rfl rfl rfl hr
theorem sg_X9_leastEffort_74 {g : tr_g} {d : Nat} {h : ev_AH} {r : ev_O × ev_AH} {w0 w1 w2 : Option Value} {x3 : Int32} (hL : hh_L h) (hr : r = (.inl (some (.int x3)), h)) : tr_L g d m_X9_leastEffort 74 [w0, w1, w2, some (.int x3)] [] h r := by
  refine tr_s (.iload_n 3) 1 75 [w0, w1, w2, some (.int x3)] [.int x3] h rfl rfl rfl ?_
  exact tl_ret hL .ireturn 1 (some (.int x3)) rfl rfl rfl rfl hr
theorem sg_X9_effort_0 {g : tr_g} {d : Nat} {h : ev_AH} {r : ev_O × ev_AH} {x1 x2 : Int32} (hL : hh_L h) (k : tr_L g d m_X9_effort 2 [some (.ref 1099), some (.int x1), some (.int x2), some (.int 0), none, none, none] [] h r) : tr_L g d m_X9_effort 0 [some (.ref 1099), some (.int x1), some (.int x2), none, none, none, none] [] h r := by
  refine tr_ic 0 0 (by decide) rfl ?_
  refine tr_st (.istore_n 3) 1 3 0 (.int 0) rfl rfl rfl rfl rfl rfl rfl ?_
  exact k
theorem sg_X9_effort_2 {g : tr_g} {d : Nat} {h : ev_AH} {r : ev_O × ev_AH} {x1 x2 x3 : Int32} {w4 w5 w6 : Option Value} (hL : hh_L h) (t : 140 ≤ x3 → tr_L g d m_X9_effort 24 [some (.ref 1099), some (.int x1), some (.int x2), some (.int x3), w4, w5, w6] [] h r) (f : x3 < 140 → tr_L g d m_X9_effort 9 [some (.ref 1099), some (.int x1), some (.int x2), some (.int x3), w4, w5, w6] [] h r) : tr_L g d m_X9_effort 2 [some (.ref 1099), some (.int x1), some (.int x2), some (.int x3), w4, w5, w6] [] h r := by
  refine tr_s (.iload_n 3) 1 3 [some (.ref 1099), some (.int x1), some (.int x2), some (.int x3), w4, w5, w6] [.int x3] h rfl rfl rfl ?_
  refine tr_si 140 140 (by decide) rfl ?_
  exact tr_if2 .ge 18 24 x3 140 rfl rfl rfl (fun hc => t ((tr_ge hc).1 rfl)) (fun hc => f ((tr_ge hc).2 rfl))
theorem sg_X9_effort_9 {g : tr_g} {d : Nat} {h : ev_AH} {r : ev_O × ev_AH} {x1 x2 x3 : Int32} {w4 w5 w6 : Option Value} {j0 : Nat} (hL : hh_L h) (e0 : x3 = Int32.ofNat j0) (b0 : j0 < 140) (k : tr_L g d m_X9_effort 2 [some (.ref 1099), some (.int x1), some (.int x2), some (.int (x3 + 1)), w4, w5, w6] [] (hh_sa h 104 0 ((hh_a h 104).set j0 9999)) r) : tr_L g d m_X9_effort 9 [some (.ref 1099), some (.int x1), some (.int x2), some (.int x3), w4, w5, w6] [] h r := by
  refine tr_s (.aload_n 0) 1 10 [some (.ref 1099), some (.int x1), some (.int x2), some (.int x3), w4, w5, w6] [.ref 1099] h rfl rfl rfl ?_
  refine tl_gr hL 22 99 8 4 104 [1100, 1101, 1102, 1103, 1104, 1105, 0, 0, 0, 0, 0, 0, 0, 0, 0, 0, 0, 0, 0, 0, 0, 1106, 0, 1107, 1108, 0, 0, 0] rfl rfl rfl rfl ?_
  refine tr_s (.iload_n 3) 1 14 [some (.ref 1099), some (.int x1), some (.int x2), some (.int x3), w4, w5, w6] [.int x3, .ref 1104] h rfl rfl rfl ?_
  refine tr_si 9999 9999 (by decide) rfl ?_
  refine tl_ias hL 104 140 j0 x3 9999 rfl rfl e0 b0 (by decide) ?_
  have hL0 := hh_L_ss (j := j0) (x := 9999) hL (show hh_t[104]? = some (.inl (0, 140)) from rfl)
  refine tr_inc 3 1 x3 1 (by decide) rfl rfl rfl ?_
  refine tr_goto (-19) 2 rfl rfl rfl ?_
  exact k
theorem sg_X9_effort_24 {g : tr_g} {d : Nat} {h : ev_AH} {r : ev_O × ev_AH} {x1 x2 v0 v1 v2 : Int32} {w3 w4 w5 w6 : Option Value} {h1 h2 h3 : ev_AH} (hL : hh_L h) (c_0 : tr_L g d m_X9_firstCell 0 [some (.int x1)] [] h (.inl (some (.int v0)), h1)) (c_1 : tr_L g d m_X9_firstWay 0 [some (.int x1)] [] h1 (.inl (some (.int v1)), h2)) (c_2 : tr_L g d m_X9_lowers 0 [some (.ref 1099), some (.int v0), some (.int v1), some (.int 0)] [] h2 (.inl (some (.int v2)), h3)) (k : tr_L g (d + 1) m_X9_effort 38 [some (.ref 1099), some (.int x1), some (.int x2), some (.int v2), w4, w5, w6] [] h3 r) : tr_L g (d + 1) m_X9_effort 24 [some (.ref 1099), some (.int x1), some (.int x2), w3, w4, w5, w6] [] h r := by
  refine tr_s (.aload_n 0) 1 25 [some (.ref 1099), some (.int x1), some (.int x2), w3, w4, w5, w6] [.ref 1099] h rfl rfl rfl ?_
  refine tr_s (.iload_n 1) 1 26 [some (.ref 1099), some (.int x1), some (.int x2), w3, w4, w5, w6] [.int x1, .ref 1099] h rfl rfl rfl ?_
  refine tr_call (.invokestatic 129) 129 2 1 0 m_X9_firstCell [.int x1] [.ref 1099] (some (.int v0)) h1 rfl rfl rfl rfl rfl rfl rfl rfl rfl (tr_cok rfl (Or.inl rfl)) c_0 ?_
  have hL0 := c_0.2
  refine tr_s (.iload_n 1) 1 30 [some (.ref 1099), some (.int x1), some (.int x2), w3, w4, w5, w6] [.int x1, .int v0, .ref 1099] h1 rfl rfl rfl ?_
  refine tr_call (.invokestatic 132) 132 2 1 0 m_X9_firstWay [.int x1] [.int v0, .ref 1099] (some (.int v1)) h2 rfl rfl rfl rfl rfl rfl rfl rfl rfl (tr_cok rfl (Or.inl rfl)) c_1 ?_
  have hL1 := c_1.2
  refine tr_ic 0 0 (by decide) rfl ?_
  refine tr_call (.invokevirtual 166) 166 0 3 8 m_X9_lowers [.ref 1099, .int v0, .int v1, .int 0] [] (some (.int v2)) h3 rfl rfl rfl rfl rfl rfl rfl rfl rfl (tr_cok rfl (Or.inr ⟨_, _, rfl, tr_rc (hh_rd (hh_obj hL1 (k := 99) rfl).1) (by decide)⟩)) c_2 ?_
  have hL2 := c_2.2
  refine tr_st (.istore_n 3) 1 3 0 (.int v2) rfl rfl rfl rfl rfl rfl rfl ?_
  exact k
theorem sg_X9_effort_38 {g : tr_g} {d : Nat} {h : ev_AH} {r : ev_O × ev_AH} {w1 w4 w5 w6 : Option Value} {x2 x3 : Int32} (hL : hh_L h) (t : x3 = 0 → tr_L g d m_X9_effort 83 [some (.ref 1099), w1, some (.int x2), some (.int x3), w4, w5, w6] [] h r) (f : x3 ≠ 0 → tr_L g d m_X9_effort 42 [some (.ref 1099), w1, some (.int x2), some (.int x3), w4, w5, w6] [] h r) : tr_L g d m_X9_effort 38 [some (.ref 1099), w1, some (.int x2), some (.int x3), w4, w5, w6] [] h r := by
  refine tr_s (.iload_n 3) 1 39 [some (.ref 1099), w1, some (.int x2), some (.int x3), w4, w5, w6] [.int x3] h rfl rfl rfl ?_
  exact tr_if1 .eq 44 83 x3 rfl rfl rfl (fun hc => t ((tr_eq hc).1 rfl)) (fun hc => f ((tr_eq hc).2 rfl))
theorem sg_X9_effort_42 {g : tr_g} {d : Nat} {h : ev_AH} {r : ev_O × ev_AH} {w1 w3 w4 w5 w6 : Option Value} {x2 : Int32} (hL : hh_L h) (k : tr_L g d m_X9_effort 47 [some (.ref 1099), w1, some (.int x2), some (.int 0), some (.int 0), w5, w6] [] h r) : tr_L g d m_X9_effort 42 [some (.ref 1099), w1, some (.int x2), w3, w4, w5, w6] [] h r := by
  refine tr_ic 0 0 (by decide) rfl ?_
  refine tr_st (.istore_n 3) 1 3 0 (.int 0) rfl rfl rfl rfl rfl rfl rfl ?_
  refine tr_ic 0 0 (by decide) rfl ?_
  refine tr_st (.istore 4) 2 4 0 (.int 0) rfl rfl rfl rfl rfl rfl rfl ?_
  exact k
theorem sg_X9_effort_47 {g : tr_g} {d : Nat} {h : ev_AH} {r : ev_O × ev_AH} {w1 w5 w6 : Option Value} {x2 x3 x4 : Int32} (hL : hh_L h) (t : 35 ≤ x4 → tr_L g d m_X9_effort 80 [some (.ref 1099), w1, some (.int x2), some (.int x3), some (.int x4), w5, w6] [] h r) (f : x4 < 35 → tr_L g d m_X9_effort 54 [some (.ref 1099), w1, some (.int x2), some (.int x3), some (.int x4), w5, w6] [] h r) : tr_L g d m_X9_effort 47 [some (.ref 1099), w1, some (.int x2), some (.int x3), some (.int x4), w5, w6] [] h r := by
  refine tr_s (.iload 4) 2 49 [some (.ref 1099), w1, some (.int x2), some (.int x3), some (.int x4), w5, w6] [.int x4] h rfl rfl rfl ?_
  refine tr_bi 35 35 (by decide) rfl ?_
  exact tr_if2 .ge 29 80 x4 35 rfl rfl rfl (fun hc => t ((tr_ge hc).1 rfl)) (fun hc => f ((tr_ge hc).2 rfl))
theorem sg_X9_effort_54 {g : tr_g} {d : Nat} {h : ev_AH} {r : ev_O × ev_AH} {w1 w5 w6 : Option Value} {x2 x3 x4 v0 : Int32} {h1 : ev_AH} (hL : hh_L h) (c_0 : tr_L g d m_X9_catOn 0 [some (.ref 1099), some (.int x4), none] [] h (.inl (some (.int v0)), h1)) (t : 0 ≤ v0 → tr_L g (d + 1) m_X9_effort 74 [some (.ref 1099), w1, some (.int x2), some (.int x3), some (.int x4), w5, w6] [] h1 r) (f : v0 < 0 → tr_L g (d + 1) m_X9_effort 63 [some (.ref 1099), w1, some (.int x2), some (.int x3), some (.int x4), w5, w6] [] h1 r) : tr_L g (d + 1) m_X9_effort 54 [some (.ref 1099), w1, some (.int x2), some (.int x3), some (.int x4), w5, w6] [] h r := by
  refine tr_s (.aload_n 0) 1 55 [some (.ref 1099), w1, some (.int x2), some (.int x3), some (.int x4), w5, w6] [.ref 1099] h rfl rfl rfl ?_
  refine tr_s (.iload 4) 2 57 [some (.ref 1099), w1, some (.int x2), some (.int x3), some (.int x4), w5, w6] [.int x4, .ref 1099] h rfl rfl rfl ?_
  refine tr_call (.invokevirtual 92) 92 0 1 8 m_X9_catOn [.ref 1099, .int x4] [] (some (.int v0)) h1 rfl rfl rfl rfl rfl rfl rfl rfl rfl (tr_cok rfl (Or.inr ⟨_, _, rfl, tr_rc (hh_rd (hh_obj hL (k := 99) rfl).1) (by decide)⟩)) c_0 ?_
  have hL0 := c_0.2
  exact tr_if1 .ge 14 74 v0 rfl rfl rfl (fun hc => t ((tr_ge hc).1 rfl)) (fun hc => f ((tr_ge hc).2 rfl))
theorem sg_X9_effort_63 {g : tr_g} {d : Nat} {h : ev_AH} {r : ev_O × ev_AH} {w1 w5 w6 : Option Value} {x2 x3 x4 v0 : Int32} {h1 : ev_AH} (hL : hh_L h) (c_0 : tr_L g d m_X9_goesOn 0 [some (.ref 1099), some (.int x4), none, none, none, none, none] [] h (.inl (some (.int v0)), h1)) (t : v0 = 0 → tr_L g (d + 1) m_X9_effort 74 [some (.ref 1099), w1, some (.int x2), some (.int x3), some (.int x4), w5, w6] [] h1 r) (f : v0 ≠ 0 → tr_L g (d + 1) m_X9_effort 72 [some (.ref 1099), w1, some (.int x2), some (.int x3), some (.int x4), w5, w6] [] h1 r) : tr_L g (d + 1) m_X9_effort 63 [some (.ref 1099), w1, some (.int x2), some (.int x3), some (.int x4), w5, w6] [] h r := by
  refine tr_s (.aload_n 0) 1 64 [some (.ref 1099), w1, some (.int x2), some (.int x3), some (.int x4), w5, w6] [.ref 1099] h rfl rfl rfl ?_
  refine tr_s (.iload 4) 2 66 [some (.ref 1099), w1, some (.int x2), some (.int x3), some (.int x4), w5, w6] [.int x4, .ref 1099] h rfl rfl rfl ?_
  refine tr_call (.invokevirtual 169) 169 0 1 8 m_X9_goesOn [.ref 1099, .int x4] [] (some (.int v0)) h1 rfl rfl rfl rfl rfl rfl rfl rfl rfl (tr_cok rfl (Or.inr ⟨_, _, rfl, tr_rc (hh_rd (hh_obj hL (k := 99) rfl).1) (by decide)⟩)) c_0 ?_
  have hL0 := c_0.2
  exact tr_if1 .eq 5 74 v0 rfl rfl rfl (fun hc => t ((tr_eq hc).1 rfl)) (fun hc => f ((tr_eq hc).2 rfl))
theorem sg_X9_effort_72 {g : tr_g} {d : Nat} {h : ev_AH} {r : ev_O × ev_AH} {w1 w3 w5 w6 : Option Value} {x2 x4 : Int32} (hL : hh_L h) (k : tr_L g d m_X9_effort 47 [some (.ref 1099), w1, some (.int x2), some (.int 1), some (.int (x4 + 1)), w5, w6] [] h r) : tr_L g d m_X9_effort 72 [some (.ref 1099), w1, some (.int x2), w3, some (.int x4), w5, w6] [] h r := by
  refine tr_ic 1 1 (by decide) rfl ?_
  refine tr_st (.istore_n 3) 1 3 0 (.int 1) rfl rfl rfl rfl rfl rfl rfl ?_
  refine tr_inc 4 1 x4 1 (by decide) rfl rfl rfl ?_
  refine tr_goto (-30) 47 rfl rfl rfl ?_
  exact k
theorem sg_X9_effort_74 {g : tr_g} {d : Nat} {h : ev_AH} {r : ev_O × ev_AH} {w1 w5 w6 : Option Value} {x2 x3 x4 : Int32} (hL : hh_L h) (k : tr_L g d m_X9_effort 47 [some (.ref 1099), w1, some (.int x2), some (.int x3), some (.int (x4 + 1)), w5, w6] [] h r) : tr_L g d m_X9_effort 74 [some (.ref 1099), w1, some (.int x2), some (.int x3), some (.int x4), w5, w6] [] h r := by
  refine tr_inc 4 1 x4 1 (by decide) rfl rfl rfl ?_
  refine tr_goto (-30) 47 rfl rfl rfl ?_
  exact k
theorem sg_X9_effort_80 {g : tr_g} {d : Nat} {h : ev_AH} {r : ev_O × ev_AH} {w1 w4 w5 w6 : Option Value} {x2 x3 : Int32} (hL : hh_L h) (k : tr_L g d m_X9_effort 38 [some (.ref 1099), w1, some (.int x2), some (.int x3), w4, w5, w6] [] h r) : tr_L g d m_X9_effort 80 [some (.ref 1099), w1, some (.int x2), some (.int x3), w4, w5, w6] [] h r := by
  refine tr_goto (-42) 38 rfl rfl rfl ?_
  exact k
theorem sg_X9_effort_83 {g : tr_g} {d : Nat} {h : ev_AH} {r : ev_O × ev_AH} {w1 w3 w4 w5 w6 : Option Value} {x2 : Int32} (hL : hh_L h) (o3 : tr_ow w3 = true) (k : tr_L g d m_X9_effort 91 [some (.ref 1099), w1, some (.int x2), w3, some (.int 9999), some (.int 0), w6] [] h r) : tr_L g d m_X9_effort 83 [some (.ref 1099), w1, some (.int x2), w3, w4, w5, w6] [] h r := by
  refine tr_si 9999 9999 (by decide) rfl ?_
  refine tr_st (.istore 4) 2 4 0 (.int 9999) rfl rfl rfl rfl rfl rfl (tr_sok (Nat.le_of_ble_eq_true rfl) rfl o3) ?_
  refine tr_ic 0 0 (by decide) rfl ?_
  refine tr_st (.istore 5) 2 5 0 (.int 0) rfl rfl rfl rfl rfl rfl rfl ?_
  exact k
theorem sg_X9_effort_91 {g : tr_g} {d : Nat} {h : ev_AH} {r : ev_O × ev_AH} {w1 w3 w6 : Option Value} {x2 x4 x5 : Int32} (hL : hh_L h) (t : 4 ≤ x5 → tr_L g d m_X9_effort 137 [some (.ref 1099), w1, some (.int x2), w3, some (.int x4), some (.int x5), w6] [] h r) (f : x5 < 4 → tr_L g d m_X9_effort 97 [some (.ref 1099), w1, some (.int x2), w3, some (.int x4), some (.int x5), w6] [] h r) : tr_L g d m_X9_effort 91 [some (.ref 1099), w1, some (.int x2), w3, some (.int x4), some (.int x5), w6] [] h r := by
  refine tr_s (.iload 5) 2 93 [some (.ref 1099), w1, some (.int x2), w3, some (.int x4), some (.int x5), w6] [.int x5] h rfl rfl rfl ?_
  refine tr_ic 4 4 (by decide) rfl ?_
  exact tr_if2 .ge 43 137 x5 4 rfl rfl rfl (fun hc => t ((tr_ge hc).1 rfl)) (fun hc => f ((tr_ge hc).2 rfl))
theorem sg_X9_effort_97 {g : tr_g} {d : Nat} {h : ev_AH} {r : ev_O × ev_AH} {w1 w3 w6 : Option Value} {x2 x4 x5 v0 : Int32} {h1 : ev_AH} {j0 : Nat} (hL : hh_L h) (c_0 : tr_L g d m_X9_of 0 [some (.ref 1099), some (.int x2), some (.int 0)] [] h (.inl (some (.int v0)), h1)) (e0 : (4 * v0) + x5 = Int32.ofNat j0) (b0 : j0 < 140) (t : x4 ≤ ((hh_a h1 104).getD j0 0) → tr_L g (d + 1) m_X9_effort 127 [some (.ref 1099), w1, some (.int x2), w3, some (.int x4), some (.int x5), some (.int ((hh_a h1 104).getD j0 0))] [] h1 r) (f : ((hh_a h1 104).getD j0 0) < x4 → tr_L g (d + 1) m_X9_effort 122 [some (.ref 1099), w1, some (.int x2), w3, some (.int x4), some (.int x5), some (.int ((hh_a h1 104).getD j0 0))] [] h1 r) : tr_L g (d + 1) m_X9_effort 97 [some (.ref 1099), w1, some (.int x2), w3, some (.int x4), some (.int x5), w6] [] h r := by
  refine tr_s (.aload_n 0) 1 98 [some (.ref 1099), w1, some (.int x2), w3, some (.int x4), some (.int x5), w6] [.ref 1099] h rfl rfl rfl ?_
  refine tl_gr hL 22 99 8 4 104 [1100, 1101, 1102, 1103, 1104, 1105, 0, 0, 0, 0, 0, 0, 0, 0, 0, 0, 0, 0, 0, 0, 0, 1106, 0, 1107, 1108, 0, 0, 0] rfl rfl rfl rfl ?_
  refine tr_ic 4 4 (by decide) rfl ?_
  refine tr_s (.aload_n 0) 1 103 [some (.ref 1099), w1, some (.int x2), w3, some (.int x4), some (.int x5), w6] [.ref 1099, .int 4, .ref 1104] h rfl rfl rfl ?_
  refine tr_s (.iload_n 2) 1 104 [some (.ref 1099), w1, some (.int x2), w3, some (.int x4), some (.int x5), w6] [.int x2, .ref 1099, .int 4, .ref 1104] h rfl rfl rfl ?_
  refine tr_ic 0 0 (by decide) rfl ?_
  refine tr_call (.invokevirtual 74) 74 0 2 8 m_X9_of [.ref 1099, .int x2, .int 0] [.int 4, .ref 1104] (some (.int v0)) h1 rfl rfl rfl rfl rfl rfl rfl rfl rfl (tr_cok rfl (Or.inr ⟨_, _, rfl, tr_rc (hh_rd (hh_obj hL (k := 99) rfl).1) (by decide)⟩)) c_0 ?_
  have hL0 := c_0.2
  refine tr_s .imul 1 109 [some (.ref 1099), w1, some (.int x2), w3, some (.int x4), some (.int x5), w6] [.int (4 * v0), .ref 1104] h1 rfl rfl rfl ?_
  refine tr_s (.iload 5) 2 111 [some (.ref 1099), w1, some (.int x2), w3, some (.int x4), some (.int x5), w6] [.int x5, .int (4 * v0), .ref 1104] h1 rfl rfl rfl ?_
  refine tr_s .iadd 1 112 [some (.ref 1099), w1, some (.int x2), w3, some (.int x4), some (.int x5), w6] [.int ((4 * v0) + x5), .ref 1104] h1 rfl rfl rfl ?_
  refine tl_ald hL0 .iaload 104 0 140 j0 ((4 * v0) + x5) rfl (by decide) rfl e0 b0 (by decide) ?_
  refine tr_st (.istore 6) 2 6 0 (.int ((hh_a h1 104).getD j0 0)) rfl rfl rfl rfl rfl rfl rfl ?_
  refine tr_s (.iload 6) 2 117 [some (.ref 1099), w1, some (.int x2), w3, some (.int x4), some (.int x5), some (.int ((hh_a h1 104).getD j0 0))] [.int ((hh_a h1 104).getD j0 0)] h1 rfl rfl rfl ?_
  refine tr_s (.iload 4) 2 119 [some (.ref 1099), w1, some (.int x2), w3, some (.int x4), some (.int x5), some (.int ((hh_a h1 104).getD j0 0))] [.int x4, .int ((hh_a h1 104).getD j0 0)] h1 rfl rfl rfl ?_
  exact tr_if2 .ge 8 127 ((hh_a h1 104).getD j0 0) x4 rfl rfl rfl (fun hc => t ((tr_ge hc).1 rfl)) (fun hc => f ((tr_ge hc).2 rfl))
theorem sg_X9_effort_122 {g : tr_g} {d : Nat} {h : ev_AH} {r : ev_O × ev_AH} {w1 w3 w4 : Option Value} {x2 x5 x6 : Int32} (hL : hh_L h) (o3 : tr_ow w3 = true) (k : tr_L g d m_X9_effort 91 [some (.ref 1099), w1, some (.int x2), w3, some (.int x6), some (.int (x5 + 1)), some (.int x6)] [] h r) : tr_L g d m_X9_effort 122 [some (.ref 1099), w1, some (.int x2), w3, w4, some (.int x5), some (.int x6)] [] h r := by
  refine tr_s (.iload 6) 2 124 [some (.ref 1099), w1, some (.int x2), w3, w4, some (.int x5), some (.int x6)] [.int x6] h rfl rfl rfl ?_
  refine tr_goto 5 129 rfl rfl rfl ?_
  refine tr_st (.istore 4) 2 4 0 (.int x6) rfl rfl rfl rfl rfl rfl (tr_sok (Nat.le_of_ble_eq_true rfl) rfl o3) ?_
  refine tr_inc 5 1 x5 1 (by decide) rfl rfl rfl ?_
  refine tr_goto (-43) 91 rfl rfl rfl ?_
  exact k
theorem sg_X9_effort_127 {g : tr_g} {d : Nat} {h : ev_AH} {r : ev_O × ev_AH} {w1 w3 w6 : Option Value} {x2 x4 x5 : Int32} (hL : hh_L h) (o3 : tr_ow w3 = true) (k : tr_L g d m_X9_effort 91 [some (.ref 1099), w1, some (.int x2), w3, some (.int x4), some (.int (x5 + 1)), w6] [] h r) : tr_L g d m_X9_effort 127 [some (.ref 1099), w1, some (.int x2), w3, some (.int x4), some (.int x5), w6] [] h r := by
  refine tr_s (.iload 4) 2 129 [some (.ref 1099), w1, some (.int x2), w3, some (.int x4), some (.int x5), w6] [.int x4] h rfl rfl rfl ?_
  refine tr_st (.istore 4) 2 4 0 (.int x4) rfl rfl rfl rfl rfl rfl (tr_sok (Nat.le_of_ble_eq_true rfl) rfl o3) ?_
  refine tr_inc 5 1 x5 1 (by decide) rfl rfl rfl ?_
  refine tr_goto (-43) 91 rfl rfl rfl ?_
  exact k
theorem sg_X9_effort_137 {g : tr_g} {d : Nat} {h : ev_AH} {r : ev_O × ev_AH} {w0 w1 w2 w3 w5 w6 : Option Value} {x4 : Int32} (hL : hh_L h) (hr : r = (.inl (some (.int x4)), h)) : tr_L g d m_X9_effort 137 [w0, w1, w2, w3, some (.int x4), w5, w6] [] h r := by
  refine tr_s (.iload 4) 2 139 [w0, w1, w2, w3, some (.int x4), w5, w6] [.int x4] h rfl rfl rfl ?_
  exact tl_ret hL .ireturn 1 (some (.int x4)) rfl rfl rfl rfl hr
theorem sg_X9_lowers_0 {g : tr_g} {d : Nat} {h : ev_AH} {r : ev_O × ev_AH} {x1 x2 x3 : Int32} (hL : hh_L h) (t : x1 < 0 → tr_L g d m_X9_lowers 18 [some (.ref 1099), some (.int x1), some (.int x2), some (.int x3)] [] h r) (f : 0 ≤ x1 → tr_L g d m_X9_lowers 4 [some (.ref 1099), some (.int x1), some (.int x2), some (.int x3)] [] h r) : tr_L g d m_X9_lowers 0 [some (.ref 1099), some (.int x1), some (.int x2), some (.int x3)] [] h r := by
  refine tr_s (.iload_n 1) 1 1 [some (.ref 1099), some (.int x1), some (.int x2), some (.int x3)] [.int x1] h rfl rfl rfl ?_
  exact tr_if1 .lt 17 18 x1 rfl rfl rfl (fun hc => t ((tr_lt hc).1 rfl)) (fun hc => f ((tr_lt hc).2 rfl))
theorem sg_X9_lowers_4 {g : tr_g} {d : Nat} {h : ev_AH} {r : ev_O × ev_AH} {x1 x2 x3 : Int32} {j0 : Nat} (hL : hh_L h) (e0 : (4 * x1) + x2 = Int32.ofNat j0) (b0 : j0 < 140) (t : x3 < ((hh_a h 104).getD j0 0) → tr_L g d m_X9_lowers 20 [some (.ref 1099), some (.int x1), some (.int x2), some (.int x3)] [] h r) (f : ((hh_a h 104).getD j0 0) ≤ x3 → tr_L g d m_X9_lowers 18 [some (.ref 1099), some (.int x1), some (.int x2), some (.int x3)] [] h r) : tr_L g d m_X9_lowers 4 [some (.ref 1099), some (.int x1), some (.int x2), some (.int x3)] [] h r := by
  refine tr_s (.aload_n 0) 1 5 [some (.ref 1099), some (.int x1), some (.int x2), some (.int x3)] [.ref 1099] h rfl rfl rfl ?_
  refine tl_gr hL 22 99 8 4 104 [1100, 1101, 1102, 1103, 1104, 1105, 0, 0, 0, 0, 0, 0, 0, 0, 0, 0, 0, 0, 0, 0, 0, 1106, 0, 1107, 1108, 0, 0, 0] rfl rfl rfl rfl ?_
  refine tr_ic 4 4 (by decide) rfl ?_
  refine tr_s (.iload_n 1) 1 10 [some (.ref 1099), some (.int x1), some (.int x2), some (.int x3)] [.int x1, .int 4, .ref 1104] h rfl rfl rfl ?_
  refine tr_s .imul 1 11 [some (.ref 1099), some (.int x1), some (.int x2), some (.int x3)] [.int (4 * x1), .ref 1104] h rfl rfl rfl ?_
  refine tr_s (.iload_n 2) 1 12 [some (.ref 1099), some (.int x1), some (.int x2), some (.int x3)] [.int x2, .int (4 * x1), .ref 1104] h rfl rfl rfl ?_
  refine tr_s .iadd 1 13 [some (.ref 1099), some (.int x1), some (.int x2), some (.int x3)] [.int ((4 * x1) + x2), .ref 1104] h rfl rfl rfl ?_
  refine tl_ald hL .iaload 104 0 140 j0 ((4 * x1) + x2) rfl (by decide) rfl e0 b0 (by decide) ?_
  refine tr_s (.iload_n 3) 1 15 [some (.ref 1099), some (.int x1), some (.int x2), some (.int x3)] [.int x3, .int ((hh_a h 104).getD j0 0)] h rfl rfl rfl ?_
  exact tr_if2 .gt 5 20 ((hh_a h 104).getD j0 0) x3 rfl rfl rfl (fun hc => t ((tr_gt hc).1 rfl)) (fun hc => f ((tr_gt hc).2 rfl))
theorem sg_X9_lowers_18 {g : tr_g} {d : Nat} {h : ev_AH} {r : ev_O × ev_AH} {w0 w1 w2 w3 : Option Value} (hL : hh_L h) (hr : r = (.inl (some (.int 0)), h)) : tr_L g d m_X9_lowers 18 [w0, w1, w2, w3] [] h r := by
  refine tr_ic 0 0 (by decide) rfl ?_
  exact tl_ret hL .ireturn 1 (some (.int 0)) rfl rfl rfl rfl hr
theorem sg_X9_lowers_20 {g : tr_g} {d : Nat} {h : ev_AH} {r : ev_O × ev_AH} {x1 x2 x3 : Int32} {j0 : Nat} (hL : hh_L h) (e0 : (4 * x1) + x2 = Int32.ofNat j0) (b0 : j0 < 140) (hr : r = (.inl (some (.int 1)), hh_sa h 104 0 ((hh_a h 104).set j0 x3))) : tr_L g d m_X9_lowers 20 [some (.ref 1099), some (.int x1), some (.int x2), some (.int x3)] [] h r := by
  refine tr_s (.aload_n 0) 1 21 [some (.ref 1099), some (.int x1), some (.int x2), some (.int x3)] [.ref 1099] h rfl rfl rfl ?_
  refine tl_gr hL 22 99 8 4 104 [1100, 1101, 1102, 1103, 1104, 1105, 0, 0, 0, 0, 0, 0, 0, 0, 0, 0, 0, 0, 0, 0, 0, 1106, 0, 1107, 1108, 0, 0, 0] rfl rfl rfl rfl ?_
  refine tr_ic 4 4 (by decide) rfl ?_
  refine tr_s (.iload_n 1) 1 26 [some (.ref 1099), some (.int x1), some (.int x2), some (.int x3)] [.int x1, .int 4, .ref 1104] h rfl rfl rfl ?_
  refine tr_s .imul 1 27 [some (.ref 1099), some (.int x1), some (.int x2), some (.int x3)] [.int (4 * x1), .ref 1104] h rfl rfl rfl ?_
  refine tr_s (.iload_n 2) 1 28 [some (.ref 1099), some (.int x1), some (.int x2), some (.int x3)] [.int x2, .int (4 * x1), .ref 1104] h rfl rfl rfl ?_
  refine tr_s .iadd 1 29 [some (.ref 1099), some (.int x1), some (.int x2), some (.int x3)] [.int ((4 * x1) + x2), .ref 1104] h rfl rfl rfl ?_
  refine tr_s (.iload_n 3) 1 30 [some (.ref 1099), some (.int x1), some (.int x2), some (.int x3)] [.int x3, .int ((4 * x1) + x2), .ref 1104] h rfl rfl rfl ?_
  refine tl_ias hL 104 140 j0 ((4 * x1) + x2) x3 rfl rfl e0 b0 (by decide) ?_
  have hL0 := hh_L_ss (j := j0) (x := x3) hL (show hh_t[104]? = some (.inl (0, 140)) from rfl)
  refine tr_ic 1 1 (by decide) rfl ?_
  exact tl_ret hL0 .ireturn 1 (some (.int 1)) rfl rfl rfl rfl hr
theorem sg_X9_goesOn_0 {g : tr_g} {d : Nat} {h : ev_AH} {r : ev_O × ev_AH} {x1 : Int32} (hL : hh_L h) (k : tr_L g d m_X9_goesOn 4 [some (.ref 1099), some (.int x1), some (.int 0), some (.int 0), none, none, none] [] h r) : tr_L g d m_X9_goesOn 0 [some (.ref 1099), some (.int x1), none, none, none, none, none] [] h r := by
  refine tr_ic 0 0 (by decide) rfl ?_
  refine tr_st (.istore_n 2) 1 2 0 (.int 0) rfl rfl rfl rfl rfl rfl rfl ?_
  refine tr_ic 0 0 (by decide) rfl ?_
  refine tr_st (.istore_n 3) 1 3 0 (.int 0) rfl rfl rfl rfl rfl rfl rfl ?_
  exact k
theorem sg_X9_goesOn_4 {g : tr_g} {d : Nat} {h : ev_AH} {r : ev_O × ev_AH} {x1 x2 x3 : Int32} {w4 w5 w6 : Option Value} (hL : hh_L h) (t : 4 ≤ x3 → tr_L g d m_X9_goesOn 116 [some (.ref 1099), some (.int x1), some (.int x2), some (.int x3), w4, w5, w6] [] h r) (f : x3 < 4 → tr_L g d m_X9_goesOn 9 [some (.ref 1099), some (.int x1), some (.int x2), some (.int x3), w4, w5, w6] [] h r) : tr_L g d m_X9_goesOn 4 [some (.ref 1099), some (.int x1), some (.int x2), some (.int x3), w4, w5, w6] [] h r := by
  refine tr_s (.iload_n 3) 1 5 [some (.ref 1099), some (.int x1), some (.int x2), some (.int x3), w4, w5, w6] [.int x3] h rfl rfl rfl ?_
  refine tr_ic 4 4 (by decide) rfl ?_
  exact tr_if2 .ge 110 116 x3 4 rfl rfl rfl (fun hc => t ((tr_ge hc).1 rfl)) (fun hc => f ((tr_ge hc).2 rfl))
theorem sg_X9_goesOn_9 {g : tr_g} {d : Nat} {h : ev_AH} {r : ev_O × ev_AH} {x1 x2 x3 : Int32} {w4 w5 w6 : Option Value} (hL : hh_L h) (k : tr_L g d m_X9_goesOn 12 [some (.ref 1099), some (.int x1), some (.int x2), some (.int x3), some (.int 0), w5, w6] [] h r) : tr_L g d m_X9_goesOn 9 [some (.ref 1099), some (.int x1), some (.int x2), some (.int x3), w4, w5, w6] [] h r := by
  refine tr_ic 0 0 (by decide) rfl ?_
  refine tr_st (.istore 4) 2 4 0 (.int 0) rfl rfl rfl rfl rfl rfl rfl ?_
  exact k
theorem sg_X9_goesOn_12 {g : tr_g} {d : Nat} {h : ev_AH} {r : ev_O × ev_AH} {x1 x2 x3 x4 : Int32} {w5 w6 : Option Value} (hL : hh_L h) (t : 4 ≤ x4 → tr_L g d m_X9_goesOn 110 [some (.ref 1099), some (.int x1), some (.int x2), some (.int x3), some (.int x4), w5, w6] [] h r) (f : x4 < 4 → tr_L g d m_X9_goesOn 18 [some (.ref 1099), some (.int x1), some (.int x2), some (.int x3), some (.int x4), w5, w6] [] h r) : tr_L g d m_X9_goesOn 12 [some (.ref 1099), some (.int x1), some (.int x2), some (.int x3), some (.int x4), w5, w6] [] h r := by
  refine tr_s (.iload 4) 2 14 [some (.ref 1099), some (.int x1), some (.int x2), some (.int x3), some (.int x4), w5, w6] [.int x4] h rfl rfl rfl ?_
  refine tr_ic 4 4 (by decide) rfl ?_
  exact tr_if2 .ge 95 110 x4 4 rfl rfl rfl (fun hc => t ((tr_ge hc).1 rfl)) (fun hc => f ((tr_ge hc).2 rfl))
theorem sg_X9_goesOn_18 {g : tr_g} {d : Nat} {h : ev_AH} {r : ev_O × ev_AH} {x1 x2 x3 x4 : Int32} {w5 w6 : Option Value} (hL : hh_L h) (t : x4 ≠ ((x3 + 2) - (x3 + 2) / 4 * 4) → tr_L g d m_X9_goesOn 32 [some (.ref 1099), some (.int x1), some (.int x2), some (.int x3), some (.int x4), w5, w6] [] h r) (f : x4 = ((x3 + 2) - (x3 + 2) / 4 * 4) → tr_L g d m_X9_goesOn 28 [some (.ref 1099), some (.int x1), some (.int x2), some (.int x3), some (.int x4), w5, w6] [] h r) : tr_L g d m_X9_goesOn 18 [some (.ref 1099), some (.int x1), some (.int x2), some (.int x3), some (.int x4), w5, w6] [] h r := by
  refine tr_s (.iload 4) 2 20 [some (.ref 1099), some (.int x1), some (.int x2), some (.int x3), some (.int x4), w5, w6] [.int x4] h rfl rfl rfl ?_
  refine tr_s (.iload_n 3) 1 21 [some (.ref 1099), some (.int x1), some (.int x2), some (.int x3), some (.int x4), w5, w6] [.int x3, .int x4] h rfl rfl rfl ?_
  refine tr_ic 2 2 (by decide) rfl ?_
  refine tr_s .iadd 1 23 [some (.ref 1099), some (.int x1), some (.int x2), some (.int x3), some (.int x4), w5, w6] [.int (x3 + 2), .int x4] h rfl rfl rfl ?_
  refine tr_ic 4 4 (by decide) rfl ?_
  refine tr_s .irem 1 25 [some (.ref 1099), some (.int x1), some (.int x2), some (.int x3), some (.int x4), w5, w6] [.int ((x3 + 2) - (x3 + 2) / 4 * 4), .int x4] h rfl rfl rfl ?_
  exact tr_if2 .ne 7 32 x4 ((x3 + 2) - (x3 + 2) / 4 * 4) rfl rfl rfl (fun hc => t ((tr_ne hc).1 rfl)) (fun hc => f ((tr_ne hc).2 rfl))
theorem sg_X9_goesOn_28 {g : tr_g} {d : Nat} {h : ev_AH} {r : ev_O × ev_AH} {x1 x2 x3 x4 v0 : Int32} {w5 w6 : Option Value} {j0 : Nat} {h1 : ev_AH} (hL : hh_L h) (e0 : (4 * x1) + x3 = Int32.ofNat j0) (b0 : j0 < 140) (c_0 : tr_L g d m_X9_reflected 0 [some (.ref 1099), some (.int x1), some (.int x3)] [] h (.inl (some (.int v0)), h1)) (t : x4 ≠ v0 → tr_L g (d + 1) m_X9_goesOn 60 [some (.ref 1099), some (.int x1), some (.int x2), some (.int x3), some (.int x4), some (.int 1), w6] [.int ((hh_a h 104).getD j0 0)] h1 r) (f : x4 = v0 → tr_L g (d + 1) m_X9_goesOn 56 [some (.ref 1099), some (.int x1), some (.int x2), some (.int x3), some (.int x4), some (.int 1), w6] [.int ((hh_a h 104).getD j0 0)] h1 r) : tr_L g (d + 1) m_X9_goesOn 28 [some (.ref 1099), some (.int x1), some (.int x2), some (.int x3), some (.int x4), w5, w6] [] h r := by
  refine tr_ic 1 1 (by decide) rfl ?_
  refine tr_goto 4 33 rfl rfl rfl ?_
  refine tr_st (.istore 5) 2 5 0 (.int 1) rfl rfl rfl rfl rfl rfl rfl ?_
  refine tr_s (.aload_n 0) 1 36 [some (.ref 1099), some (.int x1), some (.int x2), some (.int x3), some (.int x4), some (.int 1), w6] [.ref 1099] h rfl rfl rfl ?_
  refine tl_gr hL 22 99 8 4 104 [1100, 1101, 1102, 1103, 1104, 1105, 0, 0, 0, 0, 0, 0, 0, 0, 0, 0, 0, 0, 0, 0, 0, 1106, 0, 1107, 1108, 0, 0, 0] rfl rfl rfl rfl ?_
  refine tr_ic 4 4 (by decide) rfl ?_
  refine tr_s (.iload_n 1) 1 41 [some (.ref 1099), some (.int x1), some (.int x2), some (.int x3), some (.int x4), some (.int 1), w6] [.int x1, .int 4, .ref 1104] h rfl rfl rfl ?_
  refine tr_s .imul 1 42 [some (.ref 1099), some (.int x1), some (.int x2), some (.int x3), some (.int x4), some (.int 1), w6] [.int (4 * x1), .ref 1104] h rfl rfl rfl ?_
  refine tr_s (.iload_n 3) 1 43 [some (.ref 1099), some (.int x1), some (.int x2), some (.int x3), some (.int x4), some (.int 1), w6] [.int x3, .int (4 * x1), .ref 1104] h rfl rfl rfl ?_
  refine tr_s .iadd 1 44 [some (.ref 1099), some (.int x1), some (.int x2), some (.int x3), some (.int x4), some (.int 1), w6] [.int ((4 * x1) + x3), .ref 1104] h rfl rfl rfl ?_
  refine tl_ald hL .iaload 104 0 140 j0 ((4 * x1) + x3) rfl (by decide) rfl e0 b0 (by decide) ?_
  refine tr_s (.iload 4) 2 47 [some (.ref 1099), some (.int x1), some (.int x2), some (.int x3), some (.int x4), some (.int 1), w6] [.int x4, .int ((hh_a h 104).getD j0 0)] h rfl rfl rfl ?_
  refine tr_s (.aload_n 0) 1 48 [some (.ref 1099), some (.int x1), some (.int x2), some (.int x3), some (.int x4), some (.int 1), w6] [.ref 1099, .int x4, .int ((hh_a h 104).getD j0 0)] h rfl rfl rfl ?_
  refine tr_s (.iload_n 1) 1 49 [some (.ref 1099), some (.int x1), some (.int x2), some (.int x3), some (.int x4), some (.int 1), w6] [.int x1, .ref 1099, .int x4, .int ((hh_a h 104).getD j0 0)] h rfl rfl rfl ?_
  refine tr_s (.iload_n 3) 1 50 [some (.ref 1099), some (.int x1), some (.int x2), some (.int x3), some (.int x4), some (.int 1), w6] [.int x3, .int x1, .ref 1099, .int x4, .int ((hh_a h 104).getD j0 0)] h rfl rfl rfl ?_
  refine tr_call (.invokevirtual 144) 144 0 2 8 m_X9_reflected [.ref 1099, .int x1, .int x3] [.int x4, .int ((hh_a h 104).getD j0 0)] (some (.int v0)) h1 rfl rfl rfl rfl rfl rfl rfl rfl rfl (tr_cok rfl (Or.inr ⟨_, _, rfl, tr_rc (hh_rd (hh_obj hL (k := 99) rfl).1) (by decide)⟩)) c_0 ?_
  have hL0 := c_0.2
  exact tr_if2 .ne 7 60 x4 v0 rfl rfl rfl (fun hc => t ((tr_ne hc).1 rfl)) (fun hc => f ((tr_ne hc).2 rfl))
theorem sg_X9_goesOn_32 {g : tr_g} {d : Nat} {h : ev_AH} {r : ev_O × ev_AH} {x1 x2 x3 x4 v0 : Int32} {w5 w6 : Option Value} {j0 : Nat} {h1 : ev_AH} (hL : hh_L h) (e0 : (4 * x1) + x3 = Int32.ofNat j0) (b0 : j0 < 140) (c_0 : tr_L g d m_X9_reflected 0 [some (.ref 1099), some (.int x1), some (.int x3)] [] h (.inl (some (.int v0)), h1)) (t : x4 ≠ v0 → tr_L g (d + 1) m_X9_goesOn 60 [some (.ref 1099), some (.int x1), some (.int x2), some (.int x3), some (.int x4), some (.int 0), w6] [.int ((hh_a h 104).getD j0 0)] h1 r) (f : x4 = v0 → tr_L g (d + 1) m_X9_goesOn 56 [some (.ref 1099), some (.int x1), some (.int x2), some (.int x3), some (.int x4), some (.int 0), w6] [.int ((hh_a h 104).getD j0 0)] h1 r) : tr_L g (d + 1) m_X9_goesOn 32 [some (.ref 1099), some (.int x1), some (.int x2), some (.int x3), some (.int x4), w5, w6] [] h r := by
  refine tr_ic 0 0 (by decide) rfl ?_
  refine tr_st (.istore 5) 2 5 0 (.int 0) rfl rfl rfl rfl rfl rfl rfl ?_
  refine tr_s (.aload_n 0) 1 36 [some (.ref 1099), some (.int x1), some (.int x2), some (.int x3), some (.int x4), some (.int 0), w6] [.ref 1099] h rfl rfl rfl ?_
  refine tl_gr hL 22 99 8 4 104 [1100, 1101, 1102, 1103, 1104, 1105, 0, 0, 0, 0, 0, 0, 0, 0, 0, 0, 0, 0, 0, 0, 0, 1106, 0, 1107, 1108, 0, 0, 0] rfl rfl rfl rfl ?_
  refine tr_ic 4 4 (by decide) rfl ?_
  refine tr_s (.iload_n 1) 1 41 [some (.ref 1099), some (.int x1), some (.int x2), some (.int x3), some (.int x4), some (.int 0), w6] [.int x1, .int 4, .ref 1104] h rfl rfl rfl ?_
  refine tr_s .imul 1 42 [some (.ref 1099), some (.int x1), some (.int x2), some (.int x3), some (.int x4), some (.int 0), w6] [.int (4 * x1), .ref 1104] h rfl rfl rfl ?_
  refine tr_s (.iload_n 3) 1 43 [some (.ref 1099), some (.int x1), some (.int x2), some (.int x3), some (.int x4), some (.int 0), w6] [.int x3, .int (4 * x1), .ref 1104] h rfl rfl rfl ?_
  refine tr_s .iadd 1 44 [some (.ref 1099), some (.int x1), some (.int x2), some (.int x3), some (.int x4), some (.int 0), w6] [.int ((4 * x1) + x3), .ref 1104] h rfl rfl rfl ?_
  refine tl_ald hL .iaload 104 0 140 j0 ((4 * x1) + x3) rfl (by decide) rfl e0 b0 (by decide) ?_
  refine tr_s (.iload 4) 2 47 [some (.ref 1099), some (.int x1), some (.int x2), some (.int x3), some (.int x4), some (.int 0), w6] [.int x4, .int ((hh_a h 104).getD j0 0)] h rfl rfl rfl ?_
  refine tr_s (.aload_n 0) 1 48 [some (.ref 1099), some (.int x1), some (.int x2), some (.int x3), some (.int x4), some (.int 0), w6] [.ref 1099, .int x4, .int ((hh_a h 104).getD j0 0)] h rfl rfl rfl ?_
  refine tr_s (.iload_n 1) 1 49 [some (.ref 1099), some (.int x1), some (.int x2), some (.int x3), some (.int x4), some (.int 0), w6] [.int x1, .ref 1099, .int x4, .int ((hh_a h 104).getD j0 0)] h rfl rfl rfl ?_
  refine tr_s (.iload_n 3) 1 50 [some (.ref 1099), some (.int x1), some (.int x2), some (.int x3), some (.int x4), some (.int 0), w6] [.int x3, .int x1, .ref 1099, .int x4, .int ((hh_a h 104).getD j0 0)] h rfl rfl rfl ?_
  refine tr_call (.invokevirtual 144) 144 0 2 8 m_X9_reflected [.ref 1099, .int x1, .int x3] [.int x4, .int ((hh_a h 104).getD j0 0)] (some (.int v0)) h1 rfl rfl rfl rfl rfl rfl rfl rfl rfl (tr_cok rfl (Or.inr ⟨_, _, rfl, tr_rc (hh_rd (hh_obj hL (k := 99) rfl).1) (by decide)⟩)) c_0 ?_
  have hL0 := c_0.2
  exact tr_if2 .ne 7 60 x4 v0 rfl rfl rfl (fun hc => t ((tr_ne hc).1 rfl)) (fun hc => f ((tr_ne hc).2 rfl))
theorem sg_X9_goesOn_56 {g : tr_g} {d : Nat} {h : ev_AH} {r : ev_O × ev_AH} {x1 x2 x3 x4 x5 s0 : Int32} {w6 : Option Value} (hL : hh_L h) (t : x5 ≠ 0 → tr_L g d m_X9_goesOn 104 [some (.ref 1099), some (.int x1), some (.int x2), some (.int x3), some (.int x4), some (.int x5), some (.int (s0 + 0))] [] h r) (f : x5 = 0 → tr_L g d m_X9_goesOn 69 [some (.ref 1099), some (.int x1), some (.int x2), some (.int x3), some (.int x4), some (.int x5), some (.int (s0 + 0))] [] h r) : tr_L g d m_X9_goesOn 56 [some (.ref 1099), some (.int x1), some (.int x2), some (.int x3), some (.int x4), some (.int x5), w6] [.int s0] h r := by
  refine tr_ic 0 0 (by decide) rfl ?_
  refine tr_goto 4 61 rfl rfl rfl ?_
  refine tr_s .iadd 1 62 [some (.ref 1099), some (.int x1), some (.int x2), some (.int x3), some (.int x4), some (.int x5), w6] [.int (s0 + 0)] h rfl rfl rfl ?_
  refine tr_st (.istore 6) 2 6 0 (.int (s0 + 0)) rfl rfl rfl rfl rfl rfl rfl ?_
  refine tr_s (.iload 5) 2 66 [some (.ref 1099), some (.int x1), some (.int x2), some (.int x3), some (.int x4), some (.int x5), some (.int (s0 + 0))] [.int x5] h rfl rfl rfl ?_
  exact tr_if1 .ne 38 104 x5 rfl rfl rfl (fun hc => t ((tr_ne hc).1 rfl)) (fun hc => f ((tr_ne hc).2 rfl))
theorem sg_X9_goesOn_60 {g : tr_g} {d : Nat} {h : ev_AH} {r : ev_O × ev_AH} {x1 x2 x3 x4 x5 s0 : Int32} {w6 : Option Value} (hL : hh_L h) (t : x5 ≠ 0 → tr_L g d m_X9_goesOn 104 [some (.ref 1099), some (.int x1), some (.int x2), some (.int x3), some (.int x4), some (.int x5), some (.int (s0 + 1))] [] h r) (f : x5 = 0 → tr_L g d m_X9_goesOn 69 [some (.ref 1099), some (.int x1), some (.int x2), some (.int x3), some (.int x4), some (.int x5), some (.int (s0 + 1))] [] h r) : tr_L g d m_X9_goesOn 60 [some (.ref 1099), some (.int x1), some (.int x2), some (.int x3), some (.int x4), some (.int x5), w6] [.int s0] h r := by
  refine tr_ic 1 1 (by decide) rfl ?_
  refine tr_s .iadd 1 62 [some (.ref 1099), some (.int x1), some (.int x2), some (.int x3), some (.int x4), some (.int x5), w6] [.int (s0 + 1)] h rfl rfl rfl ?_
  refine tr_st (.istore 6) 2 6 0 (.int (s0 + 1)) rfl rfl rfl rfl rfl rfl rfl ?_
  refine tr_s (.iload 5) 2 66 [some (.ref 1099), some (.int x1), some (.int x2), some (.int x3), some (.int x4), some (.int x5), some (.int (s0 + 1))] [.int x5] h rfl rfl rfl ?_
  exact tr_if1 .ne 38 104 x5 rfl rfl rfl (fun hc => t ((tr_ne hc).1 rfl)) (fun hc => f ((tr_ne hc).2 rfl))
theorem sg_X9_goesOn_69 {g : tr_g} {d : Nat} {h : ev_AH} {r : ev_O × ev_AH} {x1 x2 x3 x4 x6 : Int32} {w5 : Option Value} {j0 : Nat} (hL : hh_L h) (e0 : (4 * x1) + x3 = Int32.ofNat j0) (b0 : j0 < 140) (t : 9999 ≤ ((hh_a h 104).getD j0 0) → tr_L g d m_X9_goesOn 104 [some (.ref 1099), some (.int x1), some (.int x2), some (.int x3), some (.int x4), w5, some (.int x6)] [] h r) (f : ((hh_a h 104).getD j0 0) < 9999 → tr_L g d m_X9_goesOn 85 [some (.ref 1099), some (.int x1), some (.int x2), some (.int x3), some (.int x4), w5, some (.int x6)] [] h r) : tr_L g d m_X9_goesOn 69 [some (.ref 1099), some (.int x1), some (.int x2), some (.int x3), some (.int x4), w5, some (.int x6)] [] h r := by
  refine tr_s (.aload_n 0) 1 70 [some (.ref 1099), some (.int x1), some (.int x2), some (.int x3), some (.int x4), w5, some (.int x6)] [.ref 1099] h rfl rfl rfl ?_
  refine tl_gr hL 22 99 8 4 104 [1100, 1101, 1102, 1103, 1104, 1105, 0, 0, 0, 0, 0, 0, 0, 0, 0, 0, 0, 0, 0, 0, 0, 1106, 0, 1107, 1108, 0, 0, 0] rfl rfl rfl rfl ?_
  refine tr_ic 4 4 (by decide) rfl ?_
  refine tr_s (.iload_n 1) 1 75 [some (.ref 1099), some (.int x1), some (.int x2), some (.int x3), some (.int x4), w5, some (.int x6)] [.int x1, .int 4, .ref 1104] h rfl rfl rfl ?_
  refine tr_s .imul 1 76 [some (.ref 1099), some (.int x1), some (.int x2), some (.int x3), some (.int x4), w5, some (.int x6)] [.int (4 * x1), .ref 1104] h rfl rfl rfl ?_
  refine tr_s (.iload_n 3) 1 77 [some (.ref 1099), some (.int x1), some (.int x2), some (.int x3), some (.int x4), w5, some (.int x6)] [.int x3, .int (4 * x1), .ref 1104] h rfl rfl rfl ?_
  refine tr_s .iadd 1 78 [some (.ref 1099), some (.int x1), some (.int x2), some (.int x3), some (.int x4), w5, some (.int x6)] [.int ((4 * x1) + x3), .ref 1104] h rfl rfl rfl ?_
  refine tl_ald hL .iaload 104 0 140 j0 ((4 * x1) + x3) rfl (by decide) rfl e0 b0 (by decide) ?_
  refine tr_si 9999 9999 (by decide) rfl ?_
  exact tr_if2 .ge 22 104 ((hh_a h 104).getD j0 0) 9999 rfl rfl rfl (fun hc => t ((tr_ge hc).1 rfl)) (fun hc => f ((tr_ge hc).2 rfl))
theorem sg_X9_goesOn_85 {g : tr_g} {d : Nat} {h : ev_AH} {r : ev_O × ev_AH} {x1 x2 x3 x4 x6 v0 v1 : Int32} {w5 : Option Value} {h1 h2 : ev_AH} (hL : hh_L h) (c_0 : tr_L g d m_X9_next 0 [some (.int x1), some (.int x4), none, none] [] h (.inl (some (.int v0)), h1)) (c_1 : tr_L g d m_X9_lowers 0 [some (.ref 1099), some (.int v0), some (.int x4), some (.int x6)] [] h1 (.inl (some (.int v1)), h2)) (t : v1 = 0 → tr_L g (d + 1) m_X9_goesOn 104 [some (.ref 1099), some (.int x1), some (.int x2), some (.int x3), some (.int x4), w5, some (.int x6)] [] h2 r) (f : v1 ≠ 0 → tr_L g (d + 1) m_X9_goesOn 102 [some (.ref 1099), some (.int x1), some (.int x2), some (.int x3), some (.int x4), w5, some (.int x6)] [] h2 r) : tr_L g (d + 1) m_X9_goesOn 85 [some (.ref 1099), some (.int x1), some (.int x2), some (.int x3), some (.int x4), w5, some (.int x6)] [] h r := by
  refine tr_s (.aload_n 0) 1 86 [some (.ref 1099), some (.int x1), some (.int x2), some (.int x3), some (.int x4), w5, some (.int x6)] [.ref 1099] h rfl rfl rfl ?_
  refine tr_s (.iload_n 1) 1 87 [some (.ref 1099), some (.int x1), some (.int x2), some (.int x3), some (.int x4), w5, some (.int x6)] [.int x1, .ref 1099] h rfl rfl rfl ?_
  refine tr_s (.iload 4) 2 89 [some (.ref 1099), some (.int x1), some (.int x2), some (.int x3), some (.int x4), w5, some (.int x6)] [.int x4, .int x1, .ref 1099] h rfl rfl rfl ?_
  refine tr_call (.invokestatic 147) 147 2 2 0 m_X9_next [.int x1, .int x4] [.ref 1099] (some (.int v0)) h1 rfl rfl rfl rfl rfl rfl rfl rfl rfl (tr_cok rfl (Or.inl rfl)) c_0 ?_
  have hL0 := c_0.2
  refine tr_s (.iload 4) 2 94 [some (.ref 1099), some (.int x1), some (.int x2), some (.int x3), some (.int x4), w5, some (.int x6)] [.int x4, .int v0, .ref 1099] h1 rfl rfl rfl ?_
  refine tr_s (.iload 6) 2 96 [some (.ref 1099), some (.int x1), some (.int x2), some (.int x3), some (.int x4), w5, some (.int x6)] [.int x6, .int x4, .int v0, .ref 1099] h1 rfl rfl rfl ?_
  refine tr_call (.invokevirtual 166) 166 0 3 8 m_X9_lowers [.ref 1099, .int v0, .int x4, .int x6] [] (some (.int v1)) h2 rfl rfl rfl rfl rfl rfl rfl rfl rfl (tr_cok rfl (Or.inr ⟨_, _, rfl, tr_rc (hh_rd (hh_obj hL0 (k := 99) rfl).1) (by decide)⟩)) c_1 ?_
  have hL1 := c_1.2
  exact tr_if1 .eq 5 104 v1 rfl rfl rfl (fun hc => t ((tr_eq hc).1 rfl)) (fun hc => f ((tr_eq hc).2 rfl))
theorem sg_X9_goesOn_102 {g : tr_g} {d : Nat} {h : ev_AH} {r : ev_O × ev_AH} {x1 x3 x4 : Int32} {w2 w5 w6 : Option Value} (hL : hh_L h) (k : tr_L g d m_X9_goesOn 12 [some (.ref 1099), some (.int x1), some (.int 1), some (.int x3), some (.int (x4 + 1)), w5, w6] [] h r) : tr_L g d m_X9_goesOn 102 [some (.ref 1099), some (.int x1), w2, some (.int x3), some (.int x4), w5, w6] [] h r := by
  refine tr_ic 1 1 (by decide) rfl ?_
  refine tr_st (.istore_n 2) 1 2 0 (.int 1) rfl rfl rfl rfl rfl rfl rfl ?_
  refine tr_inc 4 1 x4 1 (by decide) rfl rfl rfl ?_
  refine tr_goto (-95) 12 rfl rfl rfl ?_
  exact k
theorem sg_X9_goesOn_104 {g : tr_g} {d : Nat} {h : ev_AH} {r : ev_O × ev_AH} {x1 x2 x3 x4 : Int32} {w5 w6 : Option Value} (hL : hh_L h) (k : tr_L g d m_X9_goesOn 12 [some (.ref 1099), some (.int x1), some (.int x2), some (.int x3), some (.int (x4 + 1)), w5, w6] [] h r) : tr_L g d m_X9_goesOn 104 [some (.ref 1099), some (.int x1), some (.int x2), some (.int x3), some (.int x4), w5, w6] [] h r := by
  refine tr_inc 4 1 x4 1 (by decide) rfl rfl rfl ?_
  refine tr_goto (-95) 12 rfl rfl rfl ?_
  exact k
theorem sg_X9_goesOn_110 {g : tr_g} {d : Nat} {h : ev_AH} {r : ev_O × ev_AH} {x1 x2 x3 : Int32} {w4 w5 w6 : Option Value} (hL : hh_L h) (k : tr_L g d m_X9_goesOn 4 [some (.ref 1099), some (.int x1), some (.int x2), some (.int (x3 + 1)), w4, w5, w6] [] h r) : tr_L g d m_X9_goesOn 110 [some (.ref 1099), some (.int x1), some (.int x2), some (.int x3), w4, w5, w6] [] h r := by
  refine tr_inc 3 1 x3 1 (by decide) rfl rfl rfl ?_
  refine tr_goto (-109) 4 rfl rfl rfl ?_
  exact k
theorem sg_X9_goesOn_116 {g : tr_g} {d : Nat} {h : ev_AH} {r : ev_O × ev_AH} {w0 w1 w3 w4 w5 w6 : Option Value} {x2 : Int32} (hL : hh_L h) (hb0 : x2 = 0 ∨ x2 = 1) (hr : r = (.inl (some (.int x2)), h)) : tr_L g d m_X9_goesOn 116 [w0, w1, some (.int x2), w3, w4, w5, w6] [] h r := by
  refine tr_s (.iload_n 2) 1 117 [w0, w1, some (.int x2), w3, w4, w5, w6] [.int x2] h rfl rfl rfl ?_
  exact tl_ret hL .ireturn 1 (some (.int x2)) rfl rfl rfl (tr_eb rfl hb0) hr
theorem sg_X9_leastEffortByRounds_0 {g : tr_g} {d : Nat} {h : ev_AH} {r : ev_O × ev_AH} {x1 x2 v0 : Int32} {h1 : ev_AH} (hL : hh_L h) (c_0 : tr_L g d m_X9_leastEffort 0 [some (.ref 1099), some (.int x1), some (.int x2), none] [] h (.inl (some (.int v0)), h1)) (hr : r = (.inl (some (.int v0)), h1)) : tr_L g (d + 1) m_X9_leastEffortByRounds 0 [some (.ref 1099), some (.int x1), some (.int x2)] [] h r := by
  refine tr_s (.aload_n 0) 1 1 [some (.ref 1099), some (.int x1), some (.int x2)] [.ref 1099] h rfl rfl rfl ?_
  refine tr_s (.iload_n 1) 1 2 [some (.ref 1099), some (.int x1), some (.int x2)] [.int x1, .ref 1099] h rfl rfl rfl ?_
  refine tr_s (.iload_n 2) 1 3 [some (.ref 1099), some (.int x1), some (.int x2)] [.int x2, .int x1, .ref 1099] h rfl rfl rfl ?_
  refine tr_call (.invokevirtual 175) 175 0 2 8 m_X9_leastEffort [.ref 1099, .int x1, .int x2] [] (some (.int v0)) h1 rfl rfl rfl rfl rfl rfl rfl rfl rfl (tr_cok rfl (Or.inr ⟨_, _, rfl, tr_rc (hh_rd (hh_obj hL (k := 99) rfl).1) (by decide)⟩)) c_0 ?_
  have hL0 := c_0.2
  exact tl_ret hL0 .ireturn 1 (some (.int v0)) rfl rfl rfl rfl hr
theorem sg_X9_portByLength_0 {g : tr_g} {d : Nat} {h : ev_AH} {r : ev_O × ev_AH} {x1 : Int32} (hL : hh_L h) (k : tr_L g d m_X9_portByLength 2 [some (.ref 1099), some (.int x1), some (.int 0), none, none, none] [] h r) : tr_L g d m_X9_portByLength 0 [some (.ref 1099), some (.int x1), none, none, none, none] [] h r := by
  refine tr_ic 0 0 (by decide) rfl ?_
  refine tr_st (.istore_n 2) 1 2 0 (.int 0) rfl rfl rfl rfl rfl rfl rfl ?_
  exact k
theorem sg_X9_portByLength_2 {g : tr_g} {d : Nat} {h : ev_AH} {r : ev_O × ev_AH} {x1 x2 : Int32} {w3 w4 w5 : Option Value} (hL : hh_L h) (t : 24 ≤ x2 → tr_L g d m_X9_portByLength 82 [some (.ref 1099), some (.int x1), some (.int x2), w3, w4, w5] [] h r) (f : x2 < 24 → tr_L g d m_X9_portByLength 8 [some (.ref 1099), some (.int x1), some (.int x2), w3, w4, w5] [] h r) : tr_L g d m_X9_portByLength 2 [some (.ref 1099), some (.int x1), some (.int x2), w3, w4, w5] [] h r := by
  refine tr_s (.iload_n 2) 1 3 [some (.ref 1099), some (.int x1), some (.int x2), w3, w4, w5] [.int x2] h rfl rfl rfl ?_
  refine tr_bi 24 24 (by decide) rfl ?_
  exact tr_if2 .ge 77 82 x2 24 rfl rfl rfl (fun hc => t ((tr_ge hc).1 rfl)) (fun hc => f ((tr_ge hc).2 rfl))
theorem sg_X9_portByLength_8 {g : tr_g} {d : Nat} {h : ev_AH} {r : ev_O × ev_AH} {x1 x2 : Int32} {w3 w4 w5 : Option Value} (hL : hh_L h) (k : tr_L g d m_X9_portByLength 13 [some (.ref 1099), some (.int x1), some (.int x2), some (.int 0), some (.int 0), w5] [] h r) : tr_L g d m_X9_portByLength 8 [some (.ref 1099), some (.int x1), some (.int x2), w3, w4, w5] [] h r := by
  refine tr_ic 0 0 (by decide) rfl ?_
  refine tr_st (.istore_n 3) 1 3 0 (.int 0) rfl rfl rfl rfl rfl rfl rfl ?_
  refine tr_ic 0 0 (by decide) rfl ?_
  refine tr_st (.istore 4) 2 4 0 (.int 0) rfl rfl rfl rfl rfl rfl rfl ?_
  exact k
theorem sg_X9_portByLength_13 {g : tr_g} {d : Nat} {h : ev_AH} {r : ev_O × ev_AH} {x1 x2 x3 x4 : Int32} {w5 : Option Value} (hL : hh_L h) (t : 24 ≤ x4 → tr_L g d m_X9_portByLength 64 [some (.ref 1099), some (.int x1), some (.int x2), some (.int x3), some (.int x4), w5] [] h r) (f : x4 < 24 → tr_L g d m_X9_portByLength 20 [some (.ref 1099), some (.int x1), some (.int x2), some (.int x3), some (.int x4), w5] [] h r) : tr_L g d m_X9_portByLength 13 [some (.ref 1099), some (.int x1), some (.int x2), some (.int x3), some (.int x4), w5] [] h r := by
  refine tr_s (.iload 4) 2 15 [some (.ref 1099), some (.int x1), some (.int x2), some (.int x3), some (.int x4), w5] [.int x4] h rfl rfl rfl ?_
  refine tr_bi 24 24 (by decide) rfl ?_
  exact tr_if2 .ge 47 64 x4 24 rfl rfl rfl (fun hc => t ((tr_ge hc).1 rfl)) (fun hc => f ((tr_ge hc).2 rfl))
theorem sg_X9_portByLength_20 {g : tr_g} {d : Nat} {h : ev_AH} {r : ev_O × ev_AH} {x1 x2 x3 x4 v0 v1 : Int32} {w5 : Option Value} {h1 h2 : ev_AH} (hL : hh_L h) (c_0 : tr_L g d m_X9_rayLengthOf 0 [some (.ref 1099), some (.int x4)] [] h (.inl (some (.int v0)), h1)) (c_1 : tr_L g d m_X9_rayLengthOf 0 [some (.ref 1099), some (.int x2)] [] h1 (.inl (some (.int v1)), h2)) (t : 0 < (v0 - v1) → tr_L g (d + 1) m_X9_portByLength 51 [some (.ref 1099), some (.int x1), some (.int x2), some (.int x3), some (.int x4), some (.int (v0 - v1))] [.int x3] h2 r) (f : (v0 - v1) ≤ 0 → tr_L g (d + 1) m_X9_portByLength 40 [some (.ref 1099), some (.int x1), some (.int x2), some (.int x3), some (.int x4), some (.int (v0 - v1))] [.int x3] h2 r) : tr_L g (d + 1) m_X9_portByLength 20 [some (.ref 1099), some (.int x1), some (.int x2), some (.int x3), some (.int x4), w5] [] h r := by
  refine tr_s (.aload_n 0) 1 21 [some (.ref 1099), some (.int x1), some (.int x2), some (.int x3), some (.int x4), w5] [.ref 1099] h rfl rfl rfl ?_
  refine tr_s (.iload 4) 2 23 [some (.ref 1099), some (.int x1), some (.int x2), some (.int x3), some (.int x4), w5] [.int x4, .ref 1099] h rfl rfl rfl ?_
  refine tr_call (.invokevirtual 178) 178 0 1 8 m_X9_rayLengthOf [.ref 1099, .int x4] [] (some (.int v0)) h1 rfl rfl rfl rfl rfl rfl rfl rfl rfl (tr_cok rfl (Or.inr ⟨_, _, rfl, tr_rc (hh_rd (hh_obj hL (k := 99) rfl).1) (by decide)⟩)) c_0 ?_
  have hL0 := c_0.2
  refine tr_s (.aload_n 0) 1 27 [some (.ref 1099), some (.int x1), some (.int x2), some (.int x3), some (.int x4), w5] [.ref 1099, .int v0] h1 rfl rfl rfl ?_
  refine tr_s (.iload_n 2) 1 28 [some (.ref 1099), some (.int x1), some (.int x2), some (.int x3), some (.int x4), w5] [.int x2, .ref 1099, .int v0] h1 rfl rfl rfl ?_
  refine tr_call (.invokevirtual 178) 178 0 1 8 m_X9_rayLengthOf [.ref 1099, .int x2] [.int v0] (some (.int v1)) h2 rfl rfl rfl rfl rfl rfl rfl rfl rfl (tr_cok rfl (Or.inr ⟨_, _, rfl, tr_rc (hh_rd (hh_obj hL0 (k := 99) rfl).1) (by decide)⟩)) c_1 ?_
  have hL1 := c_1.2
  refine tr_s .isub 1 32 [some (.ref 1099), some (.int x1), some (.int x2), some (.int x3), some (.int x4), w5] [.int (v0 - v1)] h2 rfl rfl rfl ?_
  refine tr_st (.istore 5) 2 5 0 (.int (v0 - v1)) rfl rfl rfl rfl rfl rfl rfl ?_
  refine tr_s (.iload_n 3) 1 35 [some (.ref 1099), some (.int x1), some (.int x2), some (.int x3), some (.int x4), some (.int (v0 - v1))] [.int x3] h2 rfl rfl rfl ?_
  refine tr_s (.iload 5) 2 37 [some (.ref 1099), some (.int x1), some (.int x2), some (.int x3), some (.int x4), some (.int (v0 - v1))] [.int (v0 - v1), .int x3] h2 rfl rfl rfl ?_
  exact tr_if1 .gt 14 51 (v0 - v1) rfl rfl rfl (fun hc => t ((tr_gt hc).1 rfl)) (fun hc => f ((tr_gt hc).2 rfl))
theorem sg_X9_portByLength_40 {g : tr_g} {d : Nat} {h : ev_AH} {r : ev_O × ev_AH} {x1 x2 x4 x5 s0 : Int32} {w3 : Option Value} (hL : hh_L h) (t : x5 ≠ 0 → tr_L g d m_X9_portByLength 55 [some (.ref 1099), some (.int x1), some (.int x2), w3, some (.int x4), some (.int x5)] [.int s0] h r) (f : x5 = 0 → tr_L g d m_X9_portByLength 45 [some (.ref 1099), some (.int x1), some (.int x2), w3, some (.int x4), some (.int x5)] [.int s0] h r) : tr_L g d m_X9_portByLength 40 [some (.ref 1099), some (.int x1), some (.int x2), w3, some (.int x4), some (.int x5)] [.int s0] h r := by
  refine tr_s (.iload 5) 2 42 [some (.ref 1099), some (.int x1), some (.int x2), w3, some (.int x4), some (.int x5)] [.int x5, .int s0] h rfl rfl rfl ?_
  exact tr_if1 .ne 13 55 x5 rfl rfl rfl (fun hc => t ((tr_ne hc).1 rfl)) (fun hc => f ((tr_ne hc).2 rfl))
theorem sg_X9_portByLength_45 {g : tr_g} {d : Nat} {h : ev_AH} {r : ev_O × ev_AH} {x1 x2 x4 s0 : Int32} {w3 w5 : Option Value} (hL : hh_L h) (t : x2 ≤ x4 → tr_L g d m_X9_portByLength 55 [some (.ref 1099), some (.int x1), some (.int x2), w3, some (.int x4), w5] [.int s0] h r) (f : x4 < x2 → tr_L g d m_X9_portByLength 51 [some (.ref 1099), some (.int x1), some (.int x2), w3, some (.int x4), w5] [.int s0] h r) : tr_L g d m_X9_portByLength 45 [some (.ref 1099), some (.int x1), some (.int x2), w3, some (.int x4), w5] [.int s0] h r := by
  refine tr_s (.iload 4) 2 47 [some (.ref 1099), some (.int x1), some (.int x2), w3, some (.int x4), w5] [.int x4, .int s0] h rfl rfl rfl ?_
  refine tr_s (.iload_n 2) 1 48 [some (.ref 1099), some (.int x1), some (.int x2), w3, some (.int x4), w5] [.int x2, .int x4, .int s0] h rfl rfl rfl ?_
  exact tr_if2 .ge 7 55 x4 x2 rfl rfl rfl (fun hc => t ((tr_ge hc).1 rfl)) (fun hc => f ((tr_ge hc).2 rfl))
theorem sg_X9_portByLength_51 {g : tr_g} {d : Nat} {h : ev_AH} {r : ev_O × ev_AH} {x1 x2 x4 s0 : Int32} {w3 w5 : Option Value} (hL : hh_L h) (k : tr_L g d m_X9_portByLength 13 [some (.ref 1099), some (.int x1), some (.int x2), some (.int (s0 + 1)), some (.int (x4 + 1)), w5] [] h r) : tr_L g d m_X9_portByLength 51 [some (.ref 1099), some (.int x1), some (.int x2), w3, some (.int x4), w5] [.int s0] h r := by
  refine tr_ic 1 1 (by decide) rfl ?_
  refine tr_goto 4 56 rfl rfl rfl ?_
  refine tr_s .iadd 1 57 [some (.ref 1099), some (.int x1), some (.int x2), w3, some (.int x4), w5] [.int (s0 + 1)] h rfl rfl rfl ?_
  refine tr_st (.istore_n 3) 1 3 0 (.int (s0 + 1)) rfl rfl rfl rfl rfl rfl rfl ?_
  refine tr_inc 4 1 x4 1 (by decide) rfl rfl rfl ?_
  refine tr_goto (-48) 13 rfl rfl rfl ?_
  exact k
theorem sg_X9_portByLength_55 {g : tr_g} {d : Nat} {h : ev_AH} {r : ev_O × ev_AH} {x1 x2 x4 s0 : Int32} {w3 w5 : Option Value} (hL : hh_L h) (k : tr_L g d m_X9_portByLength 13 [some (.ref 1099), some (.int x1), some (.int x2), some (.int (s0 + 0)), some (.int (x4 + 1)), w5] [] h r) : tr_L g d m_X9_portByLength 55 [some (.ref 1099), some (.int x1), some (.int x2), w3, some (.int x4), w5] [.int s0] h r := by
  refine tr_ic 0 0 (by decide) rfl ?_
  refine tr_s .iadd 1 57 [some (.ref 1099), some (.int x1), some (.int x2), w3, some (.int x4), w5] [.int (s0 + 0)] h rfl rfl rfl ?_
  refine tr_st (.istore_n 3) 1 3 0 (.int (s0 + 0)) rfl rfl rfl rfl rfl rfl rfl ?_
  refine tr_inc 4 1 x4 1 (by decide) rfl rfl rfl ?_
  refine tr_goto (-48) 13 rfl rfl rfl ?_
  exact k
theorem sg_X9_portByLength_64 {g : tr_g} {d : Nat} {h : ev_AH} {r : ev_O × ev_AH} {x1 x2 x3 : Int32} {w4 w5 : Option Value} (hL : hh_L h) (t : x3 ≠ x1 → tr_L g d m_X9_portByLength 76 [some (.ref 1099), some (.int x1), some (.int x2), some (.int x3), w4, w5] [] h r) (f : x3 = x1 → tr_L g d m_X9_portByLength 69 [some (.ref 1099), some (.int x1), some (.int x2), some (.int x3), w4, w5] [] h r) : tr_L g d m_X9_portByLength 64 [some (.ref 1099), some (.int x1), some (.int x2), some (.int x3), w4, w5] [] h r := by
  refine tr_s (.iload_n 3) 1 65 [some (.ref 1099), some (.int x1), some (.int x2), some (.int x3), w4, w5] [.int x3] h rfl rfl rfl ?_
  refine tr_s (.iload_n 1) 1 66 [some (.ref 1099), some (.int x1), some (.int x2), some (.int x3), w4, w5] [.int x1, .int x3] h rfl rfl rfl ?_
  exact tr_if2 .ne 10 76 x3 x1 rfl rfl rfl (fun hc => t ((tr_ne hc).1 rfl)) (fun hc => f ((tr_ne hc).2 rfl))
theorem sg_X9_portByLength_69 {g : tr_g} {d : Nat} {h : ev_AH} {r : ev_O × ev_AH} {w1 w3 w4 w5 : Option Value} {x2 : Int32} (hL : hh_L h) (hr : r = (.inl (some (.int x2)), hh_si h 99 8 7 0)) : tr_L g d m_X9_portByLength 69 [some (.ref 1099), w1, some (.int x2), w3, w4, w5] [] h r := by
  refine tr_s (.aload_n 0) 1 70 [some (.ref 1099), w1, some (.int x2), w3, w4, w5] [.ref 1099] h rfl rfl rfl ?_
  refine tr_ic 0 0 (by decide) rfl ?_
  refine tl_pf hL 41 99 8 7 [1100, 1101, 1102, 1103, 1104, 1105, 0, 0, 0, 0, 0, 0, 0, 0, 0, 0, 0, 0, 0, 0, 0, 1106, 0, 1107, 1108, 0, 0, 0] 0 .int rfl rfl rfl rfl rfl tr_oki ?_
  have hL0 := hh_L_si (sl := 7) (x := 0) hL (show hh_t[99]? = some (.inr (8, [1100, 1101, 1102, 1103, 1104, 1105, 0, 0, 0, 0, 0, 0, 0, 0, 0, 0, 0, 0, 0, 0, 0, 1106, 0, 1107, 1108, 0, 0, 0])) from rfl) rfl
  refine tr_s (.iload_n 2) 1 75 [some (.ref 1099), w1, some (.int x2), w3, w4, w5] [.int x2] (hh_si h 99 8 7 0) rfl rfl rfl ?_
  exact tl_ret hL0 .ireturn 1 (some (.int x2)) rfl rfl rfl rfl hr
theorem sg_X9_portByLength_76 {g : tr_g} {d : Nat} {h : ev_AH} {r : ev_O × ev_AH} {x1 x2 : Int32} {w3 w4 w5 : Option Value} (hL : hh_L h) (k : tr_L g d m_X9_portByLength 2 [some (.ref 1099), some (.int x1), some (.int (x2 + 1)), w3, w4, w5] [] h r) : tr_L g d m_X9_portByLength 76 [some (.ref 1099), some (.int x1), some (.int x2), w3, w4, w5] [] h r := by
  refine tr_inc 2 1 x2 1 (by decide) rfl rfl rfl ?_
  refine tr_goto (-77) 2 rfl rfl rfl ?_
  exact k
theorem sg_X9_portByLength_82 {g : tr_g} {d : Nat} {h : ev_AH} {r : ev_O × ev_AH} {w1 w2 w3 w4 w5 : Option Value} (hL : hh_L h) (hr : r = (.inl (some (.int 0)), hh_si h 99 8 7 1)) : tr_L g d m_X9_portByLength 82 [some (.ref 1099), w1, w2, w3, w4, w5] [] h r := by
  refine tr_s (.aload_n 0) 1 83 [some (.ref 1099), w1, w2, w3, w4, w5] [.ref 1099] h rfl rfl rfl ?_
  refine tr_ic 1 1 (by decide) rfl ?_
  refine tl_pf hL 41 99 8 7 [1100, 1101, 1102, 1103, 1104, 1105, 0, 0, 0, 0, 0, 0, 0, 0, 0, 0, 0, 0, 0, 0, 0, 1106, 0, 1107, 1108, 0, 0, 0] 1 .int rfl rfl rfl rfl rfl tr_oki ?_
  have hL0 := hh_L_si (sl := 7) (x := 1) hL (show hh_t[99]? = some (.inr (8, [1100, 1101, 1102, 1103, 1104, 1105, 0, 0, 0, 0, 0, 0, 0, 0, 0, 0, 0, 0, 0, 0, 0, 1106, 0, 1107, 1108, 0, 0, 0])) from rfl) rfl
  refine tr_ic 0 0 (by decide) rfl ?_
  exact tl_ret hL0 .ireturn 1 (some (.int 0)) rfl rfl rfl rfl hr
theorem sg_X9_rayLengthOf_0 {g : tr_g} {d : Nat} {h : ev_AH} {r : ev_O × ev_AH} {x1 : Int32} {h1 : ev_AH} (hL : hh_L h) (c_0 : tr_L g d m_X9_shines 0 [some (.ref 1099), some (.int x1), none, none, none] [] h (.inl none, h1)) (hr : r = (.inl (some (.int (hh_i h1 99 17))), h1)) : tr_L g (d + 1) m_X9_rayLengthOf 0 [some (.ref 1099), some (.int x1)] [] h r := by
  refine tr_s (.aload_n 0) 1 1 [some (.ref 1099), some (.int x1)] [.ref 1099] h rfl rfl rfl ?_
  refine tr_s (.iload_n 1) 1 2 [some (.ref 1099), some (.int x1)] [.int x1, .ref 1099] h rfl rfl rfl ?_
  refine tr_call (.invokevirtual 156) 156 0 1 8 m_X9_shines [.ref 1099, .int x1] [] none h1 rfl rfl rfl rfl rfl rfl rfl rfl rfl (tr_cok rfl (Or.inr ⟨_, _, rfl, tr_rc (hh_rd (hh_obj hL (k := 99) rfl).1) (by decide)⟩)) c_0 ?_
  have hL0 := c_0.2
  refine tr_s (.aload_n 0) 1 6 [some (.ref 1099), some (.int x1)] [.ref 1099] h1 rfl rfl rfl ?_
  refine tl_gi hL0 135 99 8 17 [1100, 1101, 1102, 1103, 1104, 1105, 0, 0, 0, 0, 0, 0, 0, 0, 0, 0, 0, 0, 0, 0, 0, 1106, 0, 1107, 1108, 0, 0, 0] rfl rfl rfl rfl ?_
  exact tl_ret hL0 .ireturn 1 (some (.int (hh_i h1 99 17))) rfl rfl rfl rfl hr
theorem sg_X9_testify_0 {g : tr_g} {d : Nat} {h : ev_AH} {r : ev_O × ev_AH} {x1 x2 v0 v1 : Int32} {h1 h2 h3 : ev_AH} (hL : hh_L h) (c_0 : tr_L g d m_X9_keeps 0 [some (.ref 1099)] [] h (.inl none, h1)) (c_1 : tr_L g d m_X9_says 0 [some (.ref 1099), some (.int x1), some (.int x2), none] [] h1 (.inl (some (.int v0)), h2)) (c_2 : tr_L g d m_X9_ends 0 [some (.ref 1099), some (.int v0), none] [] h2 (.inl (some (.int v1)), h3)) (hr : r = (.inl (some (.int v1)), h3)) : tr_L g (d + 1) m_X9_testify 0 [some (.ref 1099), some (.int x1), some (.int x2)] [] h r := by
  refine tr_s (.aload_n 0) 1 1 [some (.ref 1099), some (.int x1), some (.int x2)] [.ref 1099] h rfl rfl rfl ?_
  refine tr_call (.invokevirtual 100) 100 0 0 8 m_X9_keeps [.ref 1099] [] none h1 rfl rfl rfl rfl rfl rfl rfl rfl rfl (tr_cok rfl (Or.inr ⟨_, _, rfl, tr_rc (hh_rd (hh_obj hL (k := 99) rfl).1) (by decide)⟩)) c_0 ?_
  have hL0 := c_0.2
  refine tr_s (.aload_n 0) 1 5 [some (.ref 1099), some (.int x1), some (.int x2)] [.ref 1099] h1 rfl rfl rfl ?_
  refine tr_s (.aload_n 0) 1 6 [some (.ref 1099), some (.int x1), some (.int x2)] [.ref 1099, .ref 1099] h1 rfl rfl rfl ?_
  refine tr_s (.iload_n 1) 1 7 [some (.ref 1099), some (.int x1), some (.int x2)] [.int x1, .ref 1099, .ref 1099] h1 rfl rfl rfl ?_
  refine tr_s (.iload_n 2) 1 8 [some (.ref 1099), some (.int x1), some (.int x2)] [.int x2, .int x1, .ref 1099, .ref 1099] h1 rfl rfl rfl ?_
  refine tr_call (.invokevirtual 181) 181 0 2 8 m_X9_says [.ref 1099, .int x1, .int x2] [.ref 1099] (some (.int v0)) h2 rfl rfl rfl rfl rfl rfl rfl rfl rfl (tr_cok rfl (Or.inr ⟨_, _, rfl, tr_rc (hh_rd (hh_obj hL0 (k := 99) rfl).1) (by decide)⟩)) c_1 ?_
  have hL1 := c_1.2
  refine tr_call (.invokevirtual 107) 107 0 1 8 m_X9_ends [.ref 1099, .int v0] [] (some (.int v1)) h3 rfl rfl rfl rfl rfl rfl rfl rfl rfl (tr_cok rfl (Or.inr ⟨_, _, rfl, tr_rc (hh_rd (hh_obj hL1 (k := 99) rfl).1) (by decide)⟩)) c_2 ?_
  have hL2 := c_2.2
  exact tl_ret hL2 .ireturn 1 (some (.int v1)) rfl rfl rfl rfl hr
theorem sg_X9_says_0 {g : tr_g} {d : Nat} {h : ev_AH} {r : ev_O × ev_AH} {x1 x2 v0 : Int32} {h1 : ev_AH} (hL : hh_L h) (c_0 : tr_L g d m_X9_isPort 0 [some (.int x1)] [] h (.inl (some (.int v0)), h1)) (t : v0 = 0 → tr_L g (d + 1) m_X9_says 15 [some (.ref 1099), some (.int x1), some (.int x2), none] [.ref 1099] h1 r) (f : v0 ≠ 0 → tr_L g (d + 1) m_X9_says 8 [some (.ref 1099), some (.int x1), some (.int x2), none] [.ref 1099] h1 r) : tr_L g (d + 1) m_X9_says 0 [some (.ref 1099), some (.int x1), some (.int x2), none] [] h r := by
  refine tr_s (.aload_n 0) 1 1 [some (.ref 1099), some (.int x1), some (.int x2), none] [.ref 1099] h rfl rfl rfl ?_
  refine tr_s (.iload_n 1) 1 2 [some (.ref 1099), some (.int x1), some (.int x2), none] [.int x1, .ref 1099] h rfl rfl rfl ?_
  refine tr_call (.invokestatic 153) 153 2 1 0 m_X9_isPort [.int x1] [.ref 1099] (some (.int v0)) h1 rfl rfl rfl rfl rfl rfl rfl rfl rfl (tr_cok rfl (Or.inl rfl)) c_0 ?_
  have hL0 := c_0.2
  exact tr_if1 .eq 10 15 v0 rfl rfl rfl (fun hc => t ((tr_eq hc).1 rfl)) (fun hc => f ((tr_eq hc).2 rfl))
theorem sg_X9_says_8 {g : tr_g} {d : Nat} {h : ev_AH} {r : ev_O × ev_AH} {x1 x2 v0 : Int32} {w3 : Option Value} {h1 : ev_AH} (hL : hh_L h) (c_0 : tr_L g d m_X9_isOption 0 [some (.int x2)] [] h (.inl (some (.int v0)), h1)) (t : v0 ≠ 0 → tr_L g (d + 1) m_X9_says 19 [some (.ref 1099), some (.int x1), some (.int x2), w3] [.ref 1099] h1 r) (f : v0 = 0 → tr_L g (d + 1) m_X9_says 15 [some (.ref 1099), some (.int x1), some (.int x2), w3] [.ref 1099] h1 r) : tr_L g (d + 1) m_X9_says 8 [some (.ref 1099), some (.int x1), some (.int x2), w3] [.ref 1099] h r := by
  refine tr_s (.iload_n 2) 1 9 [some (.ref 1099), some (.int x1), some (.int x2), w3] [.int x2, .ref 1099] h rfl rfl rfl ?_
  refine tr_call (.invokestatic 78) 78 2 1 0 m_X9_isOption [.int x2] [.ref 1099] (some (.int v0)) h1 rfl rfl rfl rfl rfl rfl rfl rfl rfl (tr_cok rfl (Or.inl rfl)) c_0 ?_
  have hL0 := c_0.2
  exact tr_if1 .ne 7 19 v0 rfl rfl rfl (fun hc => t ((tr_ne hc).1 rfl)) (fun hc => f ((tr_ne hc).2 rfl))
theorem sg_X9_says_15 {g : tr_g} {d : Nat} {h : ev_AH} {r : ev_O × ev_AH} {x1 x2 v0 : Int32} {w3 : Option Value} {h1 : ev_AH} (hL : hh_L h) (c_0 : tr_L g d m_X9_isThrown 0 [some (.ref 1099), some (.int 1), some (.int 1)] [] h (.inl (some (.int v0)), h1)) (t : v0 = 0 → tr_L g (d + 1) m_X9_says 29 [some (.ref 1099), some (.int x1), some (.int x2), w3] [] h1 r) (f : v0 ≠ 0 → tr_L g (d + 1) m_X9_says 27 [some (.ref 1099), some (.int x1), some (.int x2), w3] [] h1 r) : tr_L g (d + 1) m_X9_says 15 [some (.ref 1099), some (.int x1), some (.int x2), w3] [.ref 1099] h r := by
  refine tr_ic 1 1 (by decide) rfl ?_
  refine tr_goto 4 20 rfl rfl rfl ?_
  refine tr_ic 1 1 (by decide) rfl ?_
  refine tr_call (.invokevirtual 66) 66 0 2 8 m_X9_isThrown [.ref 1099, .int 1, .int 1] [] (some (.int v0)) h1 rfl rfl rfl rfl rfl rfl rfl rfl rfl (tr_cok rfl (Or.inr ⟨_, _, rfl, tr_rc (hh_rd (hh_obj hL (k := 99) rfl).1) (by decide)⟩)) c_0 ?_
  have hL0 := c_0.2
  exact tr_if1 .eq 5 29 v0 rfl rfl rfl (fun hc => t ((tr_eq hc).1 rfl)) (fun hc => f ((tr_eq hc).2 rfl))
theorem sg_X9_says_19 {g : tr_g} {d : Nat} {h : ev_AH} {r : ev_O × ev_AH} {x1 x2 v0 : Int32} {w3 : Option Value} {h1 : ev_AH} (hL : hh_L h) (c_0 : tr_L g d m_X9_isThrown 0 [some (.ref 1099), some (.int 0), some (.int 1)] [] h (.inl (some (.int v0)), h1)) (t : v0 = 0 → tr_L g (d + 1) m_X9_says 29 [some (.ref 1099), some (.int x1), some (.int x2), w3] [] h1 r) (f : v0 ≠ 0 → tr_L g (d + 1) m_X9_says 27 [some (.ref 1099), some (.int x1), some (.int x2), w3] [] h1 r) : tr_L g (d + 1) m_X9_says 19 [some (.ref 1099), some (.int x1), some (.int x2), w3] [.ref 1099] h r := by
  refine tr_ic 0 0 (by decide) rfl ?_
  refine tr_ic 1 1 (by decide) rfl ?_
  refine tr_call (.invokevirtual 66) 66 0 2 8 m_X9_isThrown [.ref 1099, .int 0, .int 1] [] (some (.int v0)) h1 rfl rfl rfl rfl rfl rfl rfl rfl rfl (tr_cok rfl (Or.inr ⟨_, _, rfl, tr_rc (hh_rd (hh_obj hL (k := 99) rfl).1) (by decide)⟩)) c_0 ?_
  have hL0 := c_0.2
  exact tr_if1 .eq 5 29 v0 rfl rfl rfl (fun hc => t ((tr_eq hc).1 rfl)) (fun hc => f ((tr_eq hc).2 rfl))
theorem sg_X9_says_27 {g : tr_g} {d : Nat} {h : ev_AH} {r : ev_O × ev_AH} {w0 w1 w2 w3 : Option Value} (hL : hh_L h) (hr : r = (.inl (some (.int 0)), h)) : tr_L g d m_X9_says 27 [w0, w1, w2, w3] [] h r := by
  refine tr_ic 0 0 (by decide) rfl ?_
  exact tl_ret hL .ireturn 1 (some (.int 0)) rfl rfl rfl rfl hr
theorem sg_X9_says_29 {g : tr_g} {d : Nat} {h : ev_AH} {r : ev_O × ev_AH} {x1 x2 : Int32} {w3 : Option Value} {h1 : ev_AH} (hL : hh_L h) (c_0 : tr_L g d m_X9_shines 0 [some (.ref 1099), some (.int x1), none, none, none] [] h (.inl none, h1)) (t : 0 ≤ (hh_i h1 99 15) → tr_L g (d + 1) m_X9_says 46 [some (.ref 1099), some (.int x1), some (.int x2), w3] [.ref 1099] h1 r) (f : (hh_i h1 99 15) < 0 → tr_L g (d + 1) m_X9_says 42 [some (.ref 1099), some (.int x1), some (.int x2), w3] [.ref 1099] h1 r) : tr_L g (d + 1) m_X9_says 29 [some (.ref 1099), some (.int x1), some (.int x2), w3] [] h r := by
  refine tr_s (.aload_n 0) 1 30 [some (.ref 1099), some (.int x1), some (.int x2), w3] [.ref 1099] h rfl rfl rfl ?_
  refine tr_s (.iload_n 1) 1 31 [some (.ref 1099), some (.int x1), some (.int x2), w3] [.int x1, .ref 1099] h rfl rfl rfl ?_
  refine tr_call (.invokevirtual 156) 156 0 1 8 m_X9_shines [.ref 1099, .int x1] [] none h1 rfl rfl rfl rfl rfl rfl rfl rfl rfl (tr_cok rfl (Or.inr ⟨_, _, rfl, tr_rc (hh_rd (hh_obj hL (k := 99) rfl).1) (by decide)⟩)) c_0 ?_
  have hL0 := c_0.2
  refine tr_s (.aload_n 0) 1 35 [some (.ref 1099), some (.int x1), some (.int x2), w3] [.ref 1099] h1 rfl rfl rfl ?_
  refine tr_s (.aload_n 0) 1 36 [some (.ref 1099), some (.int x1), some (.int x2), w3] [.ref 1099, .ref 1099] h1 rfl rfl rfl ?_
  refine tl_gi hL0 141 99 8 15 [1100, 1101, 1102, 1103, 1104, 1105, 0, 0, 0, 0, 0, 0, 0, 0, 0, 0, 0, 0, 0, 0, 0, 1106, 0, 1107, 1108, 0, 0, 0] rfl rfl rfl rfl ?_
  exact tr_if1 .ge 7 46 (hh_i h1 99 15) rfl rfl rfl (fun hc => t ((tr_ge hc).1 rfl)) (fun hc => f ((tr_ge hc).2 rfl))
theorem sg_X9_says_42 {g : tr_g} {d : Nat} {h : ev_AH} {r : ev_O × ev_AH} {w1 w3 : Option Value} {x2 v0 : Int32} {h1 : ev_AH} (hL : hh_L h) (c_0 : tr_L g d m_X9_isRejected 0 [some (.ref 1099), some (.int 1), some (.int 3), some (.int (hh_i h 99 16)), some (.int 2)] [] h (.inl (some (.int v0)), h1)) (t : v0 = 0 → tr_L g (d + 1) m_X9_says 61 [some (.ref 1099), w1, some (.int x2), w3] [] h1 r) (f : v0 ≠ 0 → tr_L g (d + 1) m_X9_says 59 [some (.ref 1099), w1, some (.int x2), w3] [] h1 r) : tr_L g (d + 1) m_X9_says 42 [some (.ref 1099), w1, some (.int x2), w3] [.ref 1099] h r := by
  refine tr_ic 1 1 (by decide) rfl ?_
  refine tr_goto 4 47 rfl rfl rfl ?_
  refine tr_ic 3 3 (by decide) rfl ?_
  refine tr_s (.aload_n 0) 1 49 [some (.ref 1099), w1, some (.int x2), w3] [.ref 1099, .int 3, .int 1, .ref 1099] h rfl rfl rfl ?_
  refine tl_gi hL 150 99 8 16 [1100, 1101, 1102, 1103, 1104, 1105, 0, 0, 0, 0, 0, 0, 0, 0, 0, 0, 0, 0, 0, 0, 0, 1106, 0, 1107, 1108, 0, 0, 0] rfl rfl rfl rfl ?_
  refine tr_ic 2 2 (by decide) rfl ?_
  refine tr_call (.invokevirtual 88) 88 0 4 8 m_X9_isRejected [.ref 1099, .int 1, .int 3, .int (hh_i h 99 16), .int 2] [] (some (.int v0)) h1 rfl rfl rfl rfl rfl rfl rfl rfl rfl (tr_cok rfl (Or.inr ⟨_, _, rfl, tr_rc (hh_rd (hh_obj hL (k := 99) rfl).1) (by decide)⟩)) c_0 ?_
  have hL0 := c_0.2
  exact tr_if1 .eq 5 61 v0 rfl rfl rfl (fun hc => t ((tr_eq hc).1 rfl)) (fun hc => f ((tr_eq hc).2 rfl))
theorem sg_X9_says_46 {g : tr_g} {d : Nat} {h : ev_AH} {r : ev_O × ev_AH} {w1 w3 : Option Value} {x2 v0 : Int32} {h1 : ev_AH} (hL : hh_L h) (c_0 : tr_L g d m_X9_isRejected 0 [some (.ref 1099), some (.int 0), some (.int 3), some (.int (hh_i h 99 16)), some (.int 2)] [] h (.inl (some (.int v0)), h1)) (t : v0 = 0 → tr_L g (d + 1) m_X9_says 61 [some (.ref 1099), w1, some (.int x2), w3] [] h1 r) (f : v0 ≠ 0 → tr_L g (d + 1) m_X9_says 59 [some (.ref 1099), w1, some (.int x2), w3] [] h1 r) : tr_L g (d + 1) m_X9_says 46 [some (.ref 1099), w1, some (.int x2), w3] [.ref 1099] h r := by
  refine tr_ic 0 0 (by decide) rfl ?_
  refine tr_ic 3 3 (by decide) rfl ?_
  refine tr_s (.aload_n 0) 1 49 [some (.ref 1099), w1, some (.int x2), w3] [.ref 1099, .int 3, .int 0, .ref 1099] h rfl rfl rfl ?_
  refine tl_gi hL 150 99 8 16 [1100, 1101, 1102, 1103, 1104, 1105, 0, 0, 0, 0, 0, 0, 0, 0, 0, 0, 0, 0, 0, 0, 0, 1106, 0, 1107, 1108, 0, 0, 0] rfl rfl rfl rfl ?_
  refine tr_ic 2 2 (by decide) rfl ?_
  refine tr_call (.invokevirtual 88) 88 0 4 8 m_X9_isRejected [.ref 1099, .int 0, .int 3, .int (hh_i h 99 16), .int 2] [] (some (.int v0)) h1 rfl rfl rfl rfl rfl rfl rfl rfl rfl (tr_cok rfl (Or.inr ⟨_, _, rfl, tr_rc (hh_rd (hh_obj hL (k := 99) rfl).1) (by decide)⟩)) c_0 ?_
  have hL0 := c_0.2
  exact tr_if1 .eq 5 61 v0 rfl rfl rfl (fun hc => t ((tr_eq hc).1 rfl)) (fun hc => f ((tr_eq hc).2 rfl))
theorem sg_X9_says_59 {g : tr_g} {d : Nat} {h : ev_AH} {r : ev_O × ev_AH} {w0 w1 w2 w3 : Option Value} (hL : hh_L h) (hr : r = (.inl (some (.int 0)), h)) : tr_L g d m_X9_says 59 [w0, w1, w2, w3] [] h r := by
  refine tr_ic 0 0 (by decide) rfl ?_
  exact tl_ret hL .ireturn 1 (some (.int 0)) rfl rfl rfl rfl hr
theorem sg_X9_says_61 {g : tr_g} {d : Nat} {h : ev_AH} {r : ev_O × ev_AH} {w1 w3 : Option Value} {x2 v0 : Int32} {h1 : ev_AH} (hL : hh_L h) (c_0 : tr_L g d m_X9_place 0 [some (.ref 1099), some (.int (hh_i h 99 15)), some (.int (x2 - 97)), none] [] h (.inl (some (.int v0)), h1)) (t : v0 ≤ 0 → tr_L g (d + 1) m_X9_says 119 [some (.ref 1099), w1, some (.int x2), some (.int v0)] [] h1 r) (f : 0 < v0 → tr_L g (d + 1) m_X9_says 78 [some (.ref 1099), w1, some (.int x2), some (.int v0)] [] h1 r) : tr_L g (d + 1) m_X9_says 61 [some (.ref 1099), w1, some (.int x2), w3] [] h r := by
  refine tr_s (.aload_n 0) 1 62 [some (.ref 1099), w1, some (.int x2), w3] [.ref 1099] h rfl rfl rfl ?_
  refine tr_s (.aload_n 0) 1 63 [some (.ref 1099), w1, some (.int x2), w3] [.ref 1099, .ref 1099] h rfl rfl rfl ?_
  refine tl_gi hL 141 99 8 15 [1100, 1101, 1102, 1103, 1104, 1105, 0, 0, 0, 0, 0, 0, 0, 0, 0, 0, 0, 0, 0, 0, 0, 1106, 0, 1107, 1108, 0, 0, 0] rfl rfl rfl rfl ?_
  refine tr_s (.iload_n 2) 1 67 [some (.ref 1099), w1, some (.int x2), w3] [.int x2, .int (hh_i h 99 15), .ref 1099] h rfl rfl rfl ?_
  refine tr_bi 97 97 (by decide) rfl ?_
  refine tr_s .isub 1 70 [some (.ref 1099), w1, some (.int x2), w3] [.int (x2 - 97), .int (hh_i h 99 15), .ref 1099] h rfl rfl rfl ?_
  refine tr_call (.invokevirtual 126) 126 0 2 8 m_X9_place [.ref 1099, .int (hh_i h 99 15), .int (x2 - 97)] [] (some (.int v0)) h1 rfl rfl rfl rfl rfl rfl rfl rfl rfl (tr_cok rfl (Or.inr ⟨_, _, rfl, tr_rc (hh_rd (hh_obj hL (k := 99) rfl).1) (by decide)⟩)) c_0 ?_
  have hL0 := c_0.2
  refine tr_st (.istore_n 3) 1 3 0 (.int v0) rfl rfl rfl rfl rfl rfl rfl ?_
  refine tr_s (.iload_n 3) 1 75 [some (.ref 1099), w1, some (.int x2), some (.int v0)] [.int v0] h1 rfl rfl rfl ?_
  exact tr_if1 .le 44 119 v0 rfl rfl rfl (fun hc => t ((tr_le hc).1 rfl)) (fun hc => f ((tr_le hc).2 rfl))
theorem sg_X9_says_78 {g : tr_g} {d : Nat} {h : ev_AH} {r : ev_O × ev_AH} {w1 : Option Value} {x2 x3 v0 : Int32} {h1 h2 h3 : ev_AH} (hL : hh_L h) (c_0 : tr_L g d m_X9_of 0 [some (.ref 1099), some (.int (hh_i h 99 15)), some (.int ((2 + x3) - 1))] [] h (.inl (some (.int v0)), h1)) (c_1 : tr_L g d m_X9_sets 0 [some (.ref 1099), some (.int (hh_i h 99 15)), some (.int (2 + x3)), some (.int v0)] [] h1 (.inl none, h2)) (c_2 : tr_L g d m_X9_sets 0 [some (.ref 1099), some (.int (hh_i h2 99 15)), some (.int ((2 + x3) - 1)), some (.int (x2 - 97))] [] h2 (.inl none, h3)) (k : tr_L g (d + 1) m_X9_says 119 [some (.ref 1099), w1, some (.int x2), some (.int x3)] [] h3 r) : tr_L g (d + 1) m_X9_says 78 [some (.ref 1099), w1, some (.int x2), some (.int x3)] [] h r := by
  refine tr_s (.aload_n 0) 1 79 [some (.ref 1099), w1, some (.int x2), some (.int x3)] [.ref 1099] h rfl rfl rfl ?_
  refine tr_s (.aload_n 0) 1 80 [some (.ref 1099), w1, some (.int x2), some (.int x3)] [.ref 1099, .ref 1099] h rfl rfl rfl ?_
  refine tl_gi hL 141 99 8 15 [1100, 1101, 1102, 1103, 1104, 1105, 0, 0, 0, 0, 0, 0, 0, 0, 0, 0, 0, 0, 0, 0, 0, 1106, 0, 1107, 1108, 0, 0, 0] rfl rfl rfl rfl ?_
  refine tr_ic 2 2 (by decide) rfl ?_
  refine tr_s (.iload_n 3) 1 85 [some (.ref 1099), w1, some (.int x2), some (.int x3)] [.int x3, .int 2, .int (hh_i h 99 15), .ref 1099] h rfl rfl rfl ?_
  refine tr_s .iadd 1 86 [some (.ref 1099), w1, some (.int x2), some (.int x3)] [.int (2 + x3), .int (hh_i h 99 15), .ref 1099] h rfl rfl rfl ?_
  refine tr_s (.aload_n 0) 1 87 [some (.ref 1099), w1, some (.int x2), some (.int x3)] [.ref 1099, .int (2 + x3), .int (hh_i h 99 15), .ref 1099] h rfl rfl rfl ?_
  refine tr_s (.aload_n 0) 1 88 [some (.ref 1099), w1, some (.int x2), some (.int x3)] [.ref 1099, .ref 1099, .int (2 + x3), .int (hh_i h 99 15), .ref 1099] h rfl rfl rfl ?_
  refine tl_gi hL 141 99 8 15 [1100, 1101, 1102, 1103, 1104, 1105, 0, 0, 0, 0, 0, 0, 0, 0, 0, 0, 0, 0, 0, 0, 0, 1106, 0, 1107, 1108, 0, 0, 0] rfl rfl rfl rfl ?_
  refine tr_ic 2 2 (by decide) rfl ?_
  refine tr_s (.iload_n 3) 1 93 [some (.ref 1099), w1, some (.int x2), some (.int x3)] [.int x3, .int 2, .int (hh_i h 99 15), .ref 1099, .int (2 + x3), .int (hh_i h 99 15), .ref 1099] h rfl rfl rfl ?_
  refine tr_s .iadd 1 94 [some (.ref 1099), w1, some (.int x2), some (.int x3)] [.int (2 + x3), .int (hh_i h 99 15), .ref 1099, .int (2 + x3), .int (hh_i h 99 15), .ref 1099] h rfl rfl rfl ?_
  refine tr_ic 1 1 (by decide) rfl ?_
  refine tr_s .isub 1 96 [some (.ref 1099), w1, some (.int x2), some (.int x3)] [.int ((2 + x3) - 1), .int (hh_i h 99 15), .ref 1099, .int (2 + x3), .int (hh_i h 99 15), .ref 1099] h rfl rfl rfl ?_
  refine tr_call (.invokevirtual 74) 74 0 2 8 m_X9_of [.ref 1099, .int (hh_i h 99 15), .int ((2 + x3) - 1)] [.int (2 + x3), .int (hh_i h 99 15), .ref 1099] (some (.int v0)) h1 rfl rfl rfl rfl rfl rfl rfl rfl rfl (tr_cok rfl (Or.inr ⟨_, _, rfl, tr_rc (hh_rd (hh_obj hL (k := 99) rfl).1) (by decide)⟩)) c_0 ?_
  have hL0 := c_0.2
  refine tr_call (.invokevirtual 96) 96 0 3 8 m_X9_sets [.ref 1099, .int (hh_i h 99 15), .int (2 + x3), .int v0] [] none h2 rfl rfl rfl rfl rfl rfl rfl rfl rfl (tr_cok rfl (Or.inr ⟨_, _, rfl, tr_rc (hh_rd (hh_obj hL0 (k := 99) rfl).1) (by decide)⟩)) c_1 ?_
  have hL1 := c_1.2
  refine tr_s (.aload_n 0) 1 103 [some (.ref 1099), w1, some (.int x2), some (.int x3)] [.ref 1099] h2 rfl rfl rfl ?_
  refine tr_s (.aload_n 0) 1 104 [some (.ref 1099), w1, some (.int x2), some (.int x3)] [.ref 1099, .ref 1099] h2 rfl rfl rfl ?_
  refine tl_gi hL1 141 99 8 15 [1100, 1101, 1102, 1103, 1104, 1105, 0, 0, 0, 0, 0, 0, 0, 0, 0, 0, 0, 0, 0, 0, 0, 1106, 0, 1107, 1108, 0, 0, 0] rfl rfl rfl rfl ?_
  refine tr_ic 2 2 (by decide) rfl ?_
  refine tr_s (.iload_n 3) 1 109 [some (.ref 1099), w1, some (.int x2), some (.int x3)] [.int x3, .int 2, .int (hh_i h2 99 15), .ref 1099] h2 rfl rfl rfl ?_
  refine tr_s .iadd 1 110 [some (.ref 1099), w1, some (.int x2), some (.int x3)] [.int (2 + x3), .int (hh_i h2 99 15), .ref 1099] h2 rfl rfl rfl ?_
  refine tr_ic 1 1 (by decide) rfl ?_
  refine tr_s .isub 1 112 [some (.ref 1099), w1, some (.int x2), some (.int x3)] [.int ((2 + x3) - 1), .int (hh_i h2 99 15), .ref 1099] h2 rfl rfl rfl ?_
  refine tr_s (.iload_n 2) 1 113 [some (.ref 1099), w1, some (.int x2), some (.int x3)] [.int x2, .int ((2 + x3) - 1), .int (hh_i h2 99 15), .ref 1099] h2 rfl rfl rfl ?_
  refine tr_bi 97 97 (by decide) rfl ?_
  refine tr_s .isub 1 116 [some (.ref 1099), w1, some (.int x2), some (.int x3)] [.int (x2 - 97), .int ((2 + x3) - 1), .int (hh_i h2 99 15), .ref 1099] h2 rfl rfl rfl ?_
  refine tr_call (.invokevirtual 96) 96 0 3 8 m_X9_sets [.ref 1099, .int (hh_i h2 99 15), .int ((2 + x3) - 1), .int (x2 - 97)] [] none h3 rfl rfl rfl rfl rfl rfl rfl rfl rfl (tr_cok rfl (Or.inr ⟨_, _, rfl, tr_rc (hh_rd (hh_obj hL1 (k := 99) rfl).1) (by decide)⟩)) c_2 ?_
  have hL2 := c_2.2
  exact k
theorem sg_X9_says_119 {g : tr_g} {d : Nat} {h : ev_AH} {r : ev_O × ev_AH} {w1 w2 w3 : Option Value} {h1 h2 : ev_AH} {v0 : Int32} {j0 j1 : Nat} (hL : hh_L h) (c_0 : tr_L g d m_X9_of 0 [some (.ref 1099), some (.int (hh_i h 99 15)), some (.int 1)] [] h (.inl (some (.int v0)), h1)) (c_1 : tr_L g d m_X9_sets 0 [some (.ref 1099), some (.int (hh_i h 99 15)), some (.int 1), some (.int (v0 + 1))] [] h1 (.inl none, h2)) (e0 : 5 = Int32.ofNat j0) (b0 : j0 < 124) (e1 : 5 = Int32.ofNat j1) (b1 : j1 < 124) (hr : r = (.inl (some (.int (hh_i (hh_sa h2 100 0 ((hh_a h2 100).set j1 (((hh_a h2 100).getD j0 0) + 1))) 99 15))), hh_sa h2 100 0 ((hh_a h2 100).set j1 (((hh_a h2 100).getD j0 0) + 1)))) : tr_L g (d + 1) m_X9_says 119 [some (.ref 1099), w1, w2, w3] [] h r := by
  refine tr_s (.aload_n 0) 1 120 [some (.ref 1099), w1, w2, w3] [.ref 1099] h rfl rfl rfl ?_
  refine tr_s (.aload_n 0) 1 121 [some (.ref 1099), w1, w2, w3] [.ref 1099, .ref 1099] h rfl rfl rfl ?_
  refine tl_gi hL 141 99 8 15 [1100, 1101, 1102, 1103, 1104, 1105, 0, 0, 0, 0, 0, 0, 0, 0, 0, 0, 0, 0, 0, 0, 0, 1106, 0, 1107, 1108, 0, 0, 0] rfl rfl rfl rfl ?_
  refine tr_ic 1 1 (by decide) rfl ?_
  refine tr_s (.aload_n 0) 1 126 [some (.ref 1099), w1, w2, w3] [.ref 1099, .int 1, .int (hh_i h 99 15), .ref 1099] h rfl rfl rfl ?_
  refine tr_s (.aload_n 0) 1 127 [some (.ref 1099), w1, w2, w3] [.ref 1099, .ref 1099, .int 1, .int (hh_i h 99 15), .ref 1099] h rfl rfl rfl ?_
  refine tl_gi hL 141 99 8 15 [1100, 1101, 1102, 1103, 1104, 1105, 0, 0, 0, 0, 0, 0, 0, 0, 0, 0, 0, 0, 0, 0, 0, 1106, 0, 1107, 1108, 0, 0, 0] rfl rfl rfl rfl ?_
  refine tr_ic 1 1 (by decide) rfl ?_
  refine tr_call (.invokevirtual 74) 74 0 2 8 m_X9_of [.ref 1099, .int (hh_i h 99 15), .int 1] [.int 1, .int (hh_i h 99 15), .ref 1099] (some (.int v0)) h1 rfl rfl rfl rfl rfl rfl rfl rfl rfl (tr_cok rfl (Or.inr ⟨_, _, rfl, tr_rc (hh_rd (hh_obj hL (k := 99) rfl).1) (by decide)⟩)) c_0 ?_
  have hL0 := c_0.2
  refine tr_ic 1 1 (by decide) rfl ?_
  refine tr_s .iadd 1 136 [some (.ref 1099), w1, w2, w3] [.int (v0 + 1), .int 1, .int (hh_i h 99 15), .ref 1099] h1 rfl rfl rfl ?_
  refine tr_call (.invokevirtual 96) 96 0 3 8 m_X9_sets [.ref 1099, .int (hh_i h 99 15), .int 1, .int (v0 + 1)] [] none h2 rfl rfl rfl rfl rfl rfl rfl rfl rfl (tr_cok rfl (Or.inr ⟨_, _, rfl, tr_rc (hh_rd (hh_obj hL0 (k := 99) rfl).1) (by decide)⟩)) c_1 ?_
  have hL1 := c_1.2
  refine tr_s (.aload_n 0) 1 140 [some (.ref 1099), w1, w2, w3] [.ref 1099] h2 rfl rfl rfl ?_
  refine tl_gr hL1 9 99 8 0 100 [1100, 1101, 1102, 1103, 1104, 1105, 0, 0, 0, 0, 0, 0, 0, 0, 0, 0, 0, 0, 0, 0, 0, 1106, 0, 1107, 1108, 0, 0, 0] rfl rfl rfl rfl ?_
  refine tr_ic 5 5 (by decide) rfl ?_
  refine tr_s .dup2 1 145 [some (.ref 1099), w1, w2, w3] [.int 5, .ref 1100, .int 5, .ref 1100] h2 rfl rfl rfl ?_
  refine tl_ald hL1 .iaload 100 0 124 j0 5 rfl (by decide) rfl e0 b0 (by decide) ?_
  refine tr_ic 1 1 (by decide) rfl ?_
  refine tr_s .iadd 1 148 [some (.ref 1099), w1, w2, w3] [.int (((hh_a h2 100).getD j0 0) + 1), .int 5, .ref 1100] h2 rfl rfl rfl ?_
  refine tl_ias hL1 100 124 j1 5 (((hh_a h2 100).getD j0 0) + 1) rfl rfl e1 b1 (by decide) ?_
  have hL2 := hh_L_ss (j := j1) (x := (((hh_a h2 100).getD j0 0) + 1)) hL1 (show hh_t[100]? = some (.inl (0, 124)) from rfl)
  refine tr_s (.aload_n 0) 1 150 [some (.ref 1099), w1, w2, w3] [.ref 1099] (hh_sa h2 100 0 ((hh_a h2 100).set j1 (((hh_a h2 100).getD j0 0) + 1))) rfl rfl rfl ?_
  refine tl_gi hL2 141 99 8 15 [1100, 1101, 1102, 1103, 1104, 1105, 0, 0, 0, 0, 0, 0, 0, 0, 0, 0, 0, 0, 0, 0, 0, 1106, 0, 1107, 1108, 0, 0, 0] rfl rfl rfl rfl ?_
  exact tl_ret hL2 .ireturn 1 (some (.int (hh_i (hh_sa h2 100 0 ((hh_a h2 100).set j1 (((hh_a h2 100).getD j0 0) + 1))) 99 15))) rfl rfl rfl rfl hr
theorem sg_X9_firstVotes_0 {g : tr_g} {d : Nat} {h : ev_AH} {r : ev_O × ev_AH} {x1 v0 : Int32} {h1 : ev_AH} (hL : hh_L h) (c_0 : tr_L g d m_X9_isOption 0 [some (.int x1)] [] h (.inl (some (.int v0)), h1)) (t : v0 ≠ 0 → tr_L g (d + 1) m_X9_firstVotes 12 [some (.ref 1099), some (.int x1)] [.ref 1099] h1 r) (f : v0 = 0 → tr_L g (d + 1) m_X9_firstVotes 8 [some (.ref 1099), some (.int x1)] [.ref 1099] h1 r) : tr_L g (d + 1) m_X9_firstVotes 0 [some (.ref 1099), some (.int x1)] [] h r := by
  refine tr_s (.aload_n 0) 1 1 [some (.ref 1099), some (.int x1)] [.ref 1099] h rfl rfl rfl ?_
  refine tr_s (.iload_n 1) 1 2 [some (.ref 1099), some (.int x1)] [.int x1, .ref 1099] h rfl rfl rfl ?_
  refine tr_call (.invokestatic 78) 78 2 1 0 m_X9_isOption [.int x1] [.ref 1099] (some (.int v0)) h1 rfl rfl rfl rfl rfl rfl rfl rfl rfl (tr_cok rfl (Or.inl rfl)) c_0 ?_
  have hL0 := c_0.2
  exact tr_if1 .ne 7 12 v0 rfl rfl rfl (fun hc => t ((tr_ne hc).1 rfl)) (fun hc => f ((tr_ne hc).2 rfl))
theorem sg_X9_firstVotes_8 {g : tr_g} {d : Nat} {h : ev_AH} {r : ev_O × ev_AH} {x1 v0 : Int32} {h1 : ev_AH} (hL : hh_L h) (c_0 : tr_L g d m_X9_isThrown 0 [some (.ref 1099), some (.int 1), some (.int 1)] [] h (.inl (some (.int v0)), h1)) (t : v0 = 0 → tr_L g (d + 1) m_X9_firstVotes 24 [some (.ref 1099), some (.int x1)] [] h1 r) (f : v0 ≠ 0 → tr_L g (d + 1) m_X9_firstVotes 20 [some (.ref 1099), some (.int x1)] [] h1 r) : tr_L g (d + 1) m_X9_firstVotes 8 [some (.ref 1099), some (.int x1)] [.ref 1099] h r := by
  refine tr_ic 1 1 (by decide) rfl ?_
  refine tr_goto 4 13 rfl rfl rfl ?_
  refine tr_ic 1 1 (by decide) rfl ?_
  refine tr_call (.invokevirtual 66) 66 0 2 8 m_X9_isThrown [.ref 1099, .int 1, .int 1] [] (some (.int v0)) h1 rfl rfl rfl rfl rfl rfl rfl rfl rfl (tr_cok rfl (Or.inr ⟨_, _, rfl, tr_rc (hh_rd (hh_obj hL (k := 99) rfl).1) (by decide)⟩)) c_0 ?_
  have hL0 := c_0.2
  exact tr_if1 .eq 7 24 v0 rfl rfl rfl (fun hc => t ((tr_eq hc).1 rfl)) (fun hc => f ((tr_eq hc).2 rfl))
theorem sg_X9_firstVotes_12 {g : tr_g} {d : Nat} {h : ev_AH} {r : ev_O × ev_AH} {x1 v0 : Int32} {h1 : ev_AH} (hL : hh_L h) (c_0 : tr_L g d m_X9_isThrown 0 [some (.ref 1099), some (.int 0), some (.int 1)] [] h (.inl (some (.int v0)), h1)) (t : v0 = 0 → tr_L g (d + 1) m_X9_firstVotes 24 [some (.ref 1099), some (.int x1)] [] h1 r) (f : v0 ≠ 0 → tr_L g (d + 1) m_X9_firstVotes 20 [some (.ref 1099), some (.int x1)] [] h1 r) : tr_L g (d + 1) m_X9_firstVotes 12 [some (.ref 1099), some (.int x1)] [.ref 1099] h r := by
  refine tr_ic 0 0 (by decide) rfl ?_
  refine tr_ic 1 1 (by decide) rfl ?_
  refine tr_call (.invokevirtual 66) 66 0 2 8 m_X9_isThrown [.ref 1099, .int 0, .int 1] [] (some (.int v0)) h1 rfl rfl rfl rfl rfl rfl rfl rfl rfl (tr_cok rfl (Or.inr ⟨_, _, rfl, tr_rc (hh_rd (hh_obj hL (k := 99) rfl).1) (by decide)⟩)) c_0 ?_
  have hL0 := c_0.2
  exact tr_if1 .eq 7 24 v0 rfl rfl rfl (fun hc => t ((tr_eq hc).1 rfl)) (fun hc => f ((tr_eq hc).2 rfl))
theorem sg_X9_firstVotes_20 {g : tr_g} {d : Nat} {h : ev_AH} {r : ev_O × ev_AH} {w0 w1 : Option Value} (hL : hh_L h) (hr : r = (.inl (some (.int 0)), h)) : tr_L g d m_X9_firstVotes 20 [w0, w1] [] h r := by
  refine tr_ic 0 0 (by decide) rfl ?_
  refine tr_goto 13 34 rfl rfl rfl ?_
  exact tl_ret hL .ireturn 1 (some (.int 0)) rfl rfl rfl rfl hr
theorem sg_X9_firstVotes_24 {g : tr_g} {d : Nat} {h : ev_AH} {r : ev_O × ev_AH} {x1 v0 : Int32} {h1 : ev_AH} (hL : hh_L h) (c_0 : tr_L g d m_X9_votes 0 [some (.ref 1099), some (.int (x1 - 97)), some (.int 15), none, none, none] [] h (.inl (some (.int v0)), h1)) (hr : r = (.inl (some (.int v0)), h1)) : tr_L g (d + 1) m_X9_firstVotes 24 [some (.ref 1099), some (.int x1)] [] h r := by
  refine tr_s (.aload_n 0) 1 25 [some (.ref 1099), some (.int x1)] [.ref 1099] h rfl rfl rfl ?_
  refine tr_s (.iload_n 1) 1 26 [some (.ref 1099), some (.int x1)] [.int x1, .ref 1099] h rfl rfl rfl ?_
  refine tr_bi 97 97 (by decide) rfl ?_
  refine tr_s .isub 1 29 [some (.ref 1099), some (.int x1)] [.int (x1 - 97), .ref 1099] h rfl rfl rfl ?_
  refine tr_bi 15 15 (by decide) rfl ?_
  refine tr_call (.invokevirtual 184) 184 0 2 8 m_X9_votes [.ref 1099, .int (x1 - 97), .int 15] [] (some (.int v0)) h1 rfl rfl rfl rfl rfl rfl rfl rfl rfl (tr_cok rfl (Or.inr ⟨_, _, rfl, tr_rc (hh_rd (hh_obj hL (k := 99) rfl).1) (by decide)⟩)) c_0 ?_
  have hL0 := c_0.2
  exact tl_ret hL0 .ireturn 1 (some (.int v0)) rfl rfl rfl rfl hr
theorem sg_X9_votes_0 {g : tr_g} {d : Nat} {h : ev_AH} {r : ev_O × ev_AH} {x1 x2 : Int32} (hL : hh_L h) (k : tr_L g d m_X9_votes 5 [some (.ref 1099), some (.int x1), some (.int x2), some (.int 0), some (.int 0), none] [] h r) : tr_L g d m_X9_votes 0 [some (.ref 1099), some (.int x1), some (.int x2), none, none, none] [] h r := by
  refine tr_ic 0 0 (by decide) rfl ?_
  refine tr_st (.istore_n 3) 1 3 0 (.int 0) rfl rfl rfl rfl rfl rfl rfl ?_
  refine tr_ic 0 0 (by decide) rfl ?_
  refine tr_st (.istore 4) 2 4 0 (.int 0) rfl rfl rfl rfl rfl rfl rfl ?_
  exact k
theorem sg_X9_votes_5 {g : tr_g} {d : Nat} {h : ev_AH} {r : ev_O × ev_AH} {x1 x2 x3 x4 : Int32} {w5 : Option Value} {j0 : Nat} (hL : hh_L h) (e0 : 1 = Int32.ofNat j0) (b0 : j0 < 124) (t : ((hh_a h 100).getD j0 0) ≤ x4 → tr_L g d m_X9_votes 70 [some (.ref 1099), some (.int x1), some (.int x2), some (.int x3), some (.int x4), w5] [] h r) (f : x4 < ((hh_a h 100).getD j0 0) → tr_L g d m_X9_votes 16 [some (.ref 1099), some (.int x1), some (.int x2), some (.int x3), some (.int x4), w5] [] h r) : tr_L g d m_X9_votes 5 [some (.ref 1099), some (.int x1), some (.int x2), some (.int x3), some (.int x4), w5] [] h r := by
  refine tr_s (.iload 4) 2 7 [some (.ref 1099), some (.int x1), some (.int x2), some (.int x3), some (.int x4), w5] [.int x4] h rfl rfl rfl ?_
  refine tr_s (.aload_n 0) 1 8 [some (.ref 1099), some (.int x1), some (.int x2), some (.int x3), some (.int x4), w5] [.ref 1099, .int x4] h rfl rfl rfl ?_
  refine tl_gr hL 9 99 8 0 100 [1100, 1101, 1102, 1103, 1104, 1105, 0, 0, 0, 0, 0, 0, 0, 0, 0, 0, 0, 0, 0, 0, 0, 1106, 0, 1107, 1108, 0, 0, 0] rfl rfl rfl rfl ?_
  refine tr_ic 1 1 (by decide) rfl ?_
  refine tl_ald hL .iaload 100 0 124 j0 1 rfl (by decide) rfl e0 b0 (by decide) ?_
  exact tr_if2 .ge 57 70 x4 ((hh_a h 100).getD j0 0) rfl rfl rfl (fun hc => t ((tr_ge hc).1 rfl)) (fun hc => f ((tr_ge hc).2 rfl))
theorem sg_X9_votes_16 {g : tr_g} {d : Nat} {h : ev_AH} {r : ev_O × ev_AH} {x1 x2 x3 x4 : Int32} {w5 : Option Value} (hL : hh_L h) (k : tr_L g d m_X9_votes 19 [some (.ref 1099), some (.int x1), some (.int x2), some (.int x3), some (.int x4), some (.int 0)] [] h r) : tr_L g d m_X9_votes 16 [some (.ref 1099), some (.int x1), some (.int x2), some (.int x3), some (.int x4), w5] [] h r := by
  refine tr_ic 0 0 (by decide) rfl ?_
  refine tr_st (.istore 5) 2 5 0 (.int 0) rfl rfl rfl rfl rfl rfl rfl ?_
  exact k
theorem sg_X9_votes_19 {g : tr_g} {d : Nat} {h : ev_AH} {r : ev_O × ev_AH} {x1 x2 x3 x4 x5 v0 : Int32} {h1 : ev_AH} (hL : hh_L h) (c_0 : tr_L g d m_X9_of 0 [some (.ref 1099), some (.int x4), some (.int (2 + x5))] [] h (.inl (some (.int v0)), h1)) (t : ((x2 >>> (v0 &&& 31)) &&& 1) ≠ 0 → tr_L g (d + 1) m_X9_votes 42 [some (.ref 1099), some (.int x1), some (.int x2), some (.int x3), some (.int x4), some (.int x5)] [] h1 r) (f : ((x2 >>> (v0 &&& 31)) &&& 1) = 0 → tr_L g (d + 1) m_X9_votes 36 [some (.ref 1099), some (.int x1), some (.int x2), some (.int x3), some (.int x4), some (.int x5)] [] h1 r) : tr_L g (d + 1) m_X9_votes 19 [some (.ref 1099), some (.int x1), some (.int x2), some (.int x3), some (.int x4), some (.int x5)] [] h r := by
  refine tr_s (.iload_n 2) 1 20 [some (.ref 1099), some (.int x1), some (.int x2), some (.int x3), some (.int x4), some (.int x5)] [.int x2] h rfl rfl rfl ?_
  refine tr_s (.aload_n 0) 1 21 [some (.ref 1099), some (.int x1), some (.int x2), some (.int x3), some (.int x4), some (.int x5)] [.ref 1099, .int x2] h rfl rfl rfl ?_
  refine tr_s (.iload 4) 2 23 [some (.ref 1099), some (.int x1), some (.int x2), some (.int x3), some (.int x4), some (.int x5)] [.int x4, .ref 1099, .int x2] h rfl rfl rfl ?_
  refine tr_ic 2 2 (by decide) rfl ?_
  refine tr_s (.iload 5) 2 26 [some (.ref 1099), some (.int x1), some (.int x2), some (.int x3), some (.int x4), some (.int x5)] [.int x5, .int 2, .int x4, .ref 1099, .int x2] h rfl rfl rfl ?_
  refine tr_s .iadd 1 27 [some (.ref 1099), some (.int x1), some (.int x2), some (.int x3), some (.int x4), some (.int x5)] [.int (2 + x5), .int x4, .ref 1099, .int x2] h rfl rfl rfl ?_
  refine tr_call (.invokevirtual 74) 74 0 2 8 m_X9_of [.ref 1099, .int x4, .int (2 + x5)] [.int x2] (some (.int v0)) h1 rfl rfl rfl rfl rfl rfl rfl rfl rfl (tr_cok rfl (Or.inr ⟨_, _, rfl, tr_rc (hh_rd (hh_obj hL (k := 99) rfl).1) (by decide)⟩)) c_0 ?_
  have hL0 := c_0.2
  refine tr_s .ishr 1 31 [some (.ref 1099), some (.int x1), some (.int x2), some (.int x3), some (.int x4), some (.int x5)] [.int (x2 >>> (v0 &&& 31))] h1 rfl rfl rfl ?_
  refine tr_ic 1 1 (by decide) rfl ?_
  refine tr_s .iand 1 33 [some (.ref 1099), some (.int x1), some (.int x2), some (.int x3), some (.int x4), some (.int x5)] [.int ((x2 >>> (v0 &&& 31)) &&& 1)] h1 rfl rfl rfl ?_
  exact tr_if1 .ne 9 42 ((x2 >>> (v0 &&& 31)) &&& 1) rfl rfl rfl (fun hc => t ((tr_ne hc).1 rfl)) (fun hc => f ((tr_ne hc).2 rfl))
theorem sg_X9_votes_36 {g : tr_g} {d : Nat} {h : ev_AH} {r : ev_O × ev_AH} {x1 x2 x3 x4 x5 : Int32} (hL : hh_L h) (k : tr_L g d m_X9_votes 19 [some (.ref 1099), some (.int x1), some (.int x2), some (.int x3), some (.int x4), some (.int (x5 + 1))] [] h r) : tr_L g d m_X9_votes 36 [some (.ref 1099), some (.int x1), some (.int x2), some (.int x3), some (.int x4), some (.int x5)] [] h r := by
  refine tr_inc 5 1 x5 1 (by decide) rfl rfl rfl ?_
  refine tr_goto (-20) 19 rfl rfl rfl ?_
  exact k
theorem sg_X9_votes_42 {g : tr_g} {d : Nat} {h : ev_AH} {r : ev_O × ev_AH} {x1 x2 x3 x4 x5 v0 : Int32} {h1 : ev_AH} (hL : hh_L h) (c_0 : tr_L g d m_X9_of 0 [some (.ref 1099), some (.int x4), some (.int (2 + x5))] [] h (.inl (some (.int v0)), h1)) (t : v0 ≠ x1 → tr_L g (d + 1) m_X9_votes 61 [some (.ref 1099), some (.int x1), some (.int x2), some (.int x3), some (.int x4), some (.int x5)] [.int x3] h1 r) (f : v0 = x1 → tr_L g (d + 1) m_X9_votes 57 [some (.ref 1099), some (.int x1), some (.int x2), some (.int x3), some (.int x4), some (.int x5)] [.int x3] h1 r) : tr_L g (d + 1) m_X9_votes 42 [some (.ref 1099), some (.int x1), some (.int x2), some (.int x3), some (.int x4), some (.int x5)] [] h r := by
  refine tr_s (.iload_n 3) 1 43 [some (.ref 1099), some (.int x1), some (.int x2), some (.int x3), some (.int x4), some (.int x5)] [.int x3] h rfl rfl rfl ?_
  refine tr_s (.aload_n 0) 1 44 [some (.ref 1099), some (.int x1), some (.int x2), some (.int x3), some (.int x4), some (.int x5)] [.ref 1099, .int x3] h rfl rfl rfl ?_
  refine tr_s (.iload 4) 2 46 [some (.ref 1099), some (.int x1), some (.int x2), some (.int x3), some (.int x4), some (.int x5)] [.int x4, .ref 1099, .int x3] h rfl rfl rfl ?_
  refine tr_ic 2 2 (by decide) rfl ?_
  refine tr_s (.iload 5) 2 49 [some (.ref 1099), some (.int x1), some (.int x2), some (.int x3), some (.int x4), some (.int x5)] [.int x5, .int 2, .int x4, .ref 1099, .int x3] h rfl rfl rfl ?_
  refine tr_s .iadd 1 50 [some (.ref 1099), some (.int x1), some (.int x2), some (.int x3), some (.int x4), some (.int x5)] [.int (2 + x5), .int x4, .ref 1099, .int x3] h rfl rfl rfl ?_
  refine tr_call (.invokevirtual 74) 74 0 2 8 m_X9_of [.ref 1099, .int x4, .int (2 + x5)] [.int x3] (some (.int v0)) h1 rfl rfl rfl rfl rfl rfl rfl rfl rfl (tr_cok rfl (Or.inr ⟨_, _, rfl, tr_rc (hh_rd (hh_obj hL (k := 99) rfl).1) (by decide)⟩)) c_0 ?_
  have hL0 := c_0.2
  refine tr_s (.iload_n 1) 1 54 [some (.ref 1099), some (.int x1), some (.int x2), some (.int x3), some (.int x4), some (.int x5)] [.int x1, .int v0, .int x3] h1 rfl rfl rfl ?_
  exact tr_if2 .ne 7 61 v0 x1 rfl rfl rfl (fun hc => t ((tr_ne hc).1 rfl)) (fun hc => f ((tr_ne hc).2 rfl))
theorem sg_X9_votes_57 {g : tr_g} {d : Nat} {h : ev_AH} {r : ev_O × ev_AH} {x1 x2 x4 s0 : Int32} {w3 w5 : Option Value} (hL : hh_L h) (k : tr_L g d m_X9_votes 5 [some (.ref 1099), some (.int x1), some (.int x2), some (.int (s0 + 1)), some (.int (x4 + 1)), w5] [] h r) : tr_L g d m_X9_votes 57 [some (.ref 1099), some (.int x1), some (.int x2), w3, some (.int x4), w5] [.int s0] h r := by
  refine tr_ic 1 1 (by decide) rfl ?_
  refine tr_goto 4 62 rfl rfl rfl ?_
  refine tr_s .iadd 1 63 [some (.ref 1099), some (.int x1), some (.int x2), w3, some (.int x4), w5] [.int (s0 + 1)] h rfl rfl rfl ?_
  refine tr_st (.istore_n 3) 1 3 0 (.int (s0 + 1)) rfl rfl rfl rfl rfl rfl rfl ?_
  refine tr_inc 4 1 x4 1 (by decide) rfl rfl rfl ?_
  refine tr_goto (-62) 5 rfl rfl rfl ?_
  exact k
theorem sg_X9_votes_61 {g : tr_g} {d : Nat} {h : ev_AH} {r : ev_O × ev_AH} {x1 x2 x4 s0 : Int32} {w3 w5 : Option Value} (hL : hh_L h) (k : tr_L g d m_X9_votes 5 [some (.ref 1099), some (.int x1), some (.int x2), some (.int (s0 + 0)), some (.int (x4 + 1)), w5] [] h r) : tr_L g d m_X9_votes 61 [some (.ref 1099), some (.int x1), some (.int x2), w3, some (.int x4), w5] [.int s0] h r := by
  refine tr_ic 0 0 (by decide) rfl ?_
  refine tr_s .iadd 1 63 [some (.ref 1099), some (.int x1), some (.int x2), w3, some (.int x4), w5] [.int (s0 + 0)] h rfl rfl rfl ?_
  refine tr_st (.istore_n 3) 1 3 0 (.int (s0 + 0)) rfl rfl rfl rfl rfl rfl rfl ?_
  refine tr_inc 4 1 x4 1 (by decide) rfl rfl rfl ?_
  refine tr_goto (-62) 5 rfl rfl rfl ?_
  exact k
theorem sg_X9_votes_70 {g : tr_g} {d : Nat} {h : ev_AH} {r : ev_O × ev_AH} {w0 w1 w2 w4 w5 : Option Value} {x3 : Int32} (hL : hh_L h) (hr : r = (.inl (some (.int x3)), h)) : tr_L g d m_X9_votes 70 [w0, w1, w2, some (.int x3), w4, w5] [] h r := by
  refine tr_s (.iload_n 3) 1 71 [w0, w1, w2, some (.int x3), w4, w5] [.int x3] h rfl rfl rfl ?_
  exact tl_ret hL .ireturn 1 (some (.int x3)) rfl rfl rfl rfl hr
theorem sg_X9_prefer_0 {g : tr_g} {d : Nat} {h : ev_AH} {r : ev_O × ev_AH} {x1 x2 v0 : Int32} {h1 : ev_AH} (hL : hh_L h) (c_0 : tr_L g d m_X9_areOptions 0 [some (.int x1), some (.int x2)] [] h (.inl (some (.int v0)), h1)) (t : v0 ≠ 0 → tr_L g (d + 1) m_X9_prefer 13 [some (.ref 1099), some (.int x1), some (.int x2)] [.ref 1099] h1 r) (f : v0 = 0 → tr_L g (d + 1) m_X9_prefer 9 [some (.ref 1099), some (.int x1), some (.int x2)] [.ref 1099] h1 r) : tr_L g (d + 1) m_X9_prefer 0 [some (.ref 1099), some (.int x1), some (.int x2)] [] h r := by
  refine tr_s (.aload_n 0) 1 1 [some (.ref 1099), some (.int x1), some (.int x2)] [.ref 1099] h rfl rfl rfl ?_
  refine tr_s (.iload_n 1) 1 2 [some (.ref 1099), some (.int x1), some (.int x2)] [.int x1, .ref 1099] h rfl rfl rfl ?_
  refine tr_s (.iload_n 2) 1 3 [some (.ref 1099), some (.int x1), some (.int x2)] [.int x2, .int x1, .ref 1099] h rfl rfl rfl ?_
  refine tr_call (.invokestatic 187) 187 2 2 0 m_X9_areOptions [.int x1, .int x2] [.ref 1099] (some (.int v0)) h1 rfl rfl rfl rfl rfl rfl rfl rfl rfl (tr_cok rfl (Or.inl rfl)) c_0 ?_
  have hL0 := c_0.2
  exact tr_if1 .ne 7 13 v0 rfl rfl rfl (fun hc => t ((tr_ne hc).1 rfl)) (fun hc => f ((tr_ne hc).2 rfl))
theorem sg_X9_prefer_9 {g : tr_g} {d : Nat} {h : ev_AH} {r : ev_O × ev_AH} {x1 x2 v0 : Int32} {h1 : ev_AH} (hL : hh_L h) (c_0 : tr_L g d m_X9_isThrown 0 [some (.ref 1099), some (.int 1), some (.int 1)] [] h (.inl (some (.int v0)), h1)) (t : v0 = 0 → tr_L g (d + 1) m_X9_prefer 25 [some (.ref 1099), some (.int x1), some (.int x2)] [] h1 r) (f : v0 ≠ 0 → tr_L g (d + 1) m_X9_prefer 21 [some (.ref 1099), some (.int x1), some (.int x2)] [] h1 r) : tr_L g (d + 1) m_X9_prefer 9 [some (.ref 1099), some (.int x1), some (.int x2)] [.ref 1099] h r := by
  refine tr_ic 1 1 (by decide) rfl ?_
  refine tr_goto 4 14 rfl rfl rfl ?_
  refine tr_ic 1 1 (by decide) rfl ?_
  refine tr_call (.invokevirtual 66) 66 0 2 8 m_X9_isThrown [.ref 1099, .int 1, .int 1] [] (some (.int v0)) h1 rfl rfl rfl rfl rfl rfl rfl rfl rfl (tr_cok rfl (Or.inr ⟨_, _, rfl, tr_rc (hh_rd (hh_obj hL (k := 99) rfl).1) (by decide)⟩)) c_0 ?_
  have hL0 := c_0.2
  exact tr_if1 .eq 7 25 v0 rfl rfl rfl (fun hc => t ((tr_eq hc).1 rfl)) (fun hc => f ((tr_eq hc).2 rfl))
theorem sg_X9_prefer_13 {g : tr_g} {d : Nat} {h : ev_AH} {r : ev_O × ev_AH} {x1 x2 v0 : Int32} {h1 : ev_AH} (hL : hh_L h) (c_0 : tr_L g d m_X9_isThrown 0 [some (.ref 1099), some (.int 0), some (.int 1)] [] h (.inl (some (.int v0)), h1)) (t : v0 = 0 → tr_L g (d + 1) m_X9_prefer 25 [some (.ref 1099), some (.int x1), some (.int x2)] [] h1 r) (f : v0 ≠ 0 → tr_L g (d + 1) m_X9_prefer 21 [some (.ref 1099), some (.int x1), some (.int x2)] [] h1 r) : tr_L g (d + 1) m_X9_prefer 13 [some (.ref 1099), some (.int x1), some (.int x2)] [.ref 1099] h r := by
  refine tr_ic 0 0 (by decide) rfl ?_
  refine tr_ic 1 1 (by decide) rfl ?_
  refine tr_call (.invokevirtual 66) 66 0 2 8 m_X9_isThrown [.ref 1099, .int 0, .int 1] [] (some (.int v0)) h1 rfl rfl rfl rfl rfl rfl rfl rfl rfl (tr_cok rfl (Or.inr ⟨_, _, rfl, tr_rc (hh_rd (hh_obj hL (k := 99) rfl).1) (by decide)⟩)) c_0 ?_
  have hL0 := c_0.2
  exact tr_if1 .eq 7 25 v0 rfl rfl rfl (fun hc => t ((tr_eq hc).1 rfl)) (fun hc => f ((tr_eq hc).2 rfl))
theorem sg_X9_prefer_21 {g : tr_g} {d : Nat} {h : ev_AH} {r : ev_O × ev_AH} {w0 w1 w2 : Option Value} (hL : hh_L h) (hr : r = (.inl (some (.int 0)), h)) : tr_L g d m_X9_prefer 21 [w0, w1, w2] [] h r := by
  refine tr_ic 0 0 (by decide) rfl ?_
  refine tr_goto 15 37 rfl rfl rfl ?_
  exact tl_ret hL .ireturn 1 (some (.int 0)) rfl rfl rfl rfl hr
theorem sg_X9_prefer_25 {g : tr_g} {d : Nat} {h : ev_AH} {r : ev_O × ev_AH} {x1 x2 v0 : Int32} {h1 : ev_AH} (hL : hh_L h) (c_0 : tr_L g d m_X9_likes 0 [some (.ref 1099), some (.int (x1 - 97)), some (.int (x2 - 97)), none, none] [] h (.inl (some (.int v0)), h1)) (hr : r = (.inl (some (.int v0)), h1)) : tr_L g (d + 1) m_X9_prefer 25 [some (.ref 1099), some (.int x1), some (.int x2)] [] h r := by
  refine tr_s (.aload_n 0) 1 26 [some (.ref 1099), some (.int x1), some (.int x2)] [.ref 1099] h rfl rfl rfl ?_
  refine tr_s (.iload_n 1) 1 27 [some (.ref 1099), some (.int x1), some (.int x2)] [.int x1, .ref 1099] h rfl rfl rfl ?_
  refine tr_bi 97 97 (by decide) rfl ?_
  refine tr_s .isub 1 30 [some (.ref 1099), some (.int x1), some (.int x2)] [.int (x1 - 97), .ref 1099] h rfl rfl rfl ?_
  refine tr_s (.iload_n 2) 1 31 [some (.ref 1099), some (.int x1), some (.int x2)] [.int x2, .int (x1 - 97), .ref 1099] h rfl rfl rfl ?_
  refine tr_bi 97 97 (by decide) rfl ?_
  refine tr_s .isub 1 34 [some (.ref 1099), some (.int x1), some (.int x2)] [.int (x2 - 97), .int (x1 - 97), .ref 1099] h rfl rfl rfl ?_
  refine tr_call (.invokevirtual 191) 191 0 2 8 m_X9_likes [.ref 1099, .int (x1 - 97), .int (x2 - 97)] [] (some (.int v0)) h1 rfl rfl rfl rfl rfl rfl rfl rfl rfl (tr_cok rfl (Or.inr ⟨_, _, rfl, tr_rc (hh_rd (hh_obj hL (k := 99) rfl).1) (by decide)⟩)) c_0 ?_
  have hL0 := c_0.2
  exact tl_ret hL0 .ireturn 1 (some (.int v0)) rfl rfl rfl rfl hr
theorem sg_X9_areOptions_0 {g : tr_g} {d : Nat} {h : ev_AH} {r : ev_O × ev_AH} {x0 x1 v0 : Int32} {h1 : ev_AH} (hL : hh_L h) (c_0 : tr_L g d m_X9_isOption 0 [some (.int x0)] [] h (.inl (some (.int v0)), h1)) (t : v0 = 0 → tr_L g (d + 1) m_X9_areOptions 23 [some (.int x0), some (.int x1)] [] h1 r) (f : v0 ≠ 0 → tr_L g (d + 1) m_X9_areOptions 7 [some (.int x0), some (.int x1)] [] h1 r) : tr_L g (d + 1) m_X9_areOptions 0 [some (.int x0), some (.int x1)] [] h r := by
  refine tr_s (.iload_n 0) 1 1 [some (.int x0), some (.int x1)] [.int x0] h rfl rfl rfl ?_
  refine tr_call (.invokestatic 78) 78 2 1 0 m_X9_isOption [.int x0] [] (some (.int v0)) h1 rfl rfl rfl rfl rfl rfl rfl rfl rfl (tr_cok rfl (Or.inl rfl)) c_0 ?_
  have hL0 := c_0.2
  exact tr_if1 .eq 19 23 v0 rfl rfl rfl (fun hc => t ((tr_eq hc).1 rfl)) (fun hc => f ((tr_eq hc).2 rfl))
theorem sg_X9_areOptions_7 {g : tr_g} {d : Nat} {h : ev_AH} {r : ev_O × ev_AH} {x0 x1 v0 : Int32} {h1 : ev_AH} (hL : hh_L h) (c_0 : tr_L g d m_X9_isOption 0 [some (.int x1)] [] h (.inl (some (.int v0)), h1)) (t : v0 = 0 → tr_L g (d + 1) m_X9_areOptions 23 [some (.int x0), some (.int x1)] [] h1 r) (f : v0 ≠ 0 → tr_L g (d + 1) m_X9_areOptions 14 [some (.int x0), some (.int x1)] [] h1 r) : tr_L g (d + 1) m_X9_areOptions 7 [some (.int x0), some (.int x1)] [] h r := by
  refine tr_s (.iload_n 1) 1 8 [some (.int x0), some (.int x1)] [.int x1] h rfl rfl rfl ?_
  refine tr_call (.invokestatic 78) 78 2 1 0 m_X9_isOption [.int x1] [] (some (.int v0)) h1 rfl rfl rfl rfl rfl rfl rfl rfl rfl (tr_cok rfl (Or.inl rfl)) c_0 ?_
  have hL0 := c_0.2
  exact tr_if1 .eq 12 23 v0 rfl rfl rfl (fun hc => t ((tr_eq hc).1 rfl)) (fun hc => f ((tr_eq hc).2 rfl))
theorem sg_X9_areOptions_14 {g : tr_g} {d : Nat} {h : ev_AH} {r : ev_O × ev_AH} {x0 x1 : Int32} (hL : hh_L h) (t : x0 = x1 → tr_L g d m_X9_areOptions 23 [some (.int x0), some (.int x1)] [] h r) (f : x0 ≠ x1 → tr_L g d m_X9_areOptions 19 [some (.int x0), some (.int x1)] [] h r) : tr_L g d m_X9_areOptions 14 [some (.int x0), some (.int x1)] [] h r := by
  refine tr_s (.iload_n 0) 1 15 [some (.int x0), some (.int x1)] [.int x0] h rfl rfl rfl ?_
  refine tr_s (.iload_n 1) 1 16 [some (.int x0), some (.int x1)] [.int x1, .int x0] h rfl rfl rfl ?_
  exact tr_if2 .eq 7 23 x0 x1 rfl rfl rfl (fun hc => t ((tr_eq hc).1 rfl)) (fun hc => f ((tr_eq hc).2 rfl))
theorem sg_X9_areOptions_19 {g : tr_g} {d : Nat} {h : ev_AH} {r : ev_O × ev_AH} {w0 w1 : Option Value} (hL : hh_L h) (hr : r = (.inl (some (.int 1)), h)) : tr_L g d m_X9_areOptions 19 [w0, w1] [] h r := by
  refine tr_ic 1 1 (by decide) rfl ?_
  refine tr_goto 4 24 rfl rfl rfl ?_
  exact tl_ret hL .ireturn 1 (some (.int 1)) rfl rfl rfl rfl hr
theorem sg_X9_areOptions_23 {g : tr_g} {d : Nat} {h : ev_AH} {r : ev_O × ev_AH} {w0 w1 : Option Value} (hL : hh_L h) (hr : r = (.inl (some (.int 0)), h)) : tr_L g d m_X9_areOptions 23 [w0, w1] [] h r := by
  refine tr_ic 0 0 (by decide) rfl ?_
  exact tl_ret hL .ireturn 1 (some (.int 0)) rfl rfl rfl rfl hr
theorem sg_X9_likes_0 {g : tr_g} {d : Nat} {h : ev_AH} {r : ev_O × ev_AH} {x1 x2 : Int32} (hL : hh_L h) (k : tr_L g d m_X9_likes 5 [some (.ref 1099), some (.int x1), some (.int x2), some (.int 0), some (.int 0)] [] h r) : tr_L g d m_X9_likes 0 [some (.ref 1099), some (.int x1), some (.int x2), none, none] [] h r := by
  refine tr_ic 0 0 (by decide) rfl ?_
  refine tr_st (.istore_n 3) 1 3 0 (.int 0) rfl rfl rfl rfl rfl rfl rfl ?_
  refine tr_ic 0 0 (by decide) rfl ?_
  refine tr_st (.istore 4) 2 4 0 (.int 0) rfl rfl rfl rfl rfl rfl rfl ?_
  exact k
theorem sg_X9_likes_5 {g : tr_g} {d : Nat} {h : ev_AH} {r : ev_O × ev_AH} {x1 x2 x3 x4 : Int32} {j0 : Nat} (hL : hh_L h) (e0 : 1 = Int32.ofNat j0) (b0 : j0 < 124) (t : ((hh_a h 100).getD j0 0) ≤ x4 → tr_L g d m_X9_likes 47 [some (.ref 1099), some (.int x1), some (.int x2), some (.int x3), some (.int x4)] [] h r) (f : x4 < ((hh_a h 100).getD j0 0) → tr_L g d m_X9_likes 16 [some (.ref 1099), some (.int x1), some (.int x2), some (.int x3), some (.int x4)] [] h r) : tr_L g d m_X9_likes 5 [some (.ref 1099), some (.int x1), some (.int x2), some (.int x3), some (.int x4)] [] h r := by
  refine tr_s (.iload 4) 2 7 [some (.ref 1099), some (.int x1), some (.int x2), some (.int x3), some (.int x4)] [.int x4] h rfl rfl rfl ?_
  refine tr_s (.aload_n 0) 1 8 [some (.ref 1099), some (.int x1), some (.int x2), some (.int x3), some (.int x4)] [.ref 1099, .int x4] h rfl rfl rfl ?_
  refine tl_gr hL 9 99 8 0 100 [1100, 1101, 1102, 1103, 1104, 1105, 0, 0, 0, 0, 0, 0, 0, 0, 0, 0, 0, 0, 0, 0, 0, 1106, 0, 1107, 1108, 0, 0, 0] rfl rfl rfl rfl ?_
  refine tr_ic 1 1 (by decide) rfl ?_
  refine tl_ald hL .iaload 100 0 124 j0 1 rfl (by decide) rfl e0 b0 (by decide) ?_
  exact tr_if2 .ge 34 47 x4 ((hh_a h 100).getD j0 0) rfl rfl rfl (fun hc => t ((tr_ge hc).1 rfl)) (fun hc => f ((tr_ge hc).2 rfl))
theorem sg_X9_likes_16 {g : tr_g} {d : Nat} {h : ev_AH} {r : ev_O × ev_AH} {x1 x2 x3 x4 v0 v1 : Int32} {h1 h2 : ev_AH} (hL : hh_L h) (c_0 : tr_L g d m_X9_place 0 [some (.ref 1099), some (.int x4), some (.int x1), none] [] h (.inl (some (.int v0)), h1)) (c_1 : tr_L g d m_X9_place 0 [some (.ref 1099), some (.int x4), some (.int x2), none] [] h1 (.inl (some (.int v1)), h2)) (t : v1 ≤ v0 → tr_L g (d + 1) m_X9_likes 38 [some (.ref 1099), some (.int x1), some (.int x2), some (.int x3), some (.int x4)] [.int x3] h2 r) (f : v0 < v1 → tr_L g (d + 1) m_X9_likes 34 [some (.ref 1099), some (.int x1), some (.int x2), some (.int x3), some (.int x4)] [.int x3] h2 r) : tr_L g (d + 1) m_X9_likes 16 [some (.ref 1099), some (.int x1), some (.int x2), some (.int x3), some (.int x4)] [] h r := by
  refine tr_s (.iload_n 3) 1 17 [some (.ref 1099), some (.int x1), some (.int x2), some (.int x3), some (.int x4)] [.int x3] h rfl rfl rfl ?_
  refine tr_s (.aload_n 0) 1 18 [some (.ref 1099), some (.int x1), some (.int x2), some (.int x3), some (.int x4)] [.ref 1099, .int x3] h rfl rfl rfl ?_
  refine tr_s (.iload 4) 2 20 [some (.ref 1099), some (.int x1), some (.int x2), some (.int x3), some (.int x4)] [.int x4, .ref 1099, .int x3] h rfl rfl rfl ?_
  refine tr_s (.iload_n 1) 1 21 [some (.ref 1099), some (.int x1), some (.int x2), some (.int x3), some (.int x4)] [.int x1, .int x4, .ref 1099, .int x3] h rfl rfl rfl ?_
  refine tr_call (.invokevirtual 126) 126 0 2 8 m_X9_place [.ref 1099, .int x4, .int x1] [.int x3] (some (.int v0)) h1 rfl rfl rfl rfl rfl rfl rfl rfl rfl (tr_cok rfl (Or.inr ⟨_, _, rfl, tr_rc (hh_rd (hh_obj hL (k := 99) rfl).1) (by decide)⟩)) c_0 ?_
  have hL0 := c_0.2
  refine tr_s (.aload_n 0) 1 25 [some (.ref 1099), some (.int x1), some (.int x2), some (.int x3), some (.int x4)] [.ref 1099, .int v0, .int x3] h1 rfl rfl rfl ?_
  refine tr_s (.iload 4) 2 27 [some (.ref 1099), some (.int x1), some (.int x2), some (.int x3), some (.int x4)] [.int x4, .ref 1099, .int v0, .int x3] h1 rfl rfl rfl ?_
  refine tr_s (.iload_n 2) 1 28 [some (.ref 1099), some (.int x1), some (.int x2), some (.int x3), some (.int x4)] [.int x2, .int x4, .ref 1099, .int v0, .int x3] h1 rfl rfl rfl ?_
  refine tr_call (.invokevirtual 126) 126 0 2 8 m_X9_place [.ref 1099, .int x4, .int x2] [.int v0, .int x3] (some (.int v1)) h2 rfl rfl rfl rfl rfl rfl rfl rfl rfl (tr_cok rfl (Or.inr ⟨_, _, rfl, tr_rc (hh_rd (hh_obj hL0 (k := 99) rfl).1) (by decide)⟩)) c_1 ?_
  have hL1 := c_1.2
  exact tr_if2 .ge 7 38 v0 v1 rfl rfl rfl (fun hc => t ((tr_ge hc).1 rfl)) (fun hc => f ((tr_ge hc).2 rfl))
theorem sg_X9_likes_34 {g : tr_g} {d : Nat} {h : ev_AH} {r : ev_O × ev_AH} {x1 x2 x4 s0 : Int32} {w3 : Option Value} (hL : hh_L h) (k : tr_L g d m_X9_likes 5 [some (.ref 1099), some (.int x1), some (.int x2), some (.int (s0 + 1)), some (.int (x4 + 1))] [] h r) : tr_L g d m_X9_likes 34 [some (.ref 1099), some (.int x1), some (.int x2), w3, some (.int x4)] [.int s0] h r := by
  refine tr_ic 1 1 (by decide) rfl ?_
  refine tr_goto 4 39 rfl rfl rfl ?_
  refine tr_s .iadd 1 40 [some (.ref 1099), some (.int x1), some (.int x2), w3, some (.int x4)] [.int (s0 + 1)] h rfl rfl rfl ?_
  refine tr_st (.istore_n 3) 1 3 0 (.int (s0 + 1)) rfl rfl rfl rfl rfl rfl rfl ?_
  refine tr_inc 4 1 x4 1 (by decide) rfl rfl rfl ?_
  refine tr_goto (-39) 5 rfl rfl rfl ?_
  exact k
theorem sg_X9_likes_38 {g : tr_g} {d : Nat} {h : ev_AH} {r : ev_O × ev_AH} {x1 x2 x4 s0 : Int32} {w3 : Option Value} (hL : hh_L h) (k : tr_L g d m_X9_likes 5 [some (.ref 1099), some (.int x1), some (.int x2), some (.int (s0 + 0)), some (.int (x4 + 1))] [] h r) : tr_L g d m_X9_likes 38 [some (.ref 1099), some (.int x1), some (.int x2), w3, some (.int x4)] [.int s0] h r := by
  refine tr_ic 0 0 (by decide) rfl ?_
  refine tr_s .iadd 1 40 [some (.ref 1099), some (.int x1), some (.int x2), w3, some (.int x4)] [.int (s0 + 0)] h rfl rfl rfl ?_
  refine tr_st (.istore_n 3) 1 3 0 (.int (s0 + 0)) rfl rfl rfl rfl rfl rfl rfl ?_
  refine tr_inc 4 1 x4 1 (by decide) rfl rfl rfl ?_
  refine tr_goto (-39) 5 rfl rfl rfl ?_
  exact k
theorem sg_X9_likes_47 {g : tr_g} {d : Nat} {h : ev_AH} {r : ev_O × ev_AH} {w0 w1 w2 w4 : Option Value} {x3 : Int32} (hL : hh_L h) (hr : r = (.inl (some (.int x3)), h)) : tr_L g d m_X9_likes 47 [w0, w1, w2, some (.int x3), w4] [] h r := by
  refine tr_s (.iload_n 3) 1 48 [w0, w1, w2, some (.int x3), w4] [.int x3] h rfl rfl rfl ?_
  exact tl_ret hL .ireturn 1 (some (.int x3)) rfl rfl rfl rfl hr
theorem sg_X9_pointsOf_0 {g : tr_g} {d : Nat} {h : ev_AH} {r : ev_O × ev_AH} {x1 v0 : Int32} {h1 : ev_AH} (hL : hh_L h) (c_0 : tr_L g d m_X9_isOption 0 [some (.int x1)] [] h (.inl (some (.int v0)), h1)) (t : v0 ≠ 0 → tr_L g (d + 1) m_X9_pointsOf 12 [some (.ref 1099), some (.int x1)] [.ref 1099] h1 r) (f : v0 = 0 → tr_L g (d + 1) m_X9_pointsOf 8 [some (.ref 1099), some (.int x1)] [.ref 1099] h1 r) : tr_L g (d + 1) m_X9_pointsOf 0 [some (.ref 1099), some (.int x1)] [] h r := by
  refine tr_s (.aload_n 0) 1 1 [some (.ref 1099), some (.int x1)] [.ref 1099] h rfl rfl rfl ?_
  refine tr_s (.iload_n 1) 1 2 [some (.ref 1099), some (.int x1)] [.int x1, .ref 1099] h rfl rfl rfl ?_
  refine tr_call (.invokestatic 78) 78 2 1 0 m_X9_isOption [.int x1] [.ref 1099] (some (.int v0)) h1 rfl rfl rfl rfl rfl rfl rfl rfl rfl (tr_cok rfl (Or.inl rfl)) c_0 ?_
  have hL0 := c_0.2
  exact tr_if1 .ne 7 12 v0 rfl rfl rfl (fun hc => t ((tr_ne hc).1 rfl)) (fun hc => f ((tr_ne hc).2 rfl))
theorem sg_X9_pointsOf_8 {g : tr_g} {d : Nat} {h : ev_AH} {r : ev_O × ev_AH} {x1 v0 : Int32} {h1 : ev_AH} (hL : hh_L h) (c_0 : tr_L g d m_X9_isThrown 0 [some (.ref 1099), some (.int 1), some (.int 1)] [] h (.inl (some (.int v0)), h1)) (t : v0 = 0 → tr_L g (d + 1) m_X9_pointsOf 24 [some (.ref 1099), some (.int x1)] [] h1 r) (f : v0 ≠ 0 → tr_L g (d + 1) m_X9_pointsOf 20 [some (.ref 1099), some (.int x1)] [] h1 r) : tr_L g (d + 1) m_X9_pointsOf 8 [some (.ref 1099), some (.int x1)] [.ref 1099] h r := by
  refine tr_ic 1 1 (by decide) rfl ?_
  refine tr_goto 4 13 rfl rfl rfl ?_
  refine tr_ic 1 1 (by decide) rfl ?_
  refine tr_call (.invokevirtual 66) 66 0 2 8 m_X9_isThrown [.ref 1099, .int 1, .int 1] [] (some (.int v0)) h1 rfl rfl rfl rfl rfl rfl rfl rfl rfl (tr_cok rfl (Or.inr ⟨_, _, rfl, tr_rc (hh_rd (hh_obj hL (k := 99) rfl).1) (by decide)⟩)) c_0 ?_
  have hL0 := c_0.2
  exact tr_if1 .eq 7 24 v0 rfl rfl rfl (fun hc => t ((tr_eq hc).1 rfl)) (fun hc => f ((tr_eq hc).2 rfl))
theorem sg_X9_pointsOf_12 {g : tr_g} {d : Nat} {h : ev_AH} {r : ev_O × ev_AH} {x1 v0 : Int32} {h1 : ev_AH} (hL : hh_L h) (c_0 : tr_L g d m_X9_isThrown 0 [some (.ref 1099), some (.int 0), some (.int 1)] [] h (.inl (some (.int v0)), h1)) (t : v0 = 0 → tr_L g (d + 1) m_X9_pointsOf 24 [some (.ref 1099), some (.int x1)] [] h1 r) (f : v0 ≠ 0 → tr_L g (d + 1) m_X9_pointsOf 20 [some (.ref 1099), some (.int x1)] [] h1 r) : tr_L g (d + 1) m_X9_pointsOf 12 [some (.ref 1099), some (.int x1)] [.ref 1099] h r := by
  refine tr_ic 0 0 (by decide) rfl ?_
  refine tr_ic 1 1 (by decide) rfl ?_
  refine tr_call (.invokevirtual 66) 66 0 2 8 m_X9_isThrown [.ref 1099, .int 0, .int 1] [] (some (.int v0)) h1 rfl rfl rfl rfl rfl rfl rfl rfl rfl (tr_cok rfl (Or.inr ⟨_, _, rfl, tr_rc (hh_rd (hh_obj hL (k := 99) rfl).1) (by decide)⟩)) c_0 ?_
  have hL0 := c_0.2
  exact tr_if1 .eq 7 24 v0 rfl rfl rfl (fun hc => t ((tr_eq hc).1 rfl)) (fun hc => f ((tr_eq hc).2 rfl))
theorem sg_X9_pointsOf_20 {g : tr_g} {d : Nat} {h : ev_AH} {r : ev_O × ev_AH} {w0 w1 : Option Value} (hL : hh_L h) (hr : r = (.inl (some (.int 0)), h)) : tr_L g d m_X9_pointsOf 20 [w0, w1] [] h r := by
  refine tr_ic 0 0 (by decide) rfl ?_
  refine tr_goto 11 32 rfl rfl rfl ?_
  exact tl_ret hL .ireturn 1 (some (.int 0)) rfl rfl rfl rfl hr
theorem sg_X9_pointsOf_24 {g : tr_g} {d : Nat} {h : ev_AH} {r : ev_O × ev_AH} {x1 v0 : Int32} {h1 : ev_AH} (hL : hh_L h) (c_0 : tr_L g d m_X9_points 0 [some (.ref 1099), some (.int (x1 - 97)), none, none] [] h (.inl (some (.int v0)), h1)) (hr : r = (.inl (some (.int v0)), h1)) : tr_L g (d + 1) m_X9_pointsOf 24 [some (.ref 1099), some (.int x1)] [] h r := by
  refine tr_s (.aload_n 0) 1 25 [some (.ref 1099), some (.int x1)] [.ref 1099] h rfl rfl rfl ?_
  refine tr_s (.iload_n 1) 1 26 [some (.ref 1099), some (.int x1)] [.int x1, .ref 1099] h rfl rfl rfl ?_
  refine tr_bi 97 97 (by decide) rfl ?_
  refine tr_s .isub 1 29 [some (.ref 1099), some (.int x1)] [.int (x1 - 97), .ref 1099] h rfl rfl rfl ?_
  refine tr_call (.invokevirtual 194) 194 0 1 8 m_X9_points [.ref 1099, .int (x1 - 97)] [] (some (.int v0)) h1 rfl rfl rfl rfl rfl rfl rfl rfl rfl (tr_cok rfl (Or.inr ⟨_, _, rfl, tr_rc (hh_rd (hh_obj hL (k := 99) rfl).1) (by decide)⟩)) c_0 ?_
  have hL0 := c_0.2
  exact tl_ret hL0 .ireturn 1 (some (.int v0)) rfl rfl rfl rfl hr
theorem sg_X9_points_0 {g : tr_g} {d : Nat} {h : ev_AH} {r : ev_O × ev_AH} {x1 : Int32} (hL : hh_L h) (k : tr_L g d m_X9_points 4 [some (.ref 1099), some (.int x1), some (.int 0), some (.int 0)] [] h r) : tr_L g d m_X9_points 0 [some (.ref 1099), some (.int x1), none, none] [] h r := by
  refine tr_ic 0 0 (by decide) rfl ?_
  refine tr_st (.istore_n 2) 1 2 0 (.int 0) rfl rfl rfl rfl rfl rfl rfl ?_
  refine tr_ic 0 0 (by decide) rfl ?_
  refine tr_st (.istore_n 3) 1 3 0 (.int 0) rfl rfl rfl rfl rfl rfl rfl ?_
  exact k
theorem sg_X9_points_4 {g : tr_g} {d : Nat} {h : ev_AH} {r : ev_O × ev_AH} {x1 x2 x3 : Int32} {j0 : Nat} (hL : hh_L h) (e0 : 1 = Int32.ofNat j0) (b0 : j0 < 124) (t : ((hh_a h 100).getD j0 0) ≤ x3 → tr_L g d m_X9_points 31 [some (.ref 1099), some (.int x1), some (.int x2), some (.int x3)] [] h r) (f : x3 < ((hh_a h 100).getD j0 0) → tr_L g d m_X9_points 14 [some (.ref 1099), some (.int x1), some (.int x2), some (.int x3)] [] h r) : tr_L g d m_X9_points 4 [some (.ref 1099), some (.int x1), some (.int x2), some (.int x3)] [] h r := by
  refine tr_s (.iload_n 3) 1 5 [some (.ref 1099), some (.int x1), some (.int x2), some (.int x3)] [.int x3] h rfl rfl rfl ?_
  refine tr_s (.aload_n 0) 1 6 [some (.ref 1099), some (.int x1), some (.int x2), some (.int x3)] [.ref 1099, .int x3] h rfl rfl rfl ?_
  refine tl_gr hL 9 99 8 0 100 [1100, 1101, 1102, 1103, 1104, 1105, 0, 0, 0, 0, 0, 0, 0, 0, 0, 0, 0, 0, 0, 0, 0, 1106, 0, 1107, 1108, 0, 0, 0] rfl rfl rfl rfl ?_
  refine tr_ic 1 1 (by decide) rfl ?_
  refine tl_ald hL .iaload 100 0 124 j0 1 rfl (by decide) rfl e0 b0 (by decide) ?_
  exact tr_if2 .ge 20 31 x3 ((hh_a h 100).getD j0 0) rfl rfl rfl (fun hc => t ((tr_ge hc).1 rfl)) (fun hc => f ((tr_ge hc).2 rfl))
theorem sg_X9_points_14 {g : tr_g} {d : Nat} {h : ev_AH} {r : ev_O × ev_AH} {x1 x2 x3 v0 : Int32} {h1 : ev_AH} (hL : hh_L h) (c_0 : tr_L g d m_X9_place 0 [some (.ref 1099), some (.int x3), some (.int x1), none] [] h (.inl (some (.int v0)), h1)) (k : tr_L g (d + 1) m_X9_points 4 [some (.ref 1099), some (.int x1), some (.int (x2 + (3 - v0))), some (.int (x3 + 1))] [] h1 r) : tr_L g (d + 1) m_X9_points 14 [some (.ref 1099), some (.int x1), some (.int x2), some (.int x3)] [] h r := by
  refine tr_s (.iload_n 2) 1 15 [some (.ref 1099), some (.int x1), some (.int x2), some (.int x3)] [.int x2] h rfl rfl rfl ?_
  refine tr_ic 3 3 (by decide) rfl ?_
  refine tr_s (.aload_n 0) 1 17 [some (.ref 1099), some (.int x1), some (.int x2), some (.int x3)] [.ref 1099, .int 3, .int x2] h rfl rfl rfl ?_
  refine tr_s (.iload_n 3) 1 18 [some (.ref 1099), some (.int x1), some (.int x2), some (.int x3)] [.int x3, .ref 1099, .int 3, .int x2] h rfl rfl rfl ?_
  refine tr_s (.iload_n 1) 1 19 [some (.ref 1099), some (.int x1), some (.int x2), some (.int x3)] [.int x1, .int x3, .ref 1099, .int 3, .int x2] h rfl rfl rfl ?_
  refine tr_call (.invokevirtual 126) 126 0 2 8 m_X9_place [.ref 1099, .int x3, .int x1] [.int 3, .int x2] (some (.int v0)) h1 rfl rfl rfl rfl rfl rfl rfl rfl rfl (tr_cok rfl (Or.inr ⟨_, _, rfl, tr_rc (hh_rd (hh_obj hL (k := 99) rfl).1) (by decide)⟩)) c_0 ?_
  have hL0 := c_0.2
  refine tr_s .isub 1 23 [some (.ref 1099), some (.int x1), some (.int x2), some (.int x3)] [.int (3 - v0), .int x2] h1 rfl rfl rfl ?_
  refine tr_s .iadd 1 24 [some (.ref 1099), some (.int x1), some (.int x2), some (.int x3)] [.int (x2 + (3 - v0))] h1 rfl rfl rfl ?_
  refine tr_st (.istore_n 2) 1 2 0 (.int (x2 + (3 - v0))) rfl rfl rfl rfl rfl rfl rfl ?_
  refine tr_inc 3 1 x3 1 (by decide) rfl rfl rfl ?_
  refine tr_goto (-24) 4 rfl rfl rfl ?_
  exact k
theorem sg_X9_points_31 {g : tr_g} {d : Nat} {h : ev_AH} {r : ev_O × ev_AH} {w0 w1 w3 : Option Value} {x2 : Int32} (hL : hh_L h) (hr : r = (.inl (some (.int x2)), h)) : tr_L g d m_X9_points 31 [w0, w1, some (.int x2), w3] [] h r := by
  refine tr_s (.iload_n 2) 1 32 [w0, w1, some (.int x2), w3] [.int x2] h rfl rfl rfl ?_
  exact tl_ret hL .ireturn 1 (some (.int x2)) rfl rfl rfl rfl hr
theorem sg_X9_pointsWinner_0 {g : tr_g} {d : Nat} {h : ev_AH} {r : ev_O × ev_AH} {j0 : Nat} (hL : hh_L h) (e0 : 1 = Int32.ofNat j0) (b0 : j0 < 124) (t : ((hh_a h 100).getD j0 0) ≠ 0 → tr_L g d m_X9_pointsWinner 14 [some (.ref 1099)] [.ref 1099] h r) (f : ((hh_a h 100).getD j0 0) = 0 → tr_L g d m_X9_pointsWinner 10 [some (.ref 1099)] [.ref 1099] h r) : tr_L g d m_X9_pointsWinner 0 [some (.ref 1099)] [] h r := by
  refine tr_s (.aload_n 0) 1 1 [some (.ref 1099)] [.ref 1099] h rfl rfl rfl ?_
  refine tr_s (.aload_n 0) 1 2 [some (.ref 1099)] [.ref 1099, .ref 1099] h rfl rfl rfl ?_
  refine tl_gr hL 9 99 8 0 100 [1100, 1101, 1102, 1103, 1104, 1105, 0, 0, 0, 0, 0, 0, 0, 0, 0, 0, 0, 0, 0, 0, 0, 1106, 0, 1107, 1108, 0, 0, 0] rfl rfl rfl rfl ?_
  refine tr_ic 1 1 (by decide) rfl ?_
  refine tl_ald hL .iaload 100 0 124 j0 1 rfl (by decide) rfl e0 b0 (by decide) ?_
  exact tr_if1 .ne 7 14 ((hh_a h 100).getD j0 0) rfl rfl rfl (fun hc => t ((tr_ne hc).1 rfl)) (fun hc => f ((tr_ne hc).2 rfl))
theorem sg_X9_pointsWinner_10 {g : tr_g} {d : Nat} {h : ev_AH} {r : ev_O × ev_AH} {h1 : ev_AH} {v0 : Int32} (hL : hh_L h) (c_0 : tr_L g d m_X9_isThrown 0 [some (.ref 1099), some (.int 1), some (.int 1)] [] h (.inl (some (.int v0)), h1)) (t : v0 = 0 → tr_L g (d + 1) m_X9_pointsWinner 26 [some (.ref 1099)] [] h1 r) (f : v0 ≠ 0 → tr_L g (d + 1) m_X9_pointsWinner 22 [some (.ref 1099)] [] h1 r) : tr_L g (d + 1) m_X9_pointsWinner 10 [some (.ref 1099)] [.ref 1099] h r := by
  refine tr_ic 1 1 (by decide) rfl ?_
  refine tr_goto 4 15 rfl rfl rfl ?_
  refine tr_ic 1 1 (by decide) rfl ?_
  refine tr_call (.invokevirtual 66) 66 0 2 8 m_X9_isThrown [.ref 1099, .int 1, .int 1] [] (some (.int v0)) h1 rfl rfl rfl rfl rfl rfl rfl rfl rfl (tr_cok rfl (Or.inr ⟨_, _, rfl, tr_rc (hh_rd (hh_obj hL (k := 99) rfl).1) (by decide)⟩)) c_0 ?_
  have hL0 := c_0.2
  exact tr_if1 .eq 7 26 v0 rfl rfl rfl (fun hc => t ((tr_eq hc).1 rfl)) (fun hc => f ((tr_eq hc).2 rfl))
theorem sg_X9_pointsWinner_14 {g : tr_g} {d : Nat} {h : ev_AH} {r : ev_O × ev_AH} {h1 : ev_AH} {v0 : Int32} (hL : hh_L h) (c_0 : tr_L g d m_X9_isThrown 0 [some (.ref 1099), some (.int 0), some (.int 1)] [] h (.inl (some (.int v0)), h1)) (t : v0 = 0 → tr_L g (d + 1) m_X9_pointsWinner 26 [some (.ref 1099)] [] h1 r) (f : v0 ≠ 0 → tr_L g (d + 1) m_X9_pointsWinner 22 [some (.ref 1099)] [] h1 r) : tr_L g (d + 1) m_X9_pointsWinner 14 [some (.ref 1099)] [.ref 1099] h r := by
  refine tr_ic 0 0 (by decide) rfl ?_
  refine tr_ic 1 1 (by decide) rfl ?_
  refine tr_call (.invokevirtual 66) 66 0 2 8 m_X9_isThrown [.ref 1099, .int 0, .int 1] [] (some (.int v0)) h1 rfl rfl rfl rfl rfl rfl rfl rfl rfl (tr_cok rfl (Or.inr ⟨_, _, rfl, tr_rc (hh_rd (hh_obj hL (k := 99) rfl).1) (by decide)⟩)) c_0 ?_
  have hL0 := c_0.2
  exact tr_if1 .eq 7 26 v0 rfl rfl rfl (fun hc => t ((tr_eq hc).1 rfl)) (fun hc => f ((tr_eq hc).2 rfl))
theorem sg_X9_pointsWinner_22 {g : tr_g} {d : Nat} {h : ev_AH} {r : ev_O × ev_AH} {w0 : Option Value} (hL : hh_L h) (hr : r = (.inl (some (.int 0)), h)) : tr_L g d m_X9_pointsWinner 22 [w0] [] h r := by
  refine tr_ic 0 0 (by decide) rfl ?_
  refine tr_goto 11 34 rfl rfl rfl ?_
  exact tl_ret hL .ireturn 1 (some (.int 0)) rfl rfl rfl rfl hr
theorem sg_X9_pointsWinner_26 {g : tr_g} {d : Nat} {h : ev_AH} {r : ev_O × ev_AH} {h1 : ev_AH} {v0 : Int32} (hL : hh_L h) (c_0 : tr_L g d m_X9_byPoints 0 [some (.ref 1099), none, none] [] h (.inl (some (.int v0)), h1)) (hc0 : tr_ch (((97 + v0).toUInt32 % 65536).toInt32)) (hr : r = (.inl (some (.int (((97 + v0).toUInt32 % 65536).toInt32))), h1)) : tr_L g (d + 1) m_X9_pointsWinner 26 [some (.ref 1099)] [] h r := by
  refine tr_bi 97 97 (by decide) rfl ?_
  refine tr_s (.aload_n 0) 1 29 [some (.ref 1099)] [.ref 1099, .int 97] h rfl rfl rfl ?_
  refine tr_call (.invokevirtual 209) 209 0 0 8 m_X9_byPoints [.ref 1099] [.int 97] (some (.int v0)) h1 rfl rfl rfl rfl rfl rfl rfl rfl rfl (tr_cok rfl (Or.inr ⟨_, _, rfl, tr_rc (hh_rd (hh_obj hL (k := 99) rfl).1) (by decide)⟩)) c_0 ?_
  have hL0 := c_0.2
  refine tr_s .iadd 1 33 [some (.ref 1099)] [.int (97 + v0)] h1 rfl rfl rfl ?_
  refine tr_s .i2c 1 34 [some (.ref 1099)] [.int (((97 + v0).toUInt32 % 65536).toInt32)] h1 rfl rfl rfl ?_
  exact tl_ret hL0 .ireturn 1 (some (.int (((97 + v0).toUInt32 % 65536).toInt32))) rfl rfl rfl (tr_ec rfl hc0) hr
theorem sg_X9_byPoints_0 {g : tr_g} {d : Nat} {h : ev_AH} {r : ev_O × ev_AH} (hL : hh_L h) (k : tr_L g d m_X9_byPoints 4 [some (.ref 1099), some (.int 0), some (.int 1)] [] h r) : tr_L g d m_X9_byPoints 0 [some (.ref 1099), none, none] [] h r := by
  refine tr_ic 0 0 (by decide) rfl ?_
  refine tr_st (.istore_n 1) 1 1 0 (.int 0) rfl rfl rfl rfl rfl rfl rfl ?_
  refine tr_ic 1 1 (by decide) rfl ?_
  refine tr_st (.istore_n 2) 1 2 0 (.int 1) rfl rfl rfl rfl rfl rfl rfl ?_
  exact k
theorem sg_X9_byPoints_4 {g : tr_g} {d : Nat} {h : ev_AH} {r : ev_O × ev_AH} {x1 x2 : Int32} (hL : hh_L h) (t : 4 ≤ x2 → tr_L g d m_X9_byPoints 34 [some (.ref 1099), some (.int x1), some (.int x2)] [] h r) (f : x2 < 4 → tr_L g d m_X9_byPoints 9 [some (.ref 1099), some (.int x1), some (.int x2)] [] h r) : tr_L g d m_X9_byPoints 4 [some (.ref 1099), some (.int x1), some (.int x2)] [] h r := by
  refine tr_s (.iload_n 2) 1 5 [some (.ref 1099), some (.int x1), some (.int x2)] [.int x2] h rfl rfl rfl ?_
  refine tr_ic 4 4 (by decide) rfl ?_
  exact tr_if2 .ge 28 34 x2 4 rfl rfl rfl (fun hc => t ((tr_ge hc).1 rfl)) (fun hc => f ((tr_ge hc).2 rfl))
theorem sg_X9_byPoints_9 {g : tr_g} {d : Nat} {h : ev_AH} {r : ev_O × ev_AH} {x1 x2 v0 v1 : Int32} {h1 h2 : ev_AH} (hL : hh_L h) (c_0 : tr_L g d m_X9_points 0 [some (.ref 1099), some (.int x2), none, none] [] h (.inl (some (.int v0)), h1)) (c_1 : tr_L g d m_X9_points 0 [some (.ref 1099), some (.int x1), none, none] [] h1 (.inl (some (.int v1)), h2)) (t : v0 ≤ v1 → tr_L g (d + 1) m_X9_byPoints 26 [some (.ref 1099), some (.int x1), some (.int x2)] [] h2 r) (f : v1 < v0 → tr_L g (d + 1) m_X9_byPoints 22 [some (.ref 1099), some (.int x1), some (.int x2)] [] h2 r) : tr_L g (d + 1) m_X9_byPoints 9 [some (.ref 1099), some (.int x1), some (.int x2)] [] h r := by
  refine tr_s (.aload_n 0) 1 10 [some (.ref 1099), some (.int x1), some (.int x2)] [.ref 1099] h rfl rfl rfl ?_
  refine tr_s (.iload_n 2) 1 11 [some (.ref 1099), some (.int x1), some (.int x2)] [.int x2, .ref 1099] h rfl rfl rfl ?_
  refine tr_call (.invokevirtual 194) 194 0 1 8 m_X9_points [.ref 1099, .int x2] [] (some (.int v0)) h1 rfl rfl rfl rfl rfl rfl rfl rfl rfl (tr_cok rfl (Or.inr ⟨_, _, rfl, tr_rc (hh_rd (hh_obj hL (k := 99) rfl).1) (by decide)⟩)) c_0 ?_
  have hL0 := c_0.2
  refine tr_s (.aload_n 0) 1 15 [some (.ref 1099), some (.int x1), some (.int x2)] [.ref 1099, .int v0] h1 rfl rfl rfl ?_
  refine tr_s (.iload_n 1) 1 16 [some (.ref 1099), some (.int x1), some (.int x2)] [.int x1, .ref 1099, .int v0] h1 rfl rfl rfl ?_
  refine tr_call (.invokevirtual 194) 194 0 1 8 m_X9_points [.ref 1099, .int x1] [.int v0] (some (.int v1)) h2 rfl rfl rfl rfl rfl rfl rfl rfl rfl (tr_cok rfl (Or.inr ⟨_, _, rfl, tr_rc (hh_rd (hh_obj hL0 (k := 99) rfl).1) (by decide)⟩)) c_1 ?_
  have hL1 := c_1.2
  exact tr_if2 .le 7 26 v0 v1 rfl rfl rfl (fun hc => t ((tr_le hc).1 rfl)) (fun hc => f ((tr_le hc).2 rfl))
theorem sg_X9_byPoints_22 {g : tr_g} {d : Nat} {h : ev_AH} {r : ev_O × ev_AH} {w1 : Option Value} {x2 : Int32} (hL : hh_L h) (k : tr_L g d m_X9_byPoints 4 [some (.ref 1099), some (.int x2), some (.int (x2 + 1))] [] h r) : tr_L g d m_X9_byPoints 22 [some (.ref 1099), w1, some (.int x2)] [] h r := by
  refine tr_s (.iload_n 2) 1 23 [some (.ref 1099), w1, some (.int x2)] [.int x2] h rfl rfl rfl ?_
  refine tr_goto 4 27 rfl rfl rfl ?_
  refine tr_st (.istore_n 1) 1 1 0 (.int x2) rfl rfl rfl rfl rfl rfl rfl ?_
  refine tr_inc 2 1 x2 1 (by decide) rfl rfl rfl ?_
  refine tr_goto (-27) 4 rfl rfl rfl ?_
  exact k
theorem sg_X9_byPoints_26 {g : tr_g} {d : Nat} {h : ev_AH} {r : ev_O × ev_AH} {x1 x2 : Int32} (hL : hh_L h) (k : tr_L g d m_X9_byPoints 4 [some (.ref 1099), some (.int x1), some (.int (x2 + 1))] [] h r) : tr_L g d m_X9_byPoints 26 [some (.ref 1099), some (.int x1), some (.int x2)] [] h r := by
  refine tr_s (.iload_n 1) 1 27 [some (.ref 1099), some (.int x1), some (.int x2)] [.int x1] h rfl rfl rfl ?_
  refine tr_st (.istore_n 1) 1 1 0 (.int x1) rfl rfl rfl rfl rfl rfl rfl ?_
  refine tr_inc 2 1 x2 1 (by decide) rfl rfl rfl ?_
  refine tr_goto (-27) 4 rfl rfl rfl ?_
  exact k
theorem sg_X9_byPoints_34 {g : tr_g} {d : Nat} {h : ev_AH} {r : ev_O × ev_AH} {w0 w2 : Option Value} {x1 : Int32} (hL : hh_L h) (hr : r = (.inl (some (.int x1)), h)) : tr_L g d m_X9_byPoints 34 [w0, some (.int x1), w2] [] h r := by
  refine tr_s (.iload_n 1) 1 35 [w0, some (.int x1), w2] [.int x1] h rfl rfl rfl ?_
  exact tl_ret hL .ireturn 1 (some (.int x1)) rfl rfl rfl rfl hr
theorem sg_X9_roundsWinner_0 {g : tr_g} {d : Nat} {h : ev_AH} {r : ev_O × ev_AH} {j0 : Nat} (hL : hh_L h) (e0 : 1 = Int32.ofNat j0) (b0 : j0 < 124) (t : ((hh_a h 100).getD j0 0) ≠ 0 → tr_L g d m_X9_roundsWinner 14 [some (.ref 1099)] [.ref 1099] h r) (f : ((hh_a h 100).getD j0 0) = 0 → tr_L g d m_X9_roundsWinner 10 [some (.ref 1099)] [.ref 1099] h r) : tr_L g d m_X9_roundsWinner 0 [some (.ref 1099)] [] h r := by
  refine tr_s (.aload_n 0) 1 1 [some (.ref 1099)] [.ref 1099] h rfl rfl rfl ?_
  refine tr_s (.aload_n 0) 1 2 [some (.ref 1099)] [.ref 1099, .ref 1099] h rfl rfl rfl ?_
  refine tl_gr hL 9 99 8 0 100 [1100, 1101, 1102, 1103, 1104, 1105, 0, 0, 0, 0, 0, 0, 0, 0, 0, 0, 0, 0, 0, 0, 0, 1106, 0, 1107, 1108, 0, 0, 0] rfl rfl rfl rfl ?_
  refine tr_ic 1 1 (by decide) rfl ?_
  refine tl_ald hL .iaload 100 0 124 j0 1 rfl (by decide) rfl e0 b0 (by decide) ?_
  exact tr_if1 .ne 7 14 ((hh_a h 100).getD j0 0) rfl rfl rfl (fun hc => t ((tr_ne hc).1 rfl)) (fun hc => f ((tr_ne hc).2 rfl))
theorem sg_X9_roundsWinner_10 {g : tr_g} {d : Nat} {h : ev_AH} {r : ev_O × ev_AH} {h1 : ev_AH} {v0 : Int32} (hL : hh_L h) (c_0 : tr_L g d m_X9_isThrown 0 [some (.ref 1099), some (.int 1), some (.int 1)] [] h (.inl (some (.int v0)), h1)) (t : v0 = 0 → tr_L g (d + 1) m_X9_roundsWinner 26 [some (.ref 1099)] [] h1 r) (f : v0 ≠ 0 → tr_L g (d + 1) m_X9_roundsWinner 22 [some (.ref 1099)] [] h1 r) : tr_L g (d + 1) m_X9_roundsWinner 10 [some (.ref 1099)] [.ref 1099] h r := by
  refine tr_ic 1 1 (by decide) rfl ?_
  refine tr_goto 4 15 rfl rfl rfl ?_
  refine tr_ic 1 1 (by decide) rfl ?_
  refine tr_call (.invokevirtual 66) 66 0 2 8 m_X9_isThrown [.ref 1099, .int 1, .int 1] [] (some (.int v0)) h1 rfl rfl rfl rfl rfl rfl rfl rfl rfl (tr_cok rfl (Or.inr ⟨_, _, rfl, tr_rc (hh_rd (hh_obj hL (k := 99) rfl).1) (by decide)⟩)) c_0 ?_
  have hL0 := c_0.2
  exact tr_if1 .eq 7 26 v0 rfl rfl rfl (fun hc => t ((tr_eq hc).1 rfl)) (fun hc => f ((tr_eq hc).2 rfl))
theorem sg_X9_roundsWinner_14 {g : tr_g} {d : Nat} {h : ev_AH} {r : ev_O × ev_AH} {h1 : ev_AH} {v0 : Int32} (hL : hh_L h) (c_0 : tr_L g d m_X9_isThrown 0 [some (.ref 1099), some (.int 0), some (.int 1)] [] h (.inl (some (.int v0)), h1)) (t : v0 = 0 → tr_L g (d + 1) m_X9_roundsWinner 26 [some (.ref 1099)] [] h1 r) (f : v0 ≠ 0 → tr_L g (d + 1) m_X9_roundsWinner 22 [some (.ref 1099)] [] h1 r) : tr_L g (d + 1) m_X9_roundsWinner 14 [some (.ref 1099)] [.ref 1099] h r := by
  refine tr_ic 0 0 (by decide) rfl ?_
  refine tr_ic 1 1 (by decide) rfl ?_
  refine tr_call (.invokevirtual 66) 66 0 2 8 m_X9_isThrown [.ref 1099, .int 0, .int 1] [] (some (.int v0)) h1 rfl rfl rfl rfl rfl rfl rfl rfl rfl (tr_cok rfl (Or.inr ⟨_, _, rfl, tr_rc (hh_rd (hh_obj hL (k := 99) rfl).1) (by decide)⟩)) c_0 ?_
  have hL0 := c_0.2
  exact tr_if1 .eq 7 26 v0 rfl rfl rfl (fun hc => t ((tr_eq hc).1 rfl)) (fun hc => f ((tr_eq hc).2 rfl))
theorem sg_X9_roundsWinner_22 {g : tr_g} {d : Nat} {h : ev_AH} {r : ev_O × ev_AH} {w0 : Option Value} (hL : hh_L h) (hr : r = (.inl (some (.int 0)), h)) : tr_L g d m_X9_roundsWinner 22 [w0] [] h r := by
  refine tr_ic 0 0 (by decide) rfl ?_
  refine tr_goto 11 34 rfl rfl rfl ?_
  exact tl_ret hL .ireturn 1 (some (.int 0)) rfl rfl rfl rfl hr
theorem sg_X9_roundsWinner_26 {g : tr_g} {d : Nat} {h : ev_AH} {r : ev_O × ev_AH} {h1 : ev_AH} {v0 : Int32} (hL : hh_L h) (c_0 : tr_L g d m_X9_byRounds 0 [some (.ref 1099), none] [] h (.inl (some (.int v0)), h1)) (hc0 : tr_ch (((97 + v0).toUInt32 % 65536).toInt32)) (hr : r = (.inl (some (.int (((97 + v0).toUInt32 % 65536).toInt32))), h1)) : tr_L g (d + 1) m_X9_roundsWinner 26 [some (.ref 1099)] [] h r := by
  refine tr_bi 97 97 (by decide) rfl ?_
  refine tr_s (.aload_n 0) 1 29 [some (.ref 1099)] [.ref 1099, .int 97] h rfl rfl rfl ?_
  refine tr_call (.invokevirtual 212) 212 0 0 8 m_X9_byRounds [.ref 1099] [.int 97] (some (.int v0)) h1 rfl rfl rfl rfl rfl rfl rfl rfl rfl (tr_cok rfl (Or.inr ⟨_, _, rfl, tr_rc (hh_rd (hh_obj hL (k := 99) rfl).1) (by decide)⟩)) c_0 ?_
  have hL0 := c_0.2
  refine tr_s .iadd 1 33 [some (.ref 1099)] [.int (97 + v0)] h1 rfl rfl rfl ?_
  refine tr_s .i2c 1 34 [some (.ref 1099)] [.int (((97 + v0).toUInt32 % 65536).toInt32)] h1 rfl rfl rfl ?_
  exact tl_ret hL0 .ireturn 1 (some (.int (((97 + v0).toUInt32 % 65536).toInt32))) rfl rfl rfl (tr_ec rfl hc0) hr
theorem sg_X9_byRounds_0 {g : tr_g} {d : Nat} {h : ev_AH} {r : ev_O × ev_AH} (hL : hh_L h) (k : tr_L g d m_X9_byRounds 8 [some (.ref 1099), some (.int 15)] [] (hh_si h 99 8 19 1) r) : tr_L g d m_X9_byRounds 0 [some (.ref 1099), none] [] h r := by
  refine tr_bi 15 15 (by decide) rfl ?_
  refine tr_st (.istore_n 1) 1 1 0 (.int 15) rfl rfl rfl rfl rfl rfl rfl ?_
  refine tr_s (.aload_n 0) 1 4 [some (.ref 1099), some (.int 15)] [.ref 1099] h rfl rfl rfl ?_
  refine tr_ic 1 1 (by decide) rfl ?_
  refine tl_pf hL 197 99 8 19 [1100, 1101, 1102, 1103, 1104, 1105, 0, 0, 0, 0, 0, 0, 0, 0, 0, 0, 0, 0, 0, 0, 0, 1106, 0, 1107, 1108, 0, 0, 0] 1 .int rfl rfl rfl rfl rfl tr_oki ?_
  have hL0 := hh_L_si (sl := 19) (x := 1) hL (show hh_t[99]? = some (.inr (8, [1100, 1101, 1102, 1103, 1104, 1105, 0, 0, 0, 0, 0, 0, 0, 0, 0, 0, 0, 0, 0, 0, 0, 1106, 0, 1107, 1108, 0, 0, 0])) from rfl) rfl
  exact k
theorem sg_X9_byRounds_8 {g : tr_g} {d : Nat} {h : ev_AH} {r : ev_O × ev_AH} {x1 v0 : Int32} {h1 : ev_AH} (hL : hh_L h) (c_0 : tr_L g d m_X9_major 0 [some (.ref 1099), some (.int x1), none] [] h (.inl (some (.int v0)), h1)) (t : 0 ≤ v0 → tr_L g (d + 1) m_X9_byRounds 41 [some (.ref 1099), some (.int x1)] [] h1 r) (f : v0 < 0 → tr_L g (d + 1) m_X9_byRounds 16 [some (.ref 1099), some (.int x1)] [] h1 r) : tr_L g (d + 1) m_X9_byRounds 8 [some (.ref 1099), some (.int x1)] [] h r := by
  refine tr_s (.aload_n 0) 1 9 [some (.ref 1099), some (.int x1)] [.ref 1099] h rfl rfl rfl ?_
  refine tr_s (.iload_n 1) 1 10 [some (.ref 1099), some (.int x1)] [.int x1, .ref 1099] h rfl rfl rfl ?_
  refine tr_call (.invokevirtual 200) 200 0 1 8 m_X9_major [.ref 1099, .int x1] [] (some (.int v0)) h1 rfl rfl rfl rfl rfl rfl rfl rfl rfl (tr_cok rfl (Or.inr ⟨_, _, rfl, tr_rc (hh_rd (hh_obj hL (k := 99) rfl).1) (by decide)⟩)) c_0 ?_
  have hL0 := c_0.2
  exact tr_if1 .ge 28 41 v0 rfl rfl rfl (fun hc => t ((tr_ge hc).1 rfl)) (fun hc => f ((tr_ge hc).2 rfl))
theorem sg_X9_byRounds_16 {g : tr_g} {d : Nat} {h : ev_AH} {r : ev_O × ev_AH} {x1 v0 : Int32} {h1 : ev_AH} (hL : hh_L h) (c_0 : tr_L g d m_X9_leaves 0 [some (.ref 1099), some (.int x1), none, none, none] [] h (.inl (some (.int v0)), h1)) (k : tr_L g (d + 1) m_X9_byRounds 8 [some (.ref 1099), some (.int (x1 &&& ((1 <<< (v0 &&& 31)) ^^^ (-1))))] [] (hh_si h1 99 8 19 ((hh_i h1 99 19) + 1)) r) : tr_L g (d + 1) m_X9_byRounds 16 [some (.ref 1099), some (.int x1)] [] h r := by
  refine tr_s (.iload_n 1) 1 17 [some (.ref 1099), some (.int x1)] [.int x1] h rfl rfl rfl ?_
  refine tr_ic 1 1 (by decide) rfl ?_
  refine tr_s (.aload_n 0) 1 19 [some (.ref 1099), some (.int x1)] [.ref 1099, .int 1, .int x1] h rfl rfl rfl ?_
  refine tr_s (.iload_n 1) 1 20 [some (.ref 1099), some (.int x1)] [.int x1, .ref 1099, .int 1, .int x1] h rfl rfl rfl ?_
  refine tr_call (.invokevirtual 203) 203 0 1 8 m_X9_leaves [.ref 1099, .int x1] [.int 1, .int x1] (some (.int v0)) h1 rfl rfl rfl rfl rfl rfl rfl rfl rfl (tr_cok rfl (Or.inr ⟨_, _, rfl, tr_rc (hh_rd (hh_obj hL (k := 99) rfl).1) (by decide)⟩)) c_0 ?_
  have hL0 := c_0.2
  refine tr_s .ishl 1 24 [some (.ref 1099), some (.int x1)] [.int (1 <<< (v0 &&& 31)), .int x1] h1 rfl rfl rfl ?_
  refine tr_ic (-1) (-1) (by decide) rfl ?_
  refine tr_s .ixor 1 26 [some (.ref 1099), some (.int x1)] [.int ((1 <<< (v0 &&& 31)) ^^^ (-1)), .int x1] h1 rfl rfl rfl ?_
  refine tr_s .iand 1 27 [some (.ref 1099), some (.int x1)] [.int (x1 &&& ((1 <<< (v0 &&& 31)) ^^^ (-1)))] h1 rfl rfl rfl ?_
  refine tr_st (.istore_n 1) 1 1 0 (.int (x1 &&& ((1 <<< (v0 &&& 31)) ^^^ (-1)))) rfl rfl rfl rfl rfl rfl rfl ?_
  refine tr_s (.aload_n 0) 1 29 [some (.ref 1099), some (.int (x1 &&& ((1 <<< (v0 &&& 31)) ^^^ (-1))))] [.ref 1099] h1 rfl rfl rfl ?_
  refine tr_s .dup 1 30 [some (.ref 1099), some (.int (x1 &&& ((1 <<< (v0 &&& 31)) ^^^ (-1))))] [.ref 1099, .ref 1099] h1 rfl rfl rfl ?_
  refine tl_gi hL0 197 99 8 19 [1100, 1101, 1102, 1103, 1104, 1105, 0, 0, 0, 0, 0, 0, 0, 0, 0, 0, 0, 0, 0, 0, 0, 1106, 0, 1107, 1108, 0, 0, 0] rfl rfl rfl rfl ?_
  refine tr_ic 1 1 (by decide) rfl ?_
  refine tr_s .iadd 1 35 [some (.ref 1099), some (.int (x1 &&& ((1 <<< (v0 &&& 31)) ^^^ (-1))))] [.int ((hh_i h1 99 19) + 1), .ref 1099] h1 rfl rfl rfl ?_
  refine tl_pf hL0 197 99 8 19 [1100, 1101, 1102, 1103, 1104, 1105, 0, 0, 0, 0, 0, 0, 0, 0, 0, 0, 0, 0, 0, 0, 0, 1106, 0, 1107, 1108, 0, 0, 0] ((hh_i h1 99 19) + 1) .int rfl rfl rfl rfl rfl tr_oki ?_
  have hL1 := hh_L_si (sl := 19) (x := ((hh_i h1 99 19) + 1)) hL0 (show hh_t[99]? = some (.inr (8, [1100, 1101, 1102, 1103, 1104, 1105, 0, 0, 0, 0, 0, 0, 0, 0, 0, 0, 0, 0, 0, 0, 0, 1106, 0, 1107, 1108, 0, 0, 0])) from rfl) rfl
  refine tr_goto (-30) 8 rfl rfl rfl ?_
  exact k
theorem sg_X9_byRounds_41 {g : tr_g} {d : Nat} {h : ev_AH} {r : ev_O × ev_AH} {x1 v0 : Int32} {h1 : ev_AH} (hL : hh_L h) (c_0 : tr_L g d m_X9_major 0 [some (.ref 1099), some (.int x1), none] [] h (.inl (some (.int v0)), h1)) (hr : r = (.inl (some (.int v0)), h1)) : tr_L g (d + 1) m_X9_byRounds 41 [some (.ref 1099), some (.int x1)] [] h r := by
  refine tr_s (.aload_n 0) 1 42 [some (.ref 1099), some (.int x1)] [.ref 1099] h rfl rfl rfl ?_
  refine tr_s (.iload_n 1) 1 43 [some (.ref 1099), some (.int x1)] [.int x1, .ref 1099] h rfl rfl rfl ?_
  refine tr_call (.invokevirtual 200) 200 0 1 8 m_X9_major [.ref 1099, .int x1] [] (some (.int v0)) h1 rfl rfl rfl rfl rfl rfl rfl rfl rfl (tr_cok rfl (Or.inr ⟨_, _, rfl, tr_rc (hh_rd (hh_obj hL (k := 99) rfl).1) (by decide)⟩)) c_0 ?_
  have hL0 := c_0.2
  exact tl_ret hL0 .ireturn 1 (some (.int v0)) rfl rfl rfl rfl hr
theorem sg_X9_major_0 {g : tr_g} {d : Nat} {h : ev_AH} {r : ev_O × ev_AH} {x1 : Int32} (hL : hh_L h) (k : tr_L g d m_X9_major 2 [some (.ref 1099), some (.int x1), some (.int 0)] [] h r) : tr_L g d m_X9_major 0 [some (.ref 1099), some (.int x1), none] [] h r := by
  refine tr_ic 0 0 (by decide) rfl ?_
  refine tr_st (.istore_n 2) 1 2 0 (.int 0) rfl rfl rfl rfl rfl rfl rfl ?_
  exact k
theorem sg_X9_major_2 {g : tr_g} {d : Nat} {h : ev_AH} {r : ev_O × ev_AH} {x1 x2 : Int32} (hL : hh_L h) (t : 4 ≤ x2 → tr_L g d m_X9_major 41 [some (.ref 1099), some (.int x1), some (.int x2)] [] h r) (f : x2 < 4 → tr_L g d m_X9_major 7 [some (.ref 1099), some (.int x1), some (.int x2)] [] h r) : tr_L g d m_X9_major 2 [some (.ref 1099), some (.int x1), some (.int x2)] [] h r := by
  refine tr_s (.iload_n 2) 1 3 [some (.ref 1099), some (.int x1), some (.int x2)] [.int x2] h rfl rfl rfl ?_
  refine tr_ic 4 4 (by decide) rfl ?_
  exact tr_if2 .ge 37 41 x2 4 rfl rfl rfl (fun hc => t ((tr_ge hc).1 rfl)) (fun hc => f ((tr_ge hc).2 rfl))
theorem sg_X9_major_7 {g : tr_g} {d : Nat} {h : ev_AH} {r : ev_O × ev_AH} {x1 x2 : Int32} (hL : hh_L h) (t : ((x1 >>> (x2 &&& 31)) &&& 1) ≠ 1 → tr_L g d m_X9_major 35 [some (.ref 1099), some (.int x1), some (.int x2)] [] h r) (f : ((x1 >>> (x2 &&& 31)) &&& 1) = 1 → tr_L g d m_X9_major 16 [some (.ref 1099), some (.int x1), some (.int x2)] [] h r) : tr_L g d m_X9_major 7 [some (.ref 1099), some (.int x1), some (.int x2)] [] h r := by
  refine tr_s (.iload_n 1) 1 8 [some (.ref 1099), some (.int x1), some (.int x2)] [.int x1] h rfl rfl rfl ?_
  refine tr_s (.iload_n 2) 1 9 [some (.ref 1099), some (.int x1), some (.int x2)] [.int x2, .int x1] h rfl rfl rfl ?_
  refine tr_s .ishr 1 10 [some (.ref 1099), some (.int x1), some (.int x2)] [.int (x1 >>> (x2 &&& 31))] h rfl rfl rfl ?_
  refine tr_ic 1 1 (by decide) rfl ?_
  refine tr_s .iand 1 12 [some (.ref 1099), some (.int x1), some (.int x2)] [.int ((x1 >>> (x2 &&& 31)) &&& 1)] h rfl rfl rfl ?_
  refine tr_ic 1 1 (by decide) rfl ?_
  exact tr_if2 .ne 22 35 ((x1 >>> (x2 &&& 31)) &&& 1) 1 rfl rfl rfl (fun hc => t ((tr_ne hc).1 rfl)) (fun hc => f ((tr_ne hc).2 rfl))
theorem sg_X9_major_16 {g : tr_g} {d : Nat} {h : ev_AH} {r : ev_O × ev_AH} {x1 x2 v0 : Int32} {h1 : ev_AH} {j0 : Nat} (hL : hh_L h) (c_0 : tr_L g d m_X9_votes 0 [some (.ref 1099), some (.int x2), some (.int x1), none, none, none] [] h (.inl (some (.int v0)), h1)) (e0 : 1 = Int32.ofNat j0) (b0 : j0 < 124) (t : (2 * v0) ≤ ((hh_a h1 100).getD j0 0) → tr_L g (d + 1) m_X9_major 35 [some (.ref 1099), some (.int x1), some (.int x2)] [] h1 r) (f : ((hh_a h1 100).getD j0 0) < (2 * v0) → tr_L g (d + 1) m_X9_major 33 [some (.ref 1099), some (.int x1), some (.int x2)] [] h1 r) : tr_L g (d + 1) m_X9_major 16 [some (.ref 1099), some (.int x1), some (.int x2)] [] h r := by
  refine tr_ic 2 2 (by decide) rfl ?_
  refine tr_s (.aload_n 0) 1 18 [some (.ref 1099), some (.int x1), some (.int x2)] [.ref 1099, .int 2] h rfl rfl rfl ?_
  refine tr_s (.iload_n 2) 1 19 [some (.ref 1099), some (.int x1), some (.int x2)] [.int x2, .ref 1099, .int 2] h rfl rfl rfl ?_
  refine tr_s (.iload_n 1) 1 20 [some (.ref 1099), some (.int x1), some (.int x2)] [.int x1, .int x2, .ref 1099, .int 2] h rfl rfl rfl ?_
  refine tr_call (.invokevirtual 184) 184 0 2 8 m_X9_votes [.ref 1099, .int x2, .int x1] [.int 2] (some (.int v0)) h1 rfl rfl rfl rfl rfl rfl rfl rfl rfl (tr_cok rfl (Or.inr ⟨_, _, rfl, tr_rc (hh_rd (hh_obj hL (k := 99) rfl).1) (by decide)⟩)) c_0 ?_
  have hL0 := c_0.2
  refine tr_s .imul 1 24 [some (.ref 1099), some (.int x1), some (.int x2)] [.int (2 * v0)] h1 rfl rfl rfl ?_
  refine tr_s (.aload_n 0) 1 25 [some (.ref 1099), some (.int x1), some (.int x2)] [.ref 1099, .int (2 * v0)] h1 rfl rfl rfl ?_
  refine tl_gr hL0 9 99 8 0 100 [1100, 1101, 1102, 1103, 1104, 1105, 0, 0, 0, 0, 0, 0, 0, 0, 0, 0, 0, 0, 0, 0, 0, 1106, 0, 1107, 1108, 0, 0, 0] rfl rfl rfl rfl ?_
  refine tr_ic 1 1 (by decide) rfl ?_
  refine tl_ald hL0 .iaload 100 0 124 j0 1 rfl (by decide) rfl e0 b0 (by decide) ?_
  exact tr_if2 .le 5 35 (2 * v0) ((hh_a h1 100).getD j0 0) rfl rfl rfl (fun hc => t ((tr_le hc).1 rfl)) (fun hc => f ((tr_le hc).2 rfl))
theorem sg_X9_major_33 {g : tr_g} {d : Nat} {h : ev_AH} {r : ev_O × ev_AH} {w0 w1 : Option Value} {x2 : Int32} (hL : hh_L h) (hr : r = (.inl (some (.int x2)), h)) : tr_L g d m_X9_major 33 [w0, w1, some (.int x2)] [] h r := by
  refine tr_s (.iload_n 2) 1 34 [w0, w1, some (.int x2)] [.int x2] h rfl rfl rfl ?_
  exact tl_ret hL .ireturn 1 (some (.int x2)) rfl rfl rfl rfl hr
theorem sg_X9_major_35 {g : tr_g} {d : Nat} {h : ev_AH} {r : ev_O × ev_AH} {x1 x2 : Int32} (hL : hh_L h) (k : tr_L g d m_X9_major 2 [some (.ref 1099), some (.int x1), some (.int (x2 + 1))] [] h r) : tr_L g d m_X9_major 35 [some (.ref 1099), some (.int x1), some (.int x2)] [] h r := by
  refine tr_inc 2 1 x2 1 (by decide) rfl rfl rfl ?_
  refine tr_goto (-36) 2 rfl rfl rfl ?_
  exact k
theorem sg_X9_major_41 {g : tr_g} {d : Nat} {h : ev_AH} {r : ev_O × ev_AH} {w0 w1 w2 : Option Value} (hL : hh_L h) (hr : r = (.inl (some (.int (-1))), h)) : tr_L g d m_X9_major 41 [w0, w1, w2] [] h r := by
  refine tr_ic (-1) (-1) (by decide) rfl ?_
  exact tl_ret hL .ireturn 1 (some (.int (-1))) rfl rfl rfl rfl hr
theorem sg_X9_leaves_0 {g : tr_g} {d : Nat} {h : ev_AH} {r : ev_O × ev_AH} {x1 : Int32} (hL : hh_L h) (k : tr_L g d m_X9_leaves 4 [some (.ref 1099), some (.int x1), some (.int (-1)), some (.int 0), none] [] h r) : tr_L g d m_X9_leaves 0 [some (.ref 1099), some (.int x1), none, none, none] [] h r := by
  refine tr_ic (-1) (-1) (by decide) rfl ?_
  refine tr_st (.istore_n 2) 1 2 0 (.int (-1)) rfl rfl rfl rfl rfl rfl rfl ?_
  refine tr_ic 0 0 (by decide) rfl ?_
  refine tr_st (.istore_n 3) 1 3 0 (.int 0) rfl rfl rfl rfl rfl rfl rfl ?_
  exact k
theorem sg_X9_leaves_4 {g : tr_g} {d : Nat} {h : ev_AH} {r : ev_O × ev_AH} {x1 x2 x3 : Int32} {w4 : Option Value} (hL : hh_L h) (t : 4 ≤ x3 → tr_L g d m_X9_leaves 57 [some (.ref 1099), some (.int x1), some (.int x2), some (.int x3), w4] [] h r) (f : x3 < 4 → tr_L g d m_X9_leaves 9 [some (.ref 1099), some (.int x1), some (.int x2), some (.int x3), w4] [] h r) : tr_L g d m_X9_leaves 4 [some (.ref 1099), some (.int x1), some (.int x2), some (.int x3), w4] [] h r := by
  refine tr_s (.iload_n 3) 1 5 [some (.ref 1099), some (.int x1), some (.int x2), some (.int x3), w4] [.int x3] h rfl rfl rfl ?_
  refine tr_ic 4 4 (by decide) rfl ?_
  exact tr_if2 .ge 51 57 x3 4 rfl rfl rfl (fun hc => t ((tr_ge hc).1 rfl)) (fun hc => f ((tr_ge hc).2 rfl))
theorem sg_X9_leaves_9 {g : tr_g} {d : Nat} {h : ev_AH} {r : ev_O × ev_AH} {x1 x2 x3 : Int32} {w4 : Option Value} (hL : hh_L h) (t : ((x1 >>> (x3 &&& 31)) &&& 1) ≠ 1 → tr_L g d m_X9_leaves 22 [some (.ref 1099), some (.int x1), some (.int x2), some (.int x3), w4] [] h r) (f : ((x1 >>> (x3 &&& 31)) &&& 1) = 1 → tr_L g d m_X9_leaves 18 [some (.ref 1099), some (.int x1), some (.int x2), some (.int x3), w4] [] h r) : tr_L g d m_X9_leaves 9 [some (.ref 1099), some (.int x1), some (.int x2), some (.int x3), w4] [] h r := by
  refine tr_s (.iload_n 1) 1 10 [some (.ref 1099), some (.int x1), some (.int x2), some (.int x3), w4] [.int x1] h rfl rfl rfl ?_
  refine tr_s (.iload_n 3) 1 11 [some (.ref 1099), some (.int x1), some (.int x2), some (.int x3), w4] [.int x3, .int x1] h rfl rfl rfl ?_
  refine tr_s .ishr 1 12 [some (.ref 1099), some (.int x1), some (.int x2), some (.int x3), w4] [.int (x1 >>> (x3 &&& 31))] h rfl rfl rfl ?_
  refine tr_ic 1 1 (by decide) rfl ?_
  refine tr_s .iand 1 14 [some (.ref 1099), some (.int x1), some (.int x2), some (.int x3), w4] [.int ((x1 >>> (x3 &&& 31)) &&& 1)] h rfl rfl rfl ?_
  refine tr_ic 1 1 (by decide) rfl ?_
  exact tr_if2 .ne 7 22 ((x1 >>> (x3 &&& 31)) &&& 1) 1 rfl rfl rfl (fun hc => t ((tr_ne hc).1 rfl)) (fun hc => f ((tr_ne hc).2 rfl))
theorem sg_X9_leaves_18 {g : tr_g} {d : Nat} {h : ev_AH} {r : ev_O × ev_AH} {x1 x2 x3 : Int32} {w4 : Option Value} (hL : hh_L h) (t : (1 : Int32) = 0 → tr_L g d m_X9_leaves 51 [some (.ref 1099), some (.int x1), some (.int x2), some (.int x3), some (.int 1)] [] h r) (f : (1 : Int32) ≠ 0 → tr_L g d m_X9_leaves 30 [some (.ref 1099), some (.int x1), some (.int x2), some (.int x3), some (.int 1)] [] h r) : tr_L g d m_X9_leaves 18 [some (.ref 1099), some (.int x1), some (.int x2), some (.int x3), w4] [] h r := by
  refine tr_ic 1 1 (by decide) rfl ?_
  refine tr_goto 4 23 rfl rfl rfl ?_
  refine tr_st (.istore 4) 2 4 0 (.int 1) rfl rfl rfl rfl rfl rfl rfl ?_
  refine tr_s (.iload 4) 2 27 [some (.ref 1099), some (.int x1), some (.int x2), some (.int x3), some (.int 1)] [.int 1] h rfl rfl rfl ?_
  exact tr_if1 .eq 24 51 1 rfl rfl rfl (fun hc => t ((tr_eq hc).1 rfl)) (fun hc => f ((tr_eq hc).2 rfl))
theorem sg_X9_leaves_22 {g : tr_g} {d : Nat} {h : ev_AH} {r : ev_O × ev_AH} {x1 x2 x3 : Int32} {w4 : Option Value} (hL : hh_L h) (t : (0 : Int32) = 0 → tr_L g d m_X9_leaves 51 [some (.ref 1099), some (.int x1), some (.int x2), some (.int x3), some (.int 0)] [] h r) (f : (0 : Int32) ≠ 0 → tr_L g d m_X9_leaves 30 [some (.ref 1099), some (.int x1), some (.int x2), some (.int x3), some (.int 0)] [] h r) : tr_L g d m_X9_leaves 22 [some (.ref 1099), some (.int x1), some (.int x2), some (.int x3), w4] [] h r := by
  refine tr_ic 0 0 (by decide) rfl ?_
  refine tr_st (.istore 4) 2 4 0 (.int 0) rfl rfl rfl rfl rfl rfl rfl ?_
  refine tr_s (.iload 4) 2 27 [some (.ref 1099), some (.int x1), some (.int x2), some (.int x3), some (.int 0)] [.int 0] h rfl rfl rfl ?_
  exact tr_if1 .eq 24 51 0 rfl rfl rfl (fun hc => t ((tr_eq hc).1 rfl)) (fun hc => f ((tr_eq hc).2 rfl))
theorem sg_X9_leaves_30 {g : tr_g} {d : Nat} {h : ev_AH} {r : ev_O × ev_AH} {x1 x2 x3 : Int32} {w4 : Option Value} (hL : hh_L h) (t : x2 < 0 → tr_L g d m_X9_leaves 49 [some (.ref 1099), some (.int x1), some (.int x2), some (.int x3), w4] [] h r) (f : 0 ≤ x2 → tr_L g d m_X9_leaves 34 [some (.ref 1099), some (.int x1), some (.int x2), some (.int x3), w4] [] h r) : tr_L g d m_X9_leaves 30 [some (.ref 1099), some (.int x1), some (.int x2), some (.int x3), w4] [] h r := by
  refine tr_s (.iload_n 2) 1 31 [some (.ref 1099), some (.int x1), some (.int x2), some (.int x3), w4] [.int x2] h rfl rfl rfl ?_
  exact tr_if1 .lt 18 49 x2 rfl rfl rfl (fun hc => t ((tr_lt hc).1 rfl)) (fun hc => f ((tr_lt hc).2 rfl))
theorem sg_X9_leaves_34 {g : tr_g} {d : Nat} {h : ev_AH} {r : ev_O × ev_AH} {x1 x2 x3 v0 v1 : Int32} {w4 : Option Value} {h1 h2 : ev_AH} (hL : hh_L h) (c_0 : tr_L g d m_X9_votes 0 [some (.ref 1099), some (.int x3), some (.int x1), none, none, none] [] h (.inl (some (.int v0)), h1)) (c_1 : tr_L g d m_X9_votes 0 [some (.ref 1099), some (.int x2), some (.int x1), none, none, none] [] h1 (.inl (some (.int v1)), h2)) (t : v1 < v0 → tr_L g (d + 1) m_X9_leaves 51 [some (.ref 1099), some (.int x1), some (.int x2), some (.int x3), w4] [] h2 r) (f : v0 ≤ v1 → tr_L g (d + 1) m_X9_leaves 49 [some (.ref 1099), some (.int x1), some (.int x2), some (.int x3), w4] [] h2 r) : tr_L g (d + 1) m_X9_leaves 34 [some (.ref 1099), some (.int x1), some (.int x2), some (.int x3), w4] [] h r := by
  refine tr_s (.aload_n 0) 1 35 [some (.ref 1099), some (.int x1), some (.int x2), some (.int x3), w4] [.ref 1099] h rfl rfl rfl ?_
  refine tr_s (.iload_n 3) 1 36 [some (.ref 1099), some (.int x1), some (.int x2), some (.int x3), w4] [.int x3, .ref 1099] h rfl rfl rfl ?_
  refine tr_s (.iload_n 1) 1 37 [some (.ref 1099), some (.int x1), some (.int x2), some (.int x3), w4] [.int x1, .int x3, .ref 1099] h rfl rfl rfl ?_
  refine tr_call (.invokevirtual 184) 184 0 2 8 m_X9_votes [.ref 1099, .int x3, .int x1] [] (some (.int v0)) h1 rfl rfl rfl rfl rfl rfl rfl rfl rfl (tr_cok rfl (Or.inr ⟨_, _, rfl, tr_rc (hh_rd (hh_obj hL (k := 99) rfl).1) (by decide)⟩)) c_0 ?_
  have hL0 := c_0.2
  refine tr_s (.aload_n 0) 1 41 [some (.ref 1099), some (.int x1), some (.int x2), some (.int x3), w4] [.ref 1099, .int v0] h1 rfl rfl rfl ?_
  refine tr_s (.iload_n 2) 1 42 [some (.ref 1099), some (.int x1), some (.int x2), some (.int x3), w4] [.int x2, .ref 1099, .int v0] h1 rfl rfl rfl ?_
  refine tr_s (.iload_n 1) 1 43 [some (.ref 1099), some (.int x1), some (.int x2), some (.int x3), w4] [.int x1, .int x2, .ref 1099, .int v0] h1 rfl rfl rfl ?_
  refine tr_call (.invokevirtual 184) 184 0 2 8 m_X9_votes [.ref 1099, .int x2, .int x1] [.int v0] (some (.int v1)) h2 rfl rfl rfl rfl rfl rfl rfl rfl rfl (tr_cok rfl (Or.inr ⟨_, _, rfl, tr_rc (hh_rd (hh_obj hL0 (k := 99) rfl).1) (by decide)⟩)) c_1 ?_
  have hL1 := c_1.2
  exact tr_if2 .gt 5 51 v0 v1 rfl rfl rfl (fun hc => t ((tr_gt hc).1 rfl)) (fun hc => f ((tr_gt hc).2 rfl))
theorem sg_X9_leaves_49 {g : tr_g} {d : Nat} {h : ev_AH} {r : ev_O × ev_AH} {x1 x3 : Int32} {w2 w4 : Option Value} (hL : hh_L h) (k : tr_L g d m_X9_leaves 4 [some (.ref 1099), some (.int x1), some (.int x3), some (.int (x3 + 1)), w4] [] h r) : tr_L g d m_X9_leaves 49 [some (.ref 1099), some (.int x1), w2, some (.int x3), w4] [] h r := by
  refine tr_s (.iload_n 3) 1 50 [some (.ref 1099), some (.int x1), w2, some (.int x3), w4] [.int x3] h rfl rfl rfl ?_
  refine tr_st (.istore_n 2) 1 2 0 (.int x3) rfl rfl rfl rfl rfl rfl rfl ?_
  refine tr_inc 3 1 x3 1 (by decide) rfl rfl rfl ?_
  refine tr_goto (-50) 4 rfl rfl rfl ?_
  exact k
theorem sg_X9_leaves_51 {g : tr_g} {d : Nat} {h : ev_AH} {r : ev_O × ev_AH} {x1 x2 x3 : Int32} {w4 : Option Value} (hL : hh_L h) (k : tr_L g d m_X9_leaves 4 [some (.ref 1099), some (.int x1), some (.int x2), some (.int (x3 + 1)), w4] [] h r) : tr_L g d m_X9_leaves 51 [some (.ref 1099), some (.int x1), some (.int x2), some (.int x3), w4] [] h r := by
  refine tr_inc 3 1 x3 1 (by decide) rfl rfl rfl ?_
  refine tr_goto (-50) 4 rfl rfl rfl ?_
  exact k
theorem sg_X9_leaves_57 {g : tr_g} {d : Nat} {h : ev_AH} {r : ev_O × ev_AH} {w0 w1 w3 w4 : Option Value} {x2 : Int32} (hL : hh_L h) (hr : r = (.inl (some (.int x2)), h)) : tr_L g d m_X9_leaves 57 [w0, w1, some (.int x2), w3, w4] [] h r := by
  refine tr_s (.iload_n 2) 1 58 [w0, w1, some (.int x2), w3, w4] [.int x2] h rfl rfl rfl ?_
  exact tl_ret hL .ireturn 1 (some (.int x2)) rfl rfl rfl rfl hr
theorem sg_X9_rounds_0 {g : tr_g} {d : Nat} {h : ev_AH} {r : ev_O × ev_AH} {j0 : Nat} (hL : hh_L h) (e0 : 1 = Int32.ofNat j0) (b0 : j0 < 124) (t : ((hh_a h 100).getD j0 0) ≠ 0 → tr_L g d m_X9_rounds 14 [some (.ref 1099)] [.ref 1099] h r) (f : ((hh_a h 100).getD j0 0) = 0 → tr_L g d m_X9_rounds 10 [some (.ref 1099)] [.ref 1099] h r) : tr_L g d m_X9_rounds 0 [some (.ref 1099)] [] h r := by
  refine tr_s (.aload_n 0) 1 1 [some (.ref 1099)] [.ref 1099] h rfl rfl rfl ?_
  refine tr_s (.aload_n 0) 1 2 [some (.ref 1099)] [.ref 1099, .ref 1099] h rfl rfl rfl ?_
  refine tl_gr hL 9 99 8 0 100 [1100, 1101, 1102, 1103, 1104, 1105, 0, 0, 0, 0, 0, 0, 0, 0, 0, 0, 0, 0, 0, 0, 0, 1106, 0, 1107, 1108, 0, 0, 0] rfl rfl rfl rfl ?_
  refine tr_ic 1 1 (by decide) rfl ?_
  refine tl_ald hL .iaload 100 0 124 j0 1 rfl (by decide) rfl e0 b0 (by decide) ?_
  exact tr_if1 .ne 7 14 ((hh_a h 100).getD j0 0) rfl rfl rfl (fun hc => t ((tr_ne hc).1 rfl)) (fun hc => f ((tr_ne hc).2 rfl))
theorem sg_X9_rounds_10 {g : tr_g} {d : Nat} {h : ev_AH} {r : ev_O × ev_AH} {h1 : ev_AH} {v0 : Int32} (hL : hh_L h) (c_0 : tr_L g d m_X9_isThrown 0 [some (.ref 1099), some (.int 1), some (.int 1)] [] h (.inl (some (.int v0)), h1)) (t : v0 = 0 → tr_L g (d + 1) m_X9_rounds 24 [some (.ref 1099)] [] h1 r) (f : v0 ≠ 0 → tr_L g (d + 1) m_X9_rounds 22 [some (.ref 1099)] [] h1 r) : tr_L g (d + 1) m_X9_rounds 10 [some (.ref 1099)] [.ref 1099] h r := by
  refine tr_ic 1 1 (by decide) rfl ?_
  refine tr_goto 4 15 rfl rfl rfl ?_
  refine tr_ic 1 1 (by decide) rfl ?_
  refine tr_call (.invokevirtual 66) 66 0 2 8 m_X9_isThrown [.ref 1099, .int 1, .int 1] [] (some (.int v0)) h1 rfl rfl rfl rfl rfl rfl rfl rfl rfl (tr_cok rfl (Or.inr ⟨_, _, rfl, tr_rc (hh_rd (hh_obj hL (k := 99) rfl).1) (by decide)⟩)) c_0 ?_
  have hL0 := c_0.2
  exact tr_if1 .eq 5 24 v0 rfl rfl rfl (fun hc => t ((tr_eq hc).1 rfl)) (fun hc => f ((tr_eq hc).2 rfl))
theorem sg_X9_rounds_14 {g : tr_g} {d : Nat} {h : ev_AH} {r : ev_O × ev_AH} {h1 : ev_AH} {v0 : Int32} (hL : hh_L h) (c_0 : tr_L g d m_X9_isThrown 0 [some (.ref 1099), some (.int 0), some (.int 1)] [] h (.inl (some (.int v0)), h1)) (t : v0 = 0 → tr_L g (d + 1) m_X9_rounds 24 [some (.ref 1099)] [] h1 r) (f : v0 ≠ 0 → tr_L g (d + 1) m_X9_rounds 22 [some (.ref 1099)] [] h1 r) : tr_L g (d + 1) m_X9_rounds 14 [some (.ref 1099)] [.ref 1099] h r := by
  refine tr_ic 0 0 (by decide) rfl ?_
  refine tr_ic 1 1 (by decide) rfl ?_
  refine tr_call (.invokevirtual 66) 66 0 2 8 m_X9_isThrown [.ref 1099, .int 0, .int 1] [] (some (.int v0)) h1 rfl rfl rfl rfl rfl rfl rfl rfl rfl (tr_cok rfl (Or.inr ⟨_, _, rfl, tr_rc (hh_rd (hh_obj hL (k := 99) rfl).1) (by decide)⟩)) c_0 ?_
  have hL0 := c_0.2
  exact tr_if1 .eq 5 24 v0 rfl rfl rfl (fun hc => t ((tr_eq hc).1 rfl)) (fun hc => f ((tr_eq hc).2 rfl))
theorem sg_X9_rounds_22 {g : tr_g} {d : Nat} {h : ev_AH} {r : ev_O × ev_AH} {w0 : Option Value} (hL : hh_L h) (hr : r = (.inl (some (.int 0)), h)) : tr_L g d m_X9_rounds 22 [w0] [] h r := by
  refine tr_ic 0 0 (by decide) rfl ?_
  exact tl_ret hL .ireturn 1 (some (.int 0)) rfl rfl rfl rfl hr
theorem sg_X9_rounds_24 {g : tr_g} {d : Nat} {h : ev_AH} {r : ev_O × ev_AH} {h1 : ev_AH} {v0 : Int32} (hL : hh_L h) (c_0 : tr_L g d m_X9_byRounds 0 [some (.ref 1099), none] [] h (.inl (some (.int v0)), h1)) (hr : r = (.inl (some (.int (hh_i (hh_si h1 99 8 14 v0) 99 19))), hh_si h1 99 8 14 v0)) : tr_L g (d + 1) m_X9_rounds 24 [some (.ref 1099)] [] h r := by
  refine tr_s (.aload_n 0) 1 25 [some (.ref 1099)] [.ref 1099] h rfl rfl rfl ?_
  refine tr_s (.aload_n 0) 1 26 [some (.ref 1099)] [.ref 1099, .ref 1099] h rfl rfl rfl ?_
  refine tr_call (.invokevirtual 212) 212 0 0 8 m_X9_byRounds [.ref 1099] [.ref 1099] (some (.int v0)) h1 rfl rfl rfl rfl rfl rfl rfl rfl rfl (tr_cok rfl (Or.inr ⟨_, _, rfl, tr_rc (hh_rd (hh_obj hL (k := 99) rfl).1) (by decide)⟩)) c_0 ?_
  have hL0 := c_0.2
  refine tl_pf hL0 215 99 8 14 [1100, 1101, 1102, 1103, 1104, 1105, 0, 0, 0, 0, 0, 0, 0, 0, 0, 0, 0, 0, 0, 0, 0, 1106, 0, 1107, 1108, 0, 0, 0] v0 .int rfl rfl rfl rfl rfl tr_oki ?_
  have hL1 := hh_L_si (sl := 14) (x := v0) hL0 (show hh_t[99]? = some (.inr (8, [1100, 1101, 1102, 1103, 1104, 1105, 0, 0, 0, 0, 0, 0, 0, 0, 0, 0, 0, 0, 0, 0, 0, 1106, 0, 1107, 1108, 0, 0, 0])) from rfl) rfl
  refine tr_s (.aload_n 0) 1 33 [some (.ref 1099)] [.ref 1099] (hh_si h1 99 8 14 v0) rfl rfl rfl ?_
  refine tl_gi hL1 197 99 8 19 [1100, 1101, 1102, 1103, 1104, 1105, 0, 0, 0, 0, 0, 0, 0, 0, 0, 0, 0, 0, 0, 0, 0, 1106, 0, 1107, 1108, 0, 0, 0] rfl rfl rfl rfl ?_
  exact tl_ret hL1 .ireturn 1 (some (.int (hh_i (hh_si h1 99 8 14 v0) 99 19))) rfl rfl rfl rfl hr
theorem sg_X9_strengthOf_0 {g : tr_g} {d : Nat} {h : ev_AH} {r : ev_O × ev_AH} {x1 x2 v0 : Int32} {h1 : ev_AH} (hL : hh_L h) (c_0 : tr_L g d m_X9_areOptions 0 [some (.int x1), some (.int x2)] [] h (.inl (some (.int v0)), h1)) (t : v0 ≠ 0 → tr_L g (d + 1) m_X9_strengthOf 13 [some (.ref 1099), some (.int x1), some (.int x2)] [.ref 1099] h1 r) (f : v0 = 0 → tr_L g (d + 1) m_X9_strengthOf 9 [some (.ref 1099), some (.int x1), some (.int x2)] [.ref 1099] h1 r) : tr_L g (d + 1) m_X9_strengthOf 0 [some (.ref 1099), some (.int x1), some (.int x2)] [] h r := by
  refine tr_s (.aload_n 0) 1 1 [some (.ref 1099), some (.int x1), some (.int x2)] [.ref 1099] h rfl rfl rfl ?_
  refine tr_s (.iload_n 1) 1 2 [some (.ref 1099), some (.int x1), some (.int x2)] [.int x1, .ref 1099] h rfl rfl rfl ?_
  refine tr_s (.iload_n 2) 1 3 [some (.ref 1099), some (.int x1), some (.int x2)] [.int x2, .int x1, .ref 1099] h rfl rfl rfl ?_
  refine tr_call (.invokestatic 187) 187 2 2 0 m_X9_areOptions [.int x1, .int x2] [.ref 1099] (some (.int v0)) h1 rfl rfl rfl rfl rfl rfl rfl rfl rfl (tr_cok rfl (Or.inl rfl)) c_0 ?_
  have hL0 := c_0.2
  exact tr_if1 .ne 7 13 v0 rfl rfl rfl (fun hc => t ((tr_ne hc).1 rfl)) (fun hc => f ((tr_ne hc).2 rfl))
theorem sg_X9_strengthOf_9 {g : tr_g} {d : Nat} {h : ev_AH} {r : ev_O × ev_AH} {x1 x2 v0 : Int32} {h1 : ev_AH} (hL : hh_L h) (c_0 : tr_L g d m_X9_isThrown 0 [some (.ref 1099), some (.int 1), some (.int 1)] [] h (.inl (some (.int v0)), h1)) (t : v0 = 0 → tr_L g (d + 1) m_X9_strengthOf 23 [some (.ref 1099), some (.int x1), some (.int x2)] [] h1 r) (f : v0 ≠ 0 → tr_L g (d + 1) m_X9_strengthOf 21 [some (.ref 1099), some (.int x1), some (.int x2)] [] h1 r) : tr_L g (d + 1) m_X9_strengthOf 9 [some (.ref 1099), some (.int x1), some (.int x2)] [.ref 1099] h r := by
  refine tr_ic 1 1 (by decide) rfl ?_
  refine tr_goto 4 14 rfl rfl rfl ?_
  refine tr_ic 1 1 (by decide) rfl ?_
  refine tr_call (.invokevirtual 66) 66 0 2 8 m_X9_isThrown [.ref 1099, .int 1, .int 1] [] (some (.int v0)) h1 rfl rfl rfl rfl rfl rfl rfl rfl rfl (tr_cok rfl (Or.inr ⟨_, _, rfl, tr_rc (hh_rd (hh_obj hL (k := 99) rfl).1) (by decide)⟩)) c_0 ?_
  have hL0 := c_0.2
  exact tr_if1 .eq 5 23 v0 rfl rfl rfl (fun hc => t ((tr_eq hc).1 rfl)) (fun hc => f ((tr_eq hc).2 rfl))
theorem sg_X9_strengthOf_13 {g : tr_g} {d : Nat} {h : ev_AH} {r : ev_O × ev_AH} {x1 x2 v0 : Int32} {h1 : ev_AH} (hL : hh_L h) (c_0 : tr_L g d m_X9_isThrown 0 [some (.ref 1099), some (.int 0), some (.int 1)] [] h (.inl (some (.int v0)), h1)) (t : v0 = 0 → tr_L g (d + 1) m_X9_strengthOf 23 [some (.ref 1099), some (.int x1), some (.int x2)] [] h1 r) (f : v0 ≠ 0 → tr_L g (d + 1) m_X9_strengthOf 21 [some (.ref 1099), some (.int x1), some (.int x2)] [] h1 r) : tr_L g (d + 1) m_X9_strengthOf 13 [some (.ref 1099), some (.int x1), some (.int x2)] [.ref 1099] h r := by
  refine tr_ic 0 0 (by decide) rfl ?_
  refine tr_ic 1 1 (by decide) rfl ?_
  refine tr_call (.invokevirtual 66) 66 0 2 8 m_X9_isThrown [.ref 1099, .int 0, .int 1] [] (some (.int v0)) h1 rfl rfl rfl rfl rfl rfl rfl rfl rfl (tr_cok rfl (Or.inr ⟨_, _, rfl, tr_rc (hh_rd (hh_obj hL (k := 99) rfl).1) (by decide)⟩)) c_0 ?_
  have hL0 := c_0.2
  exact tr_if1 .eq 5 23 v0 rfl rfl rfl (fun hc => t ((tr_eq hc).1 rfl)) (fun hc => f ((tr_eq hc).2 rfl))
theorem sg_X9_strengthOf_21 {g : tr_g} {d : Nat} {h : ev_AH} {r : ev_O × ev_AH} {w0 w1 w2 : Option Value} (hL : hh_L h) (hr : r = (.inl (some (.int 0)), h)) : tr_L g d m_X9_strengthOf 21 [w0, w1, w2] [] h r := by
  refine tr_ic 0 0 (by decide) rfl ?_
  exact tl_ret hL .ireturn 1 (some (.int 0)) rfl rfl rfl rfl hr
theorem sg_X9_strengthOf_23 {g : tr_g} {d : Nat} {h : ev_AH} {r : ev_O × ev_AH} {x1 x2 : Int32} {h1 : ev_AH} {j0 : Nat} (hL : hh_L h) (c_0 : tr_L g d m_X9_strengths 0 [some (.ref 1099), none, none, none, none, none, none] [] h (.inl none, h1)) (e0 : ((4 * (x1 - 97)) + x2) - 97 = Int32.ofNat j0) (b0 : j0 < 16) (hr : r = (.inl (some (.int ((hh_a h1 105).getD j0 0))), h1)) : tr_L g (d + 1) m_X9_strengthOf 23 [some (.ref 1099), some (.int x1), some (.int x2)] [] h r := by
  refine tr_s (.aload_n 0) 1 24 [some (.ref 1099), some (.int x1), some (.int x2)] [.ref 1099] h rfl rfl rfl ?_
  refine tr_call (.invokevirtual 206) 206 0 0 8 m_X9_strengths [.ref 1099] [] none h1 rfl rfl rfl rfl rfl rfl rfl rfl rfl (tr_cok rfl (Or.inr ⟨_, _, rfl, tr_rc (hh_rd (hh_obj hL (k := 99) rfl).1) (by decide)⟩)) c_0 ?_
  have hL0 := c_0.2
  refine tr_s (.aload_n 0) 1 28 [some (.ref 1099), some (.int x1), some (.int x2)] [.ref 1099] h1 rfl rfl rfl ?_
  refine tl_gr hL0 25 99 8 5 105 [1100, 1101, 1102, 1103, 1104, 1105, 0, 0, 0, 0, 0, 0, 0, 0, 0, 0, 0, 0, 0, 0, 0, 1106, 0, 1107, 1108, 0, 0, 0] rfl rfl rfl rfl ?_
  refine tr_ic 4 4 (by decide) rfl ?_
  refine tr_s (.iload_n 1) 1 33 [some (.ref 1099), some (.int x1), some (.int x2)] [.int x1, .int 4, .ref 1105] h1 rfl rfl rfl ?_
  refine tr_bi 97 97 (by decide) rfl ?_
  refine tr_s .isub 1 36 [some (.ref 1099), some (.int x1), some (.int x2)] [.int (x1 - 97), .int 4, .ref 1105] h1 rfl rfl rfl ?_
  refine tr_s .imul 1 37 [some (.ref 1099), some (.int x1), some (.int x2)] [.int (4 * (x1 - 97)), .ref 1105] h1 rfl rfl rfl ?_
  refine tr_s (.iload_n 2) 1 38 [some (.ref 1099), some (.int x1), some (.int x2)] [.int x2, .int (4 * (x1 - 97)), .ref 1105] h1 rfl rfl rfl ?_
  refine tr_s .iadd 1 39 [some (.ref 1099), some (.int x1), some (.int x2)] [.int ((4 * (x1 - 97)) + x2), .ref 1105] h1 rfl rfl rfl ?_
  refine tr_bi 97 97 (by decide) rfl ?_
  refine tr_s .isub 1 42 [some (.ref 1099), some (.int x1), some (.int x2)] [.int (((4 * (x1 - 97)) + x2) - 97), .ref 1105] h1 rfl rfl rfl ?_
  refine tl_ald hL0 .iaload 105 0 16 j0 (((4 * (x1 - 97)) + x2) - 97) rfl (by decide) rfl e0 b0 (by decide) ?_
  exact tl_ret hL0 .ireturn 1 (some (.int ((hh_a h1 105).getD j0 0))) rfl rfl rfl rfl hr
theorem sg_X9_strengths_0 {g : tr_g} {d : Nat} {h : ev_AH} {r : ev_O × ev_AH} (hL : hh_L h) (k : tr_L g d m_X9_strengths 2 [some (.ref 1099), some (.int 0), none, none, none, none, none] [] h r) : tr_L g d m_X9_strengths 0 [some (.ref 1099), none, none, none, none, none, none] [] h r := by
  refine tr_ic 0 0 (by decide) rfl ?_
  refine tr_st (.istore_n 1) 1 1 0 (.int 0) rfl rfl rfl rfl rfl rfl rfl ?_
  exact k
theorem sg_X9_strengths_2 {g : tr_g} {d : Nat} {h : ev_AH} {r : ev_O × ev_AH} {x1 : Int32} {w2 w3 w4 w5 w6 : Option Value} (hL : hh_L h) (t : 4 ≤ x1 → tr_L g d m_X9_strengths 72 [some (.ref 1099), some (.int x1), w2, w3, w4, w5, w6] [] h r) (f : x1 < 4 → tr_L g d m_X9_strengths 7 [some (.ref 1099), some (.int x1), w2, w3, w4, w5, w6] [] h r) : tr_L g d m_X9_strengths 2 [some (.ref 1099), some (.int x1), w2, w3, w4, w5, w6] [] h r := by
  refine tr_s (.iload_n 1) 1 3 [some (.ref 1099), some (.int x1), w2, w3, w4, w5, w6] [.int x1] h rfl rfl rfl ?_
  refine tr_ic 4 4 (by decide) rfl ?_
  exact tr_if2 .ge 68 72 x1 4 rfl rfl rfl (fun hc => t ((tr_ge hc).1 rfl)) (fun hc => f ((tr_ge hc).2 rfl))
theorem sg_X9_strengths_7 {g : tr_g} {d : Nat} {h : ev_AH} {r : ev_O × ev_AH} {x1 : Int32} {w2 w3 w4 w5 w6 : Option Value} (hL : hh_L h) (k : tr_L g d m_X9_strengths 9 [some (.ref 1099), some (.int x1), some (.int 0), w3, w4, w5, w6] [] h r) : tr_L g d m_X9_strengths 7 [some (.ref 1099), some (.int x1), w2, w3, w4, w5, w6] [] h r := by
  refine tr_ic 0 0 (by decide) rfl ?_
  refine tr_st (.istore_n 2) 1 2 0 (.int 0) rfl rfl rfl rfl rfl rfl rfl ?_
  exact k
theorem sg_X9_strengths_9 {g : tr_g} {d : Nat} {h : ev_AH} {r : ev_O × ev_AH} {x1 x2 : Int32} {w3 w4 w5 w6 : Option Value} (hL : hh_L h) (t : 4 ≤ x2 → tr_L g d m_X9_strengths 66 [some (.ref 1099), some (.int x1), some (.int x2), w3, w4, w5, w6] [] h r) (f : x2 < 4 → tr_L g d m_X9_strengths 14 [some (.ref 1099), some (.int x1), some (.int x2), w3, w4, w5, w6] [] h r) : tr_L g d m_X9_strengths 9 [some (.ref 1099), some (.int x1), some (.int x2), w3, w4, w5, w6] [] h r := by
  refine tr_s (.iload_n 2) 1 10 [some (.ref 1099), some (.int x1), some (.int x2), w3, w4, w5, w6] [.int x2] h rfl rfl rfl ?_
  refine tr_ic 4 4 (by decide) rfl ?_
  exact tr_if2 .ge 55 66 x2 4 rfl rfl rfl (fun hc => t ((tr_ge hc).1 rfl)) (fun hc => f ((tr_ge hc).2 rfl))
theorem sg_X9_strengths_14 {g : tr_g} {d : Nat} {h : ev_AH} {r : ev_O × ev_AH} {x1 x2 : Int32} {w3 w4 w5 w6 : Option Value} (hL : hh_L h) (t : x1 ≠ x2 → tr_L g d m_X9_strengths 23 [some (.ref 1099), some (.int x1), some (.int x2), w3, w4, w5, w6] [] h r) (f : x1 = x2 → tr_L g d m_X9_strengths 19 [some (.ref 1099), some (.int x1), some (.int x2), w3, w4, w5, w6] [] h r) : tr_L g d m_X9_strengths 14 [some (.ref 1099), some (.int x1), some (.int x2), w3, w4, w5, w6] [] h r := by
  refine tr_s (.iload_n 1) 1 15 [some (.ref 1099), some (.int x1), some (.int x2), w3, w4, w5, w6] [.int x1] h rfl rfl rfl ?_
  refine tr_s (.iload_n 2) 1 16 [some (.ref 1099), some (.int x1), some (.int x2), w3, w4, w5, w6] [.int x2, .int x1] h rfl rfl rfl ?_
  exact tr_if2 .ne 7 23 x1 x2 rfl rfl rfl (fun hc => t ((tr_ne hc).1 rfl)) (fun hc => f ((tr_ne hc).2 rfl))
theorem sg_X9_strengths_19 {g : tr_g} {d : Nat} {h : ev_AH} {r : ev_O × ev_AH} {x1 x2 : Int32} {w3 w4 w5 w6 : Option Value} (hL : hh_L h) (t : x1 = x2 → tr_L g d m_X9_strengths 58 [some (.ref 1099), some (.int x1), some (.int x2), some (.int 0), w4, w5, w6] [.int ((4 * x1) + x2), .ref 1105] h r) (f : x1 ≠ x2 → tr_L g d m_X9_strengths 44 [some (.ref 1099), some (.int x1), some (.int x2), some (.int 0), w4, w5, w6] [.int ((4 * x1) + x2), .ref 1105] h r) : tr_L g d m_X9_strengths 19 [some (.ref 1099), some (.int x1), some (.int x2), w3, w4, w5, w6] [] h r := by
  refine tr_ic 0 0 (by decide) rfl ?_
  refine tr_goto 9 29 rfl rfl rfl ?_
  refine tr_st (.istore_n 3) 1 3 0 (.int 0) rfl rfl rfl rfl rfl rfl rfl ?_
  refine tr_s (.aload_n 0) 1 31 [some (.ref 1099), some (.int x1), some (.int x2), some (.int 0), w4, w5, w6] [.ref 1099] h rfl rfl rfl ?_
  refine tl_gr hL 25 99 8 5 105 [1100, 1101, 1102, 1103, 1104, 1105, 0, 0, 0, 0, 0, 0, 0, 0, 0, 0, 0, 0, 0, 0, 0, 1106, 0, 1107, 1108, 0, 0, 0] rfl rfl rfl rfl ?_
  refine tr_ic 4 4 (by decide) rfl ?_
  refine tr_s (.iload_n 1) 1 36 [some (.ref 1099), some (.int x1), some (.int x2), some (.int 0), w4, w5, w6] [.int x1, .int 4, .ref 1105] h rfl rfl rfl ?_
  refine tr_s .imul 1 37 [some (.ref 1099), some (.int x1), some (.int x2), some (.int 0), w4, w5, w6] [.int (4 * x1), .ref 1105] h rfl rfl rfl ?_
  refine tr_s (.iload_n 2) 1 38 [some (.ref 1099), some (.int x1), some (.int x2), some (.int 0), w4, w5, w6] [.int x2, .int (4 * x1), .ref 1105] h rfl rfl rfl ?_
  refine tr_s .iadd 1 39 [some (.ref 1099), some (.int x1), some (.int x2), some (.int 0), w4, w5, w6] [.int ((4 * x1) + x2), .ref 1105] h rfl rfl rfl ?_
  refine tr_s (.iload_n 1) 1 40 [some (.ref 1099), some (.int x1), some (.int x2), some (.int 0), w4, w5, w6] [.int x1, .int ((4 * x1) + x2), .ref 1105] h rfl rfl rfl ?_
  refine tr_s (.iload_n 2) 1 41 [some (.ref 1099), some (.int x1), some (.int x2), some (.int 0), w4, w5, w6] [.int x2, .int x1, .int ((4 * x1) + x2), .ref 1105] h rfl rfl rfl ?_
  exact tr_if2 .eq 17 58 x1 x2 rfl rfl rfl (fun hc => t ((tr_eq hc).1 rfl)) (fun hc => f ((tr_eq hc).2 rfl))
theorem sg_X9_strengths_23 {g : tr_g} {d : Nat} {h : ev_AH} {r : ev_O × ev_AH} {x1 x2 v0 : Int32} {w3 w4 w5 w6 : Option Value} {h1 : ev_AH} (hL : hh_L h) (c_0 : tr_L g d m_X9_likes 0 [some (.ref 1099), some (.int x1), some (.int x2), none, none] [] h (.inl (some (.int v0)), h1)) (t : x1 = x2 → tr_L g (d + 1) m_X9_strengths 58 [some (.ref 1099), some (.int x1), some (.int x2), some (.int v0), w4, w5, w6] [.int ((4 * x1) + x2), .ref 1105] h1 r) (f : x1 ≠ x2 → tr_L g (d + 1) m_X9_strengths 44 [some (.ref 1099), some (.int x1), some (.int x2), some (.int v0), w4, w5, w6] [.int ((4 * x1) + x2), .ref 1105] h1 r) : tr_L g (d + 1) m_X9_strengths 23 [some (.ref 1099), some (.int x1), some (.int x2), w3, w4, w5, w6] [] h r := by
  refine tr_s (.aload_n 0) 1 24 [some (.ref 1099), some (.int x1), some (.int x2), w3, w4, w5, w6] [.ref 1099] h rfl rfl rfl ?_
  refine tr_s (.iload_n 1) 1 25 [some (.ref 1099), some (.int x1), some (.int x2), w3, w4, w5, w6] [.int x1, .ref 1099] h rfl rfl rfl ?_
  refine tr_s (.iload_n 2) 1 26 [some (.ref 1099), some (.int x1), some (.int x2), w3, w4, w5, w6] [.int x2, .int x1, .ref 1099] h rfl rfl rfl ?_
  refine tr_call (.invokevirtual 191) 191 0 2 8 m_X9_likes [.ref 1099, .int x1, .int x2] [] (some (.int v0)) h1 rfl rfl rfl rfl rfl rfl rfl rfl rfl (tr_cok rfl (Or.inr ⟨_, _, rfl, tr_rc (hh_rd (hh_obj hL (k := 99) rfl).1) (by decide)⟩)) c_0 ?_
  have hL0 := c_0.2
  refine tr_st (.istore_n 3) 1 3 0 (.int v0) rfl rfl rfl rfl rfl rfl rfl ?_
  refine tr_s (.aload_n 0) 1 31 [some (.ref 1099), some (.int x1), some (.int x2), some (.int v0), w4, w5, w6] [.ref 1099] h1 rfl rfl rfl ?_
  refine tl_gr hL0 25 99 8 5 105 [1100, 1101, 1102, 1103, 1104, 1105, 0, 0, 0, 0, 0, 0, 0, 0, 0, 0, 0, 0, 0, 0, 0, 1106, 0, 1107, 1108, 0, 0, 0] rfl rfl rfl rfl ?_
  refine tr_ic 4 4 (by decide) rfl ?_
  refine tr_s (.iload_n 1) 1 36 [some (.ref 1099), some (.int x1), some (.int x2), some (.int v0), w4, w5, w6] [.int x1, .int 4, .ref 1105] h1 rfl rfl rfl ?_
  refine tr_s .imul 1 37 [some (.ref 1099), some (.int x1), some (.int x2), some (.int v0), w4, w5, w6] [.int (4 * x1), .ref 1105] h1 rfl rfl rfl ?_
  refine tr_s (.iload_n 2) 1 38 [some (.ref 1099), some (.int x1), some (.int x2), some (.int v0), w4, w5, w6] [.int x2, .int (4 * x1), .ref 1105] h1 rfl rfl rfl ?_
  refine tr_s .iadd 1 39 [some (.ref 1099), some (.int x1), some (.int x2), some (.int v0), w4, w5, w6] [.int ((4 * x1) + x2), .ref 1105] h1 rfl rfl rfl ?_
  refine tr_s (.iload_n 1) 1 40 [some (.ref 1099), some (.int x1), some (.int x2), some (.int v0), w4, w5, w6] [.int x1, .int ((4 * x1) + x2), .ref 1105] h1 rfl rfl rfl ?_
  refine tr_s (.iload_n 2) 1 41 [some (.ref 1099), some (.int x1), some (.int x2), some (.int v0), w4, w5, w6] [.int x2, .int x1, .int ((4 * x1) + x2), .ref 1105] h1 rfl rfl rfl ?_
  exact tr_if2 .eq 17 58 x1 x2 rfl rfl rfl (fun hc => t ((tr_eq hc).1 rfl)) (fun hc => f ((tr_eq hc).2 rfl))
theorem sg_X9_strengths_44 {g : tr_g} {d : Nat} {h : ev_AH} {r : ev_O × ev_AH} {x1 x2 x3 s1 v0 : Int32} {w4 w5 w6 : Option Value} {h1 : ev_AH} (hL : hh_L h) (c_0 : tr_L g d m_X9_likes 0 [some (.ref 1099), some (.int x2), some (.int x1), none, none] [] h (.inl (some (.int v0)), h1)) (t : x3 ≤ v0 → tr_L g (d + 1) m_X9_strengths 58 [some (.ref 1099), some (.int x1), some (.int x2), some (.int x3), w4, w5, w6] [.int s1, .ref 1105] h1 r) (f : v0 < x3 → tr_L g (d + 1) m_X9_strengths 54 [some (.ref 1099), some (.int x1), some (.int x2), some (.int x3), w4, w5, w6] [.int s1, .ref 1105] h1 r) : tr_L g (d + 1) m_X9_strengths 44 [some (.ref 1099), some (.int x1), some (.int x2), some (.int x3), w4, w5, w6] [.int s1, .ref 1105] h r := by
  refine tr_s (.iload_n 3) 1 45 [some (.ref 1099), some (.int x1), some (.int x2), some (.int x3), w4, w5, w6] [.int x3, .int s1, .ref 1105] h rfl rfl rfl ?_
  refine tr_s (.aload_n 0) 1 46 [some (.ref 1099), some (.int x1), some (.int x2), some (.int x3), w4, w5, w6] [.ref 1099, .int x3, .int s1, .ref 1105] h rfl rfl rfl ?_
  refine tr_s (.iload_n 2) 1 47 [some (.ref 1099), some (.int x1), some (.int x2), some (.int x3), w4, w5, w6] [.int x2, .ref 1099, .int x3, .int s1, .ref 1105] h rfl rfl rfl ?_
  refine tr_s (.iload_n 1) 1 48 [some (.ref 1099), some (.int x1), some (.int x2), some (.int x3), w4, w5, w6] [.int x1, .int x2, .ref 1099, .int x3, .int s1, .ref 1105] h rfl rfl rfl ?_
  refine tr_call (.invokevirtual 191) 191 0 2 8 m_X9_likes [.ref 1099, .int x2, .int x1] [.int x3, .int s1, .ref 1105] (some (.int v0)) h1 rfl rfl rfl rfl rfl rfl rfl rfl rfl (tr_cok rfl (Or.inr ⟨_, _, rfl, tr_rc (hh_rd (hh_obj hL (k := 99) rfl).1) (by decide)⟩)) c_0 ?_
  have hL0 := c_0.2
  exact tr_if2 .le 7 58 x3 v0 rfl rfl rfl (fun hc => t ((tr_le hc).1 rfl)) (fun hc => f ((tr_le hc).2 rfl))
theorem sg_X9_strengths_54 {g : tr_g} {d : Nat} {h : ev_AH} {r : ev_O × ev_AH} {x1 x2 x3 s1 : Int32} {w4 w5 w6 : Option Value} {j0 : Nat} (hL : hh_L h) (e0 : s1 = Int32.ofNat j0) (b0 : j0 < 16) (k : tr_L g d m_X9_strengths 9 [some (.ref 1099), some (.int x1), some (.int (x2 + 1)), some (.int x3), w4, w5, w6] [] (hh_sa h 105 0 ((hh_a h 105).set j0 x3)) r) : tr_L g d m_X9_strengths 54 [some (.ref 1099), some (.int x1), some (.int x2), some (.int x3), w4, w5, w6] [.int s1, .ref 1105] h r := by
  refine tr_s (.iload_n 3) 1 55 [some (.ref 1099), some (.int x1), some (.int x2), some (.int x3), w4, w5, w6] [.int x3, .int s1, .ref 1105] h rfl rfl rfl ?_
  refine tr_goto 4 59 rfl rfl rfl ?_
  refine tl_ias hL 105 16 j0 s1 x3 rfl rfl e0 b0 (by decide) ?_
  have hL0 := hh_L_ss (j := j0) (x := x3) hL (show hh_t[105]? = some (.inl (0, 16)) from rfl)
  refine tr_inc 2 1 x2 1 (by decide) rfl rfl rfl ?_
  refine tr_goto (-54) 9 rfl rfl rfl ?_
  exact k
theorem sg_X9_strengths_58 {g : tr_g} {d : Nat} {h : ev_AH} {r : ev_O × ev_AH} {x1 x2 s1 : Int32} {w3 w4 w5 w6 : Option Value} {j0 : Nat} (hL : hh_L h) (e0 : s1 = Int32.ofNat j0) (b0 : j0 < 16) (k : tr_L g d m_X9_strengths 9 [some (.ref 1099), some (.int x1), some (.int (x2 + 1)), w3, w4, w5, w6] [] (hh_sa h 105 0 ((hh_a h 105).set j0 0)) r) : tr_L g d m_X9_strengths 58 [some (.ref 1099), some (.int x1), some (.int x2), w3, w4, w5, w6] [.int s1, .ref 1105] h r := by
  refine tr_ic 0 0 (by decide) rfl ?_
  refine tl_ias hL 105 16 j0 s1 0 rfl rfl e0 b0 (by decide) ?_
  have hL0 := hh_L_ss (j := j0) (x := 0) hL (show hh_t[105]? = some (.inl (0, 16)) from rfl)
  refine tr_inc 2 1 x2 1 (by decide) rfl rfl rfl ?_
  refine tr_goto (-54) 9 rfl rfl rfl ?_
  exact k
theorem sg_X9_strengths_66 {g : tr_g} {d : Nat} {h : ev_AH} {r : ev_O × ev_AH} {x1 : Int32} {w2 w3 w4 w5 w6 : Option Value} (hL : hh_L h) (k : tr_L g d m_X9_strengths 2 [some (.ref 1099), some (.int (x1 + 1)), w2, w3, w4, w5, w6] [] h r) : tr_L g d m_X9_strengths 66 [some (.ref 1099), some (.int x1), w2, w3, w4, w5, w6] [] h r := by
  refine tr_inc 1 1 x1 1 (by decide) rfl rfl rfl ?_
  refine tr_goto (-67) 2 rfl rfl rfl ?_
  exact k
theorem sg_X9_strengths_72 {g : tr_g} {d : Nat} {h : ev_AH} {r : ev_O × ev_AH} {w1 w2 w3 w4 w5 w6 : Option Value} (hL : hh_L h) (k : tr_L g d m_X9_strengths 74 [some (.ref 1099), some (.int 0), w2, w3, w4, w5, w6] [] h r) : tr_L g d m_X9_strengths 72 [some (.ref 1099), w1, w2, w3, w4, w5, w6] [] h r := by
  refine tr_ic 0 0 (by decide) rfl ?_
  refine tr_st (.istore_n 1) 1 1 0 (.int 0) rfl rfl rfl rfl rfl rfl rfl ?_
  exact k
theorem sg_X9_strengths_74 {g : tr_g} {d : Nat} {h : ev_AH} {r : ev_O × ev_AH} {x1 : Int32} {w2 w3 w4 w5 w6 : Option Value} (hL : hh_L h) (t : 4 ≤ x1 → tr_L g d m_X9_strengths 183 [some (.ref 1099), some (.int x1), w2, w3, w4, w5, w6] [] h r) (f : x1 < 4 → tr_L g d m_X9_strengths 79 [some (.ref 1099), some (.int x1), w2, w3, w4, w5, w6] [] h r) : tr_L g d m_X9_strengths 74 [some (.ref 1099), some (.int x1), w2, w3, w4, w5, w6] [] h r := by
  refine tr_s (.iload_n 1) 1 75 [some (.ref 1099), some (.int x1), w2, w3, w4, w5, w6] [.int x1] h rfl rfl rfl ?_
  refine tr_ic 4 4 (by decide) rfl ?_
  exact tr_if2 .ge 107 183 x1 4 rfl rfl rfl (fun hc => t ((tr_ge hc).1 rfl)) (fun hc => f ((tr_ge hc).2 rfl))
theorem sg_X9_strengths_79 {g : tr_g} {d : Nat} {h : ev_AH} {r : ev_O × ev_AH} {x1 : Int32} {w2 w3 w4 w5 w6 : Option Value} (hL : hh_L h) (k : tr_L g d m_X9_strengths 81 [some (.ref 1099), some (.int x1), some (.int 0), w3, w4, w5, w6] [] h r) : tr_L g d m_X9_strengths 79 [some (.ref 1099), some (.int x1), w2, w3, w4, w5, w6] [] h r := by
  refine tr_ic 0 0 (by decide) rfl ?_
  refine tr_st (.istore_n 2) 1 2 0 (.int 0) rfl rfl rfl rfl rfl rfl rfl ?_
  exact k
theorem sg_X9_strengths_81 {g : tr_g} {d : Nat} {h : ev_AH} {r : ev_O × ev_AH} {x1 x2 : Int32} {w3 w4 w5 w6 : Option Value} (hL : hh_L h) (t : 4 ≤ x2 → tr_L g d m_X9_strengths 177 [some (.ref 1099), some (.int x1), some (.int x2), w3, w4, w5, w6] [] h r) (f : x2 < 4 → tr_L g d m_X9_strengths 86 [some (.ref 1099), some (.int x1), some (.int x2), w3, w4, w5, w6] [] h r) : tr_L g d m_X9_strengths 81 [some (.ref 1099), some (.int x1), some (.int x2), w3, w4, w5, w6] [] h r := by
  refine tr_s (.iload_n 2) 1 82 [some (.ref 1099), some (.int x1), some (.int x2), w3, w4, w5, w6] [.int x2] h rfl rfl rfl ?_
  refine tr_ic 4 4 (by decide) rfl ?_
  exact tr_if2 .ge 94 177 x2 4 rfl rfl rfl (fun hc => t ((tr_ge hc).1 rfl)) (fun hc => f ((tr_ge hc).2 rfl))
theorem sg_X9_strengths_86 {g : tr_g} {d : Nat} {h : ev_AH} {r : ev_O × ev_AH} {x1 x2 : Int32} {w3 w4 w5 w6 : Option Value} (hL : hh_L h) (k : tr_L g d m_X9_strengths 88 [some (.ref 1099), some (.int x1), some (.int x2), some (.int 0), w4, w5, w6] [] h r) : tr_L g d m_X9_strengths 86 [some (.ref 1099), some (.int x1), some (.int x2), w3, w4, w5, w6] [] h r := by
  refine tr_ic 0 0 (by decide) rfl ?_
  refine tr_st (.istore_n 3) 1 3 0 (.int 0) rfl rfl rfl rfl rfl rfl rfl ?_
  exact k
theorem sg_X9_strengths_88 {g : tr_g} {d : Nat} {h : ev_AH} {r : ev_O × ev_AH} {x1 x2 x3 : Int32} {w4 w5 w6 : Option Value} (hL : hh_L h) (t : 4 ≤ x3 → tr_L g d m_X9_strengths 171 [some (.ref 1099), some (.int x1), some (.int x2), some (.int x3), w4, w5, w6] [] h r) (f : x3 < 4 → tr_L g d m_X9_strengths 93 [some (.ref 1099), some (.int x1), some (.int x2), some (.int x3), w4, w5, w6] [] h r) : tr_L g d m_X9_strengths 88 [some (.ref 1099), some (.int x1), some (.int x2), some (.int x3), w4, w5, w6] [] h r := by
  refine tr_s (.iload_n 3) 1 89 [some (.ref 1099), some (.int x1), some (.int x2), some (.int x3), w4, w5, w6] [.int x3] h rfl rfl rfl ?_
  refine tr_ic 4 4 (by decide) rfl ?_
  exact tr_if2 .ge 81 171 x3 4 rfl rfl rfl (fun hc => t ((tr_ge hc).1 rfl)) (fun hc => f ((tr_ge hc).2 rfl))
theorem sg_X9_strengths_93 {g : tr_g} {d : Nat} {h : ev_AH} {r : ev_O × ev_AH} {x1 x2 x3 : Int32} {w4 w5 w6 : Option Value} {j0 j1 : Nat} (hL : hh_L h) (e0 : (4 * x2) + x1 = Int32.ofNat j0) (b0 : j0 < 16) (e1 : (4 * x1) + x3 = Int32.ofNat j1) (b1 : j1 < 16) (t : ((hh_a h 105).getD j1 0) ≤ ((hh_a h 105).getD j0 0) → tr_L g d m_X9_strengths 129 [some (.ref 1099), some (.int x1), some (.int x2), some (.int x3), some (.int ((hh_a h 105).getD j0 0)), some (.int ((hh_a h 105).getD j1 0)), w6] [] h r) (f : ((hh_a h 105).getD j0 0) < ((hh_a h 105).getD j1 0) → tr_L g d m_X9_strengths 124 [some (.ref 1099), some (.int x1), some (.int x2), some (.int x3), some (.int ((hh_a h 105).getD j0 0)), some (.int ((hh_a h 105).getD j1 0)), w6] [] h r) : tr_L g d m_X9_strengths 93 [some (.ref 1099), some (.int x1), some (.int x2), some (.int x3), w4, w5, w6] [] h r := by
  refine tr_s (.aload_n 0) 1 94 [some (.ref 1099), some (.int x1), some (.int x2), some (.int x3), w4, w5, w6] [.ref 1099] h rfl rfl rfl ?_
  refine tl_gr hL 25 99 8 5 105 [1100, 1101, 1102, 1103, 1104, 1105, 0, 0, 0, 0, 0, 0, 0, 0, 0, 0, 0, 0, 0, 0, 0, 1106, 0, 1107, 1108, 0, 0, 0] rfl rfl rfl rfl ?_
  refine tr_ic 4 4 (by decide) rfl ?_
  refine tr_s (.iload_n 2) 1 99 [some (.ref 1099), some (.int x1), some (.int x2), some (.int x3), w4, w5, w6] [.int x2, .int 4, .ref 1105] h rfl rfl rfl ?_
  refine tr_s .imul 1 100 [some (.ref 1099), some (.int x1), some (.int x2), some (.int x3), w4, w5, w6] [.int (4 * x2), .ref 1105] h rfl rfl rfl ?_
  refine tr_s (.iload_n 1) 1 101 [some (.ref 1099), some (.int x1), some (.int x2), some (.int x3), w4, w5, w6] [.int x1, .int (4 * x2), .ref 1105] h rfl rfl rfl ?_
  refine tr_s .iadd 1 102 [some (.ref 1099), some (.int x1), some (.int x2), some (.int x3), w4, w5, w6] [.int ((4 * x2) + x1), .ref 1105] h rfl rfl rfl ?_
  refine tl_ald hL .iaload 105 0 16 j0 ((4 * x2) + x1) rfl (by decide) rfl e0 b0 (by decide) ?_
  refine tr_st (.istore 4) 2 4 0 (.int ((hh_a h 105).getD j0 0)) rfl rfl rfl rfl rfl rfl rfl ?_
  refine tr_s (.aload_n 0) 1 106 [some (.ref 1099), some (.int x1), some (.int x2), some (.int x3), some (.int ((hh_a h 105).getD j0 0)), w5, w6] [.ref 1099] h rfl rfl rfl ?_
  refine tl_gr hL 25 99 8 5 105 [1100, 1101, 1102, 1103, 1104, 1105, 0, 0, 0, 0, 0, 0, 0, 0, 0, 0, 0, 0, 0, 0, 0, 1106, 0, 1107, 1108, 0, 0, 0] rfl rfl rfl rfl ?_
  refine tr_ic 4 4 (by decide) rfl ?_
  refine tr_s (.iload_n 1) 1 111 [some (.ref 1099), some (.int x1), some (.int x2), some (.int x3), some (.int ((hh_a h 105).getD j0 0)), w5, w6] [.int x1, .int 4, .ref 1105] h rfl rfl rfl ?_
  refine tr_s .imul 1 112 [some (.ref 1099), some (.int x1), some (.int x2), some (.int x3), some (.int ((hh_a h 105).getD j0 0)), w5, w6] [.int (4 * x1), .ref 1105] h rfl rfl rfl ?_
  refine tr_s (.iload_n 3) 1 113 [some (.ref 1099), some (.int x1), some (.int x2), some (.int x3), some (.int ((hh_a h 105).getD j0 0)), w5, w6] [.int x3, .int (4 * x1), .ref 1105] h rfl rfl rfl ?_
  refine tr_s .iadd 1 114 [some (.ref 1099), some (.int x1), some (.int x2), some (.int x3), some (.int ((hh_a h 105).getD j0 0)), w5, w6] [.int ((4 * x1) + x3), .ref 1105] h rfl rfl rfl ?_
  refine tl_ald hL .iaload 105 0 16 j1 ((4 * x1) + x3) rfl (by decide) rfl e1 b1 (by decide) ?_
  refine tr_st (.istore 5) 2 5 0 (.int ((hh_a h 105).getD j1 0)) rfl rfl rfl rfl rfl rfl rfl ?_
  refine tr_s (.iload 4) 2 119 [some (.ref 1099), some (.int x1), some (.int x2), some (.int x3), some (.int ((hh_a h 105).getD j0 0)), some (.int ((hh_a h 105).getD j1 0)), w6] [.int ((hh_a h 105).getD j0 0)] h rfl rfl rfl ?_
  refine tr_s (.iload 5) 2 121 [some (.ref 1099), some (.int x1), some (.int x2), some (.int x3), some (.int ((hh_a h 105).getD j0 0)), some (.int ((hh_a h 105).getD j1 0)), w6] [.int ((hh_a h 105).getD j1 0), .int ((hh_a h 105).getD j0 0)] h rfl rfl rfl ?_
  exact tr_if2 .ge 8 129 ((hh_a h 105).getD j0 0) ((hh_a h 105).getD j1 0) rfl rfl rfl (fun hc => t ((tr_ge hc).1 rfl)) (fun hc => f ((tr_ge hc).2 rfl))
theorem sg_X9_strengths_124 {g : tr_g} {d : Nat} {h : ev_AH} {r : ev_O × ev_AH} {x1 x2 x3 x4 : Int32} {w5 w6 : Option Value} (hL : hh_L h) (o5 : tr_ow w5 = true) (t : x2 = x3 → tr_L g d m_X9_strengths 165 [some (.ref 1099), some (.int x1), some (.int x2), some (.int x3), some (.int x4), w5, some (.int x4)] [] h r) (f : x2 ≠ x3 → tr_L g d m_X9_strengths 138 [some (.ref 1099), some (.int x1), some (.int x2), some (.int x3), some (.int x4), w5, some (.int x4)] [] h r) : tr_L g d m_X9_strengths 124 [some (.ref 1099), some (.int x1), some (.int x2), some (.int x3), some (.int x4), w5, w6] [] h r := by
  refine tr_s (.iload 4) 2 126 [some (.ref 1099), some (.int x1), some (.int x2), some (.int x3), some (.int x4), w5, w6] [.int x4] h rfl rfl rfl ?_
  refine tr_goto 5 131 rfl rfl rfl ?_
  refine tr_st (.istore 6) 2 6 0 (.int x4) rfl rfl rfl rfl rfl rfl (tr_sok (Nat.le_of_ble_eq_true rfl) rfl o5) ?_
  refine tr_s (.iload_n 2) 1 134 [some (.ref 1099), some (.int x1), some (.int x2), some (.int x3), some (.int x4), w5, some (.int x4)] [.int x2] h rfl rfl rfl ?_
  refine tr_s (.iload_n 3) 1 135 [some (.ref 1099), some (.int x1), some (.int x2), some (.int x3), some (.int x4), w5, some (.int x4)] [.int x3, .int x2] h rfl rfl rfl ?_
  exact tr_if2 .eq 30 165 x2 x3 rfl rfl rfl (fun hc => t ((tr_eq hc).1 rfl)) (fun hc => f ((tr_eq hc).2 rfl))
theorem sg_X9_strengths_129 {g : tr_g} {d : Nat} {h : ev_AH} {r : ev_O × ev_AH} {x1 x2 x3 x5 : Int32} {w4 w6 : Option Value} (hL : hh_L h) (t : x2 = x3 → tr_L g d m_X9_strengths 165 [some (.ref 1099), some (.int x1), some (.int x2), some (.int x3), w4, some (.int x5), some (.int x5)] [] h r) (f : x2 ≠ x3 → tr_L g d m_X9_strengths 138 [some (.ref 1099), some (.int x1), some (.int x2), some (.int x3), w4, some (.int x5), some (.int x5)] [] h r) : tr_L g d m_X9_strengths 129 [some (.ref 1099), some (.int x1), some (.int x2), some (.int x3), w4, some (.int x5), w6] [] h r := by
  refine tr_s (.iload 5) 2 131 [some (.ref 1099), some (.int x1), some (.int x2), some (.int x3), w4, some (.int x5), w6] [.int x5] h rfl rfl rfl ?_
  refine tr_st (.istore 6) 2 6 0 (.int x5) rfl rfl rfl rfl rfl rfl rfl ?_
  refine tr_s (.iload_n 2) 1 134 [some (.ref 1099), some (.int x1), some (.int x2), some (.int x3), w4, some (.int x5), some (.int x5)] [.int x2] h rfl rfl rfl ?_
  refine tr_s (.iload_n 3) 1 135 [some (.ref 1099), some (.int x1), some (.int x2), some (.int x3), w4, some (.int x5), some (.int x5)] [.int x3, .int x2] h rfl rfl rfl ?_
  exact tr_if2 .eq 30 165 x2 x3 rfl rfl rfl (fun hc => t ((tr_eq hc).1 rfl)) (fun hc => f ((tr_eq hc).2 rfl))
theorem sg_X9_strengths_138 {g : tr_g} {d : Nat} {h : ev_AH} {r : ev_O × ev_AH} {x1 x2 x3 x6 : Int32} {w4 w5 : Option Value} {j0 : Nat} (hL : hh_L h) (e0 : (4 * x2) + x3 = Int32.ofNat j0) (b0 : j0 < 16) (t : x6 ≤ ((hh_a h 105).getD j0 0) → tr_L g d m_X9_strengths 165 [some (.ref 1099), some (.int x1), some (.int x2), some (.int x3), w4, w5, some (.int x6)] [] h r) (f : ((hh_a h 105).getD j0 0) < x6 → tr_L g d m_X9_strengths 153 [some (.ref 1099), some (.int x1), some (.int x2), some (.int x3), w4, w5, some (.int x6)] [] h r) : tr_L g d m_X9_strengths 138 [some (.ref 1099), some (.int x1), some (.int x2), some (.int x3), w4, w5, some (.int x6)] [] h r := by
  refine tr_s (.iload 6) 2 140 [some (.ref 1099), some (.int x1), some (.int x2), some (.int x3), w4, w5, some (.int x6)] [.int x6] h rfl rfl rfl ?_
  refine tr_s (.aload_n 0) 1 141 [some (.ref 1099), some (.int x1), some (.int x2), some (.int x3), w4, w5, some (.int x6)] [.ref 1099, .int x6] h rfl rfl rfl ?_
  refine tl_gr hL 25 99 8 5 105 [1100, 1101, 1102, 1103, 1104, 1105, 0, 0, 0, 0, 0, 0, 0, 0, 0, 0, 0, 0, 0, 0, 0, 1106, 0, 1107, 1108, 0, 0, 0] rfl rfl rfl rfl ?_
  refine tr_ic 4 4 (by decide) rfl ?_
  refine tr_s (.iload_n 2) 1 146 [some (.ref 1099), some (.int x1), some (.int x2), some (.int x3), w4, w5, some (.int x6)] [.int x2, .int 4, .ref 1105, .int x6] h rfl rfl rfl ?_
  refine tr_s .imul 1 147 [some (.ref 1099), some (.int x1), some (.int x2), some (.int x3), w4, w5, some (.int x6)] [.int (4 * x2), .ref 1105, .int x6] h rfl rfl rfl ?_
  refine tr_s (.iload_n 3) 1 148 [some (.ref 1099), some (.int x1), some (.int x2), some (.int x3), w4, w5, some (.int x6)] [.int x3, .int (4 * x2), .ref 1105, .int x6] h rfl rfl rfl ?_
  refine tr_s .iadd 1 149 [some (.ref 1099), some (.int x1), some (.int x2), some (.int x3), w4, w5, some (.int x6)] [.int ((4 * x2) + x3), .ref 1105, .int x6] h rfl rfl rfl ?_
  refine tl_ald hL .iaload 105 0 16 j0 ((4 * x2) + x3) rfl (by decide) rfl e0 b0 (by decide) ?_
  exact tr_if2 .le 15 165 x6 ((hh_a h 105).getD j0 0) rfl rfl rfl (fun hc => t ((tr_le hc).1 rfl)) (fun hc => f ((tr_le hc).2 rfl))
theorem sg_X9_strengths_153 {g : tr_g} {d : Nat} {h : ev_AH} {r : ev_O × ev_AH} {x1 x2 x3 x6 : Int32} {w4 w5 : Option Value} {j0 : Nat} (hL : hh_L h) (e0 : (4 * x2) + x3 = Int32.ofNat j0) (b0 : j0 < 16) (k : tr_L g d m_X9_strengths 88 [some (.ref 1099), some (.int x1), some (.int x2), some (.int (x3 + 1)), w4, w5, some (.int x6)] [] (hh_sa h 105 0 ((hh_a h 105).set j0 x6)) r) : tr_L g d m_X9_strengths 153 [some (.ref 1099), some (.int x1), some (.int x2), some (.int x3), w4, w5, some (.int x6)] [] h r := by
  refine tr_s (.aload_n 0) 1 154 [some (.ref 1099), some (.int x1), some (.int x2), some (.int x3), w4, w5, some (.int x6)] [.ref 1099] h rfl rfl rfl ?_
  refine tl_gr hL 25 99 8 5 105 [1100, 1101, 1102, 1103, 1104, 1105, 0, 0, 0, 0, 0, 0, 0, 0, 0, 0, 0, 0, 0, 0, 0, 1106, 0, 1107, 1108, 0, 0, 0] rfl rfl rfl rfl ?_
  refine tr_ic 4 4 (by decide) rfl ?_
  refine tr_s (.iload_n 2) 1 159 [some (.ref 1099), some (.int x1), some (.int x2), some (.int x3), w4, w5, some (.int x6)] [.int x2, .int 4, .ref 1105] h rfl rfl rfl ?_
  refine tr_s .imul 1 160 [some (.ref 1099), some (.int x1), some (.int x2), some (.int x3), w4, w5, some (.int x6)] [.int (4 * x2), .ref 1105] h rfl rfl rfl ?_
  refine tr_s (.iload_n 3) 1 161 [some (.ref 1099), some (.int x1), some (.int x2), some (.int x3), w4, w5, some (.int x6)] [.int x3, .int (4 * x2), .ref 1105] h rfl rfl rfl ?_
  refine tr_s .iadd 1 162 [some (.ref 1099), some (.int x1), some (.int x2), some (.int x3), w4, w5, some (.int x6)] [.int ((4 * x2) + x3), .ref 1105] h rfl rfl rfl ?_
  refine tr_s (.iload 6) 2 164 [some (.ref 1099), some (.int x1), some (.int x2), some (.int x3), w4, w5, some (.int x6)] [.int x6, .int ((4 * x2) + x3), .ref 1105] h rfl rfl rfl ?_
  refine tl_ias hL 105 16 j0 ((4 * x2) + x3) x6 rfl rfl e0 b0 (by decide) ?_
  have hL0 := hh_L_ss (j := j0) (x := x6) hL (show hh_t[105]? = some (.inl (0, 16)) from rfl)
  refine tr_inc 3 1 x3 1 (by decide) rfl rfl rfl ?_
  refine tr_goto (-80) 88 rfl rfl rfl ?_
  exact k
theorem sg_X9_strengths_165 {g : tr_g} {d : Nat} {h : ev_AH} {r : ev_O × ev_AH} {x1 x2 x3 : Int32} {w4 w5 w6 : Option Value} (hL : hh_L h) (k : tr_L g d m_X9_strengths 88 [some (.ref 1099), some (.int x1), some (.int x2), some (.int (x3 + 1)), w4, w5, w6] [] h r) : tr_L g d m_X9_strengths 165 [some (.ref 1099), some (.int x1), some (.int x2), some (.int x3), w4, w5, w6] [] h r := by
  refine tr_inc 3 1 x3 1 (by decide) rfl rfl rfl ?_
  refine tr_goto (-80) 88 rfl rfl rfl ?_
  exact k
theorem sg_X9_strengths_171 {g : tr_g} {d : Nat} {h : ev_AH} {r : ev_O × ev_AH} {x1 x2 : Int32} {w3 w4 w5 w6 : Option Value} (hL : hh_L h) (k : tr_L g d m_X9_strengths 81 [some (.ref 1099), some (.int x1), some (.int (x2 + 1)), w3, w4, w5, w6] [] h r) : tr_L g d m_X9_strengths 171 [some (.ref 1099), some (.int x1), some (.int x2), w3, w4, w5, w6] [] h r := by
  refine tr_inc 2 1 x2 1 (by decide) rfl rfl rfl ?_
  refine tr_goto (-93) 81 rfl rfl rfl ?_
  exact k
theorem sg_X9_strengths_177 {g : tr_g} {d : Nat} {h : ev_AH} {r : ev_O × ev_AH} {x1 : Int32} {w2 w3 w4 w5 w6 : Option Value} (hL : hh_L h) (k : tr_L g d m_X9_strengths 74 [some (.ref 1099), some (.int (x1 + 1)), w2, w3, w4, w5, w6] [] h r) : tr_L g d m_X9_strengths 177 [some (.ref 1099), some (.int x1), w2, w3, w4, w5, w6] [] h r := by
  refine tr_inc 1 1 x1 1 (by decide) rfl rfl rfl ?_
  refine tr_goto (-106) 74 rfl rfl rfl ?_
  exact k
theorem sg_X9_strengths_183 {g : tr_g} {d : Nat} {h : ev_AH} {r : ev_O × ev_AH} {w0 w1 w2 w3 w4 w5 w6 : Option Value} (hL : hh_L h) (hr : r = (.inl (none), h)) : tr_L g d m_X9_strengths 183 [w0, w1, w2, w3, w4, w5, w6] [] h r := by
  exact tl_ret hL .return_ 1 none rfl rfl rfl rfl hr
theorem sg_X9_strengthByTrying_0 {g : tr_g} {d : Nat} {h : ev_AH} {r : ev_O × ev_AH} {x1 x2 v0 : Int32} {h1 : ev_AH} (hL : hh_L h) (c_0 : tr_L g d m_X9_strengthOf 0 [some (.ref 1099), some (.int x1), some (.int x2)] [] h (.inl (some (.int v0)), h1)) (hr : r = (.inl (some (.int v0)), h1)) : tr_L g (d + 1) m_X9_strengthByTrying 0 [some (.ref 1099), some (.int x1), some (.int x2)] [] h r := by
  refine tr_s (.aload_n 0) 1 1 [some (.ref 1099), some (.int x1), some (.int x2)] [.ref 1099] h rfl rfl rfl ?_
  refine tr_s (.iload_n 1) 1 2 [some (.ref 1099), some (.int x1), some (.int x2)] [.int x1, .ref 1099] h rfl rfl rfl ?_
  refine tr_s (.iload_n 2) 1 3 [some (.ref 1099), some (.int x1), some (.int x2)] [.int x2, .int x1, .ref 1099] h rfl rfl rfl ?_
  refine tr_call (.invokevirtual 218) 218 0 2 8 m_X9_strengthOf [.ref 1099, .int x1, .int x2] [] (some (.int v0)) h1 rfl rfl rfl rfl rfl rfl rfl rfl rfl (tr_cok rfl (Or.inr ⟨_, _, rfl, tr_rc (hh_rd (hh_obj hL (k := 99) rfl).1) (by decide)⟩)) c_0 ?_
  have hL0 := c_0.2
  exact tl_ret hL0 .ireturn 1 (some (.int v0)) rfl rfl rfl rfl hr
theorem sg_X9_strengthWinner_0 {g : tr_g} {d : Nat} {h : ev_AH} {r : ev_O × ev_AH} {j0 : Nat} (hL : hh_L h) (e0 : 1 = Int32.ofNat j0) (b0 : j0 < 124) (t : ((hh_a h 100).getD j0 0) ≠ 0 → tr_L g d m_X9_strengthWinner 14 [some (.ref 1099)] [.ref 1099] h r) (f : ((hh_a h 100).getD j0 0) = 0 → tr_L g d m_X9_strengthWinner 10 [some (.ref 1099)] [.ref 1099] h r) : tr_L g d m_X9_strengthWinner 0 [some (.ref 1099)] [] h r := by
  refine tr_s (.aload_n 0) 1 1 [some (.ref 1099)] [.ref 1099] h rfl rfl rfl ?_
  refine tr_s (.aload_n 0) 1 2 [some (.ref 1099)] [.ref 1099, .ref 1099] h rfl rfl rfl ?_
  refine tl_gr hL 9 99 8 0 100 [1100, 1101, 1102, 1103, 1104, 1105, 0, 0, 0, 0, 0, 0, 0, 0, 0, 0, 0, 0, 0, 0, 0, 1106, 0, 1107, 1108, 0, 0, 0] rfl rfl rfl rfl ?_
  refine tr_ic 1 1 (by decide) rfl ?_
  refine tl_ald hL .iaload 100 0 124 j0 1 rfl (by decide) rfl e0 b0 (by decide) ?_
  exact tr_if1 .ne 7 14 ((hh_a h 100).getD j0 0) rfl rfl rfl (fun hc => t ((tr_ne hc).1 rfl)) (fun hc => f ((tr_ne hc).2 rfl))
theorem sg_X9_strengthWinner_10 {g : tr_g} {d : Nat} {h : ev_AH} {r : ev_O × ev_AH} {h1 : ev_AH} {v0 : Int32} (hL : hh_L h) (c_0 : tr_L g d m_X9_isThrown 0 [some (.ref 1099), some (.int 1), some (.int 1)] [] h (.inl (some (.int v0)), h1)) (t : v0 = 0 → tr_L g (d + 1) m_X9_strengthWinner 26 [some (.ref 1099)] [] h1 r) (f : v0 ≠ 0 → tr_L g (d + 1) m_X9_strengthWinner 22 [some (.ref 1099)] [] h1 r) : tr_L g (d + 1) m_X9_strengthWinner 10 [some (.ref 1099)] [.ref 1099] h r := by
  refine tr_ic 1 1 (by decide) rfl ?_
  refine tr_goto 4 15 rfl rfl rfl ?_
  refine tr_ic 1 1 (by decide) rfl ?_
  refine tr_call (.invokevirtual 66) 66 0 2 8 m_X9_isThrown [.ref 1099, .int 1, .int 1] [] (some (.int v0)) h1 rfl rfl rfl rfl rfl rfl rfl rfl rfl (tr_cok rfl (Or.inr ⟨_, _, rfl, tr_rc (hh_rd (hh_obj hL (k := 99) rfl).1) (by decide)⟩)) c_0 ?_
  have hL0 := c_0.2
  exact tr_if1 .eq 7 26 v0 rfl rfl rfl (fun hc => t ((tr_eq hc).1 rfl)) (fun hc => f ((tr_eq hc).2 rfl))
theorem sg_X9_strengthWinner_14 {g : tr_g} {d : Nat} {h : ev_AH} {r : ev_O × ev_AH} {h1 : ev_AH} {v0 : Int32} (hL : hh_L h) (c_0 : tr_L g d m_X9_isThrown 0 [some (.ref 1099), some (.int 0), some (.int 1)] [] h (.inl (some (.int v0)), h1)) (t : v0 = 0 → tr_L g (d + 1) m_X9_strengthWinner 26 [some (.ref 1099)] [] h1 r) (f : v0 ≠ 0 → tr_L g (d + 1) m_X9_strengthWinner 22 [some (.ref 1099)] [] h1 r) : tr_L g (d + 1) m_X9_strengthWinner 14 [some (.ref 1099)] [.ref 1099] h r := by
  refine tr_ic 0 0 (by decide) rfl ?_
  refine tr_ic 1 1 (by decide) rfl ?_
  refine tr_call (.invokevirtual 66) 66 0 2 8 m_X9_isThrown [.ref 1099, .int 0, .int 1] [] (some (.int v0)) h1 rfl rfl rfl rfl rfl rfl rfl rfl rfl (tr_cok rfl (Or.inr ⟨_, _, rfl, tr_rc (hh_rd (hh_obj hL (k := 99) rfl).1) (by decide)⟩)) c_0 ?_
  have hL0 := c_0.2
  exact tr_if1 .eq 7 26 v0 rfl rfl rfl (fun hc => t ((tr_eq hc).1 rfl)) (fun hc => f ((tr_eq hc).2 rfl))
theorem sg_X9_strengthWinner_22 {g : tr_g} {d : Nat} {h : ev_AH} {r : ev_O × ev_AH} {w0 : Option Value} (hL : hh_L h) (hr : r = (.inl (some (.int 0)), h)) : tr_L g d m_X9_strengthWinner 22 [w0] [] h r := by
  refine tr_ic 0 0 (by decide) rfl ?_
  refine tr_goto 11 34 rfl rfl rfl ?_
  exact tl_ret hL .ireturn 1 (some (.int 0)) rfl rfl rfl rfl hr
theorem sg_X9_strengthWinner_26 {g : tr_g} {d : Nat} {h : ev_AH} {r : ev_O × ev_AH} {h1 : ev_AH} {v0 : Int32} (hL : hh_L h) (c_0 : tr_L g d m_X9_byStrengths 0 [some (.ref 1099), none, none, none] [] h (.inl (some (.int v0)), h1)) (hc0 : tr_ch (((97 + v0).toUInt32 % 65536).toInt32)) (hr : r = (.inl (some (.int (((97 + v0).toUInt32 % 65536).toInt32))), h1)) : tr_L g (d + 1) m_X9_strengthWinner 26 [some (.ref 1099)] [] h r := by
  refine tr_bi 97 97 (by decide) rfl ?_
  refine tr_s (.aload_n 0) 1 29 [some (.ref 1099)] [.ref 1099, .int 97] h rfl rfl rfl ?_
  refine tr_call (.invokevirtual 222) 222 0 0 8 m_X9_byStrengths [.ref 1099] [.int 97] (some (.int v0)) h1 rfl rfl rfl rfl rfl rfl rfl rfl rfl (tr_cok rfl (Or.inr ⟨_, _, rfl, tr_rc (hh_rd (hh_obj hL (k := 99) rfl).1) (by decide)⟩)) c_0 ?_
  have hL0 := c_0.2
  refine tr_s .iadd 1 33 [some (.ref 1099)] [.int (97 + v0)] h1 rfl rfl rfl ?_
  refine tr_s .i2c 1 34 [some (.ref 1099)] [.int (((97 + v0).toUInt32 % 65536).toInt32)] h1 rfl rfl rfl ?_
  exact tl_ret hL0 .ireturn 1 (some (.int (((97 + v0).toUInt32 % 65536).toInt32))) rfl rfl rfl (tr_ec rfl hc0) hr
theorem sg_X9_byStrengths_0 {g : tr_g} {d : Nat} {h : ev_AH} {r : ev_O × ev_AH} {h1 : ev_AH} (hL : hh_L h) (c_0 : tr_L g d m_X9_strengths 0 [some (.ref 1099), none, none, none, none, none, none] [] h (.inl none, h1)) (k : tr_L g (d + 1) m_X9_byStrengths 6 [some (.ref 1099), some (.int 0), none, none] [] h1 r) : tr_L g (d + 1) m_X9_byStrengths 0 [some (.ref 1099), none, none, none] [] h r := by
  refine tr_s (.aload_n 0) 1 1 [some (.ref 1099), none, none, none] [.ref 1099] h rfl rfl rfl ?_
  refine tr_call (.invokevirtual 206) 206 0 0 8 m_X9_strengths [.ref 1099] [] none h1 rfl rfl rfl rfl rfl rfl rfl rfl rfl (tr_cok rfl (Or.inr ⟨_, _, rfl, tr_rc (hh_rd (hh_obj hL (k := 99) rfl).1) (by decide)⟩)) c_0 ?_
  have hL0 := c_0.2
  refine tr_ic 0 0 (by decide) rfl ?_
  refine tr_st (.istore_n 1) 1 1 0 (.int 0) rfl rfl rfl rfl rfl rfl rfl ?_
  exact k
theorem sg_X9_byStrengths_6 {g : tr_g} {d : Nat} {h : ev_AH} {r : ev_O × ev_AH} {x1 : Int32} {w2 w3 : Option Value} (hL : hh_L h) (t : 4 ≤ x1 → tr_L g d m_X9_byStrengths 69 [some (.ref 1099), some (.int x1), w2, w3] [] h r) (f : x1 < 4 → tr_L g d m_X9_byStrengths 11 [some (.ref 1099), some (.int x1), w2, w3] [] h r) : tr_L g d m_X9_byStrengths 6 [some (.ref 1099), some (.int x1), w2, w3] [] h r := by
  refine tr_s (.iload_n 1) 1 7 [some (.ref 1099), some (.int x1), w2, w3] [.int x1] h rfl rfl rfl ?_
  refine tr_ic 4 4 (by decide) rfl ?_
  exact tr_if2 .ge 61 69 x1 4 rfl rfl rfl (fun hc => t ((tr_ge hc).1 rfl)) (fun hc => f ((tr_ge hc).2 rfl))
theorem sg_X9_byStrengths_11 {g : tr_g} {d : Nat} {h : ev_AH} {r : ev_O × ev_AH} {x1 : Int32} {w2 w3 : Option Value} (hL : hh_L h) (k : tr_L g d m_X9_byStrengths 15 [some (.ref 1099), some (.int x1), some (.int 1), some (.int 0)] [] h r) : tr_L g d m_X9_byStrengths 11 [some (.ref 1099), some (.int x1), w2, w3] [] h r := by
  refine tr_ic 1 1 (by decide) rfl ?_
  refine tr_st (.istore_n 2) 1 2 0 (.int 1) rfl rfl rfl rfl rfl rfl rfl ?_
  refine tr_ic 0 0 (by decide) rfl ?_
  refine tr_st (.istore_n 3) 1 3 0 (.int 0) rfl rfl rfl rfl rfl rfl rfl ?_
  exact k
theorem sg_X9_byStrengths_15 {g : tr_g} {d : Nat} {h : ev_AH} {r : ev_O × ev_AH} {x1 x2 x3 : Int32} (hL : hh_L h) (t : 4 ≤ x3 → tr_L g d m_X9_byStrengths 57 [some (.ref 1099), some (.int x1), some (.int x2), some (.int x3)] [] h r) (f : x3 < 4 → tr_L g d m_X9_byStrengths 20 [some (.ref 1099), some (.int x1), some (.int x2), some (.int x3)] [] h r) : tr_L g d m_X9_byStrengths 15 [some (.ref 1099), some (.int x1), some (.int x2), some (.int x3)] [] h r := by
  refine tr_s (.iload_n 3) 1 16 [some (.ref 1099), some (.int x1), some (.int x2), some (.int x3)] [.int x3] h rfl rfl rfl ?_
  refine tr_ic 4 4 (by decide) rfl ?_
  exact tr_if2 .ge 40 57 x3 4 rfl rfl rfl (fun hc => t ((tr_ge hc).1 rfl)) (fun hc => f ((tr_ge hc).2 rfl))
theorem sg_X9_byStrengths_20 {g : tr_g} {d : Nat} {h : ev_AH} {r : ev_O × ev_AH} {x1 x2 x3 : Int32} {j0 j1 : Nat} (hL : hh_L h) (e0 : (4 * x1) + x3 = Int32.ofNat j0) (b0 : j0 < 16) (e1 : (4 * x3) + x1 = Int32.ofNat j1) (b1 : j1 < 16) (t : ((hh_a h 105).getD j0 0) < ((hh_a h 105).getD j1 0) → tr_L g d m_X9_byStrengths 48 [some (.ref 1099), some (.int x1), some (.int x2), some (.int x3)] [.int x2] h r) (f : ((hh_a h 105).getD j1 0) ≤ ((hh_a h 105).getD j0 0) → tr_L g d m_X9_byStrengths 44 [some (.ref 1099), some (.int x1), some (.int x2), some (.int x3)] [.int x2] h r) : tr_L g d m_X9_byStrengths 20 [some (.ref 1099), some (.int x1), some (.int x2), some (.int x3)] [] h r := by
  refine tr_s (.iload_n 2) 1 21 [some (.ref 1099), some (.int x1), some (.int x2), some (.int x3)] [.int x2] h rfl rfl rfl ?_
  refine tr_s (.aload_n 0) 1 22 [some (.ref 1099), some (.int x1), some (.int x2), some (.int x3)] [.ref 1099, .int x2] h rfl rfl rfl ?_
  refine tl_gr hL 25 99 8 5 105 [1100, 1101, 1102, 1103, 1104, 1105, 0, 0, 0, 0, 0, 0, 0, 0, 0, 0, 0, 0, 0, 0, 0, 1106, 0, 1107, 1108, 0, 0, 0] rfl rfl rfl rfl ?_
  refine tr_ic 4 4 (by decide) rfl ?_
  refine tr_s (.iload_n 1) 1 27 [some (.ref 1099), some (.int x1), some (.int x2), some (.int x3)] [.int x1, .int 4, .ref 1105, .int x2] h rfl rfl rfl ?_
  refine tr_s .imul 1 28 [some (.ref 1099), some (.int x1), some (.int x2), some (.int x3)] [.int (4 * x1), .ref 1105, .int x2] h rfl rfl rfl ?_
  refine tr_s (.iload_n 3) 1 29 [some (.ref 1099), some (.int x1), some (.int x2), some (.int x3)] [.int x3, .int (4 * x1), .ref 1105, .int x2] h rfl rfl rfl ?_
  refine tr_s .iadd 1 30 [some (.ref 1099), some (.int x1), some (.int x2), some (.int x3)] [.int ((4 * x1) + x3), .ref 1105, .int x2] h rfl rfl rfl ?_
  refine tl_ald hL .iaload 105 0 16 j0 ((4 * x1) + x3) rfl (by decide) rfl e0 b0 (by decide) ?_
  refine tr_s (.aload_n 0) 1 32 [some (.ref 1099), some (.int x1), some (.int x2), some (.int x3)] [.ref 1099, .int ((hh_a h 105).getD j0 0), .int x2] h rfl rfl rfl ?_
  refine tl_gr hL 25 99 8 5 105 [1100, 1101, 1102, 1103, 1104, 1105, 0, 0, 0, 0, 0, 0, 0, 0, 0, 0, 0, 0, 0, 0, 0, 1106, 0, 1107, 1108, 0, 0, 0] rfl rfl rfl rfl ?_
  refine tr_ic 4 4 (by decide) rfl ?_
  refine tr_s (.iload_n 3) 1 37 [some (.ref 1099), some (.int x1), some (.int x2), some (.int x3)] [.int x3, .int 4, .ref 1105, .int ((hh_a h 105).getD j0 0), .int x2] h rfl rfl rfl ?_
  refine tr_s .imul 1 38 [some (.ref 1099), some (.int x1), some (.int x2), some (.int x3)] [.int (4 * x3), .ref 1105, .int ((hh_a h 105).getD j0 0), .int x2] h rfl rfl rfl ?_
  refine tr_s (.iload_n 1) 1 39 [some (.ref 1099), some (.int x1), some (.int x2), some (.int x3)] [.int x1, .int (4 * x3), .ref 1105, .int ((hh_a h 105).getD j0 0), .int x2] h rfl rfl rfl ?_
  refine tr_s .iadd 1 40 [some (.ref 1099), some (.int x1), some (.int x2), some (.int x3)] [.int ((4 * x3) + x1), .ref 1105, .int ((hh_a h 105).getD j0 0), .int x2] h rfl rfl rfl ?_
  refine tl_ald hL .iaload 105 0 16 j1 ((4 * x3) + x1) rfl (by decide) rfl e1 b1 (by decide) ?_
  exact tr_if2 .lt 7 48 ((hh_a h 105).getD j0 0) ((hh_a h 105).getD j1 0) rfl rfl rfl (fun hc => t ((tr_lt hc).1 rfl)) (fun hc => f ((tr_lt hc).2 rfl))
theorem sg_X9_byStrengths_44 {g : tr_g} {d : Nat} {h : ev_AH} {r : ev_O × ev_AH} {x1 x3 s0 : Int32} {w2 : Option Value} (hL : hh_L h) (k : tr_L g d m_X9_byStrengths 15 [some (.ref 1099), some (.int x1), some (.int (s0 &&& 1)), some (.int (x3 + 1))] [] h r) : tr_L g d m_X9_byStrengths 44 [some (.ref 1099), some (.int x1), w2, some (.int x3)] [.int s0] h r := by
  refine tr_ic 1 1 (by decide) rfl ?_
  refine tr_goto 4 49 rfl rfl rfl ?_
  refine tr_s .iand 1 50 [some (.ref 1099), some (.int x1), w2, some (.int x3)] [.int (s0 &&& 1)] h rfl rfl rfl ?_
  refine tr_st (.istore_n 2) 1 2 0 (.int (s0 &&& 1)) rfl rfl rfl rfl rfl rfl rfl ?_
  refine tr_inc 3 1 x3 1 (by decide) rfl rfl rfl ?_
  refine tr_goto (-39) 15 rfl rfl rfl ?_
  exact k
theorem sg_X9_byStrengths_48 {g : tr_g} {d : Nat} {h : ev_AH} {r : ev_O × ev_AH} {x1 x3 s0 : Int32} {w2 : Option Value} (hL : hh_L h) (k : tr_L g d m_X9_byStrengths 15 [some (.ref 1099), some (.int x1), some (.int (s0 &&& 0)), some (.int (x3 + 1))] [] h r) : tr_L g d m_X9_byStrengths 48 [some (.ref 1099), some (.int x1), w2, some (.int x3)] [.int s0] h r := by
  refine tr_ic 0 0 (by decide) rfl ?_
  refine tr_s .iand 1 50 [some (.ref 1099), some (.int x1), w2, some (.int x3)] [.int (s0 &&& 0)] h rfl rfl rfl ?_
  refine tr_st (.istore_n 2) 1 2 0 (.int (s0 &&& 0)) rfl rfl rfl rfl rfl rfl rfl ?_
  refine tr_inc 3 1 x3 1 (by decide) rfl rfl rfl ?_
  refine tr_goto (-39) 15 rfl rfl rfl ?_
  exact k
theorem sg_X9_byStrengths_57 {g : tr_g} {d : Nat} {h : ev_AH} {r : ev_O × ev_AH} {x1 x2 : Int32} {w3 : Option Value} (hL : hh_L h) (t : x2 = 0 → tr_L g d m_X9_byStrengths 63 [some (.ref 1099), some (.int x1), some (.int x2), w3] [] h r) (f : x2 ≠ 0 → tr_L g d m_X9_byStrengths 61 [some (.ref 1099), some (.int x1), some (.int x2), w3] [] h r) : tr_L g d m_X9_byStrengths 57 [some (.ref 1099), some (.int x1), some (.int x2), w3] [] h r := by
  refine tr_s (.iload_n 2) 1 58 [some (.ref 1099), some (.int x1), some (.int x2), w3] [.int x2] h rfl rfl rfl ?_
  exact tr_if1 .eq 5 63 x2 rfl rfl rfl (fun hc => t ((tr_eq hc).1 rfl)) (fun hc => f ((tr_eq hc).2 rfl))
theorem sg_X9_byStrengths_61 {g : tr_g} {d : Nat} {h : ev_AH} {r : ev_O × ev_AH} {w0 w2 w3 : Option Value} {x1 : Int32} (hL : hh_L h) (hr : r = (.inl (some (.int x1)), h)) : tr_L g d m_X9_byStrengths 61 [w0, some (.int x1), w2, w3] [] h r := by
  refine tr_s (.iload_n 1) 1 62 [w0, some (.int x1), w2, w3] [.int x1] h rfl rfl rfl ?_
  exact tl_ret hL .ireturn 1 (some (.int x1)) rfl rfl rfl rfl hr
theorem sg_X9_byStrengths_63 {g : tr_g} {d : Nat} {h : ev_AH} {r : ev_O × ev_AH} {x1 : Int32} {w2 w3 : Option Value} (hL : hh_L h) (k : tr_L g d m_X9_byStrengths 6 [some (.ref 1099), some (.int (x1 + 1)), w2, w3] [] h r) : tr_L g d m_X9_byStrengths 63 [some (.ref 1099), some (.int x1), w2, w3] [] h r := by
  refine tr_inc 1 1 x1 1 (by decide) rfl rfl rfl ?_
  refine tr_goto (-60) 6 rfl rfl rfl ?_
  exact k
theorem sg_X9_byStrengths_69 {g : tr_g} {d : Nat} {h : ev_AH} {r : ev_O × ev_AH} {w0 w1 w2 w3 : Option Value} (hL : hh_L h) (hr : r = (.inl (some (.int 0)), h)) : tr_L g d m_X9_byStrengths 69 [w0, w1, w2, w3] [] h r := by
  refine tr_ic 0 0 (by decide) rfl ?_
  exact tl_ret hL .ireturn 1 (some (.int 0)) rfl rfl rfl rfl hr
theorem sg_X9_isDominant_0 {g : tr_g} {d : Nat} {h : ev_AH} {r : ev_O × ev_AH} {x1 v0 : Int32} {h1 : ev_AH} (hL : hh_L h) (c_0 : tr_L g d m_X9_isOption 0 [some (.int x1)] [] h (.inl (some (.int v0)), h1)) (t : v0 ≠ 0 → tr_L g (d + 1) m_X9_isDominant 12 [some (.ref 1099), some (.int x1)] [.ref 1099] h1 r) (f : v0 = 0 → tr_L g (d + 1) m_X9_isDominant 8 [some (.ref 1099), some (.int x1)] [.ref 1099] h1 r) : tr_L g (d + 1) m_X9_isDominant 0 [some (.ref 1099), some (.int x1)] [] h r := by
  refine tr_s (.aload_n 0) 1 1 [some (.ref 1099), some (.int x1)] [.ref 1099] h rfl rfl rfl ?_
  refine tr_s (.iload_n 1) 1 2 [some (.ref 1099), some (.int x1)] [.int x1, .ref 1099] h rfl rfl rfl ?_
  refine tr_call (.invokestatic 78) 78 2 1 0 m_X9_isOption [.int x1] [.ref 1099] (some (.int v0)) h1 rfl rfl rfl rfl rfl rfl rfl rfl rfl (tr_cok rfl (Or.inl rfl)) c_0 ?_
  have hL0 := c_0.2
  exact tr_if1 .ne 7 12 v0 rfl rfl rfl (fun hc => t ((tr_ne hc).1 rfl)) (fun hc => f ((tr_ne hc).2 rfl))
theorem sg_X9_isDominant_8 {g : tr_g} {d : Nat} {h : ev_AH} {r : ev_O × ev_AH} {x1 v0 : Int32} {h1 : ev_AH} (hL : hh_L h) (c_0 : tr_L g d m_X9_isThrown 0 [some (.ref 1099), some (.int 1), some (.int 1)] [] h (.inl (some (.int v0)), h1)) (t : v0 ≠ 0 → tr_L g (d + 1) m_X9_isDominant 35 [some (.ref 1099), some (.int x1)] [] h1 r) (f : v0 = 0 → tr_L g (d + 1) m_X9_isDominant 20 [some (.ref 1099), some (.int x1)] [] h1 r) : tr_L g (d + 1) m_X9_isDominant 8 [some (.ref 1099), some (.int x1)] [.ref 1099] h r := by
  refine tr_ic 1 1 (by decide) rfl ?_
  refine tr_goto 4 13 rfl rfl rfl ?_
  refine tr_ic 1 1 (by decide) rfl ?_
  refine tr_call (.invokevirtual 66) 66 0 2 8 m_X9_isThrown [.ref 1099, .int 1, .int 1] [] (some (.int v0)) h1 rfl rfl rfl rfl rfl rfl rfl rfl rfl (tr_cok rfl (Or.inr ⟨_, _, rfl, tr_rc (hh_rd (hh_obj hL (k := 99) rfl).1) (by decide)⟩)) c_0 ?_
  have hL0 := c_0.2
  exact tr_if1 .ne 18 35 v0 rfl rfl rfl (fun hc => t ((tr_ne hc).1 rfl)) (fun hc => f ((tr_ne hc).2 rfl))
theorem sg_X9_isDominant_12 {g : tr_g} {d : Nat} {h : ev_AH} {r : ev_O × ev_AH} {x1 v0 : Int32} {h1 : ev_AH} (hL : hh_L h) (c_0 : tr_L g d m_X9_isThrown 0 [some (.ref 1099), some (.int 0), some (.int 1)] [] h (.inl (some (.int v0)), h1)) (t : v0 ≠ 0 → tr_L g (d + 1) m_X9_isDominant 35 [some (.ref 1099), some (.int x1)] [] h1 r) (f : v0 = 0 → tr_L g (d + 1) m_X9_isDominant 20 [some (.ref 1099), some (.int x1)] [] h1 r) : tr_L g (d + 1) m_X9_isDominant 12 [some (.ref 1099), some (.int x1)] [.ref 1099] h r := by
  refine tr_ic 0 0 (by decide) rfl ?_
  refine tr_ic 1 1 (by decide) rfl ?_
  refine tr_call (.invokevirtual 66) 66 0 2 8 m_X9_isThrown [.ref 1099, .int 0, .int 1] [] (some (.int v0)) h1 rfl rfl rfl rfl rfl rfl rfl rfl rfl (tr_cok rfl (Or.inr ⟨_, _, rfl, tr_rc (hh_rd (hh_obj hL (k := 99) rfl).1) (by decide)⟩)) c_0 ?_
  have hL0 := c_0.2
  exact tr_if1 .ne 18 35 v0 rfl rfl rfl (fun hc => t ((tr_ne hc).1 rfl)) (fun hc => f ((tr_ne hc).2 rfl))
theorem sg_X9_isDominant_20 {g : tr_g} {d : Nat} {h : ev_AH} {r : ev_O × ev_AH} {x1 v0 : Int32} {h1 : ev_AH} (hL : hh_L h) (c_0 : tr_L g d m_X9_dominates 0 [some (.ref 1099), some (.int (x1 - 97)), none, none] [] h (.inl (some (.int v0)), h1)) (t : v0 = 0 → tr_L g (d + 1) m_X9_isDominant 35 [some (.ref 1099), some (.int x1)] [] h1 r) (f : v0 ≠ 0 → tr_L g (d + 1) m_X9_isDominant 31 [some (.ref 1099), some (.int x1)] [] h1 r) : tr_L g (d + 1) m_X9_isDominant 20 [some (.ref 1099), some (.int x1)] [] h r := by
  refine tr_s (.aload_n 0) 1 21 [some (.ref 1099), some (.int x1)] [.ref 1099] h rfl rfl rfl ?_
  refine tr_s (.iload_n 1) 1 22 [some (.ref 1099), some (.int x1)] [.int x1, .ref 1099] h rfl rfl rfl ?_
  refine tr_bi 97 97 (by decide) rfl ?_
  refine tr_s .isub 1 25 [some (.ref 1099), some (.int x1)] [.int (x1 - 97), .ref 1099] h rfl rfl rfl ?_
  refine tr_call (.invokevirtual 225) 225 0 1 8 m_X9_dominates [.ref 1099, .int (x1 - 97)] [] (some (.int v0)) h1 rfl rfl rfl rfl rfl rfl rfl rfl rfl (tr_cok rfl (Or.inr ⟨_, _, rfl, tr_rc (hh_rd (hh_obj hL (k := 99) rfl).1) (by decide)⟩)) c_0 ?_
  have hL0 := c_0.2
  exact tr_if1 .eq 7 35 v0 rfl rfl rfl (fun hc => t ((tr_eq hc).1 rfl)) (fun hc => f ((tr_eq hc).2 rfl))
theorem sg_X9_isDominant_31 {g : tr_g} {d : Nat} {h : ev_AH} {r : ev_O × ev_AH} {w0 w1 : Option Value} (hL : hh_L h) (hr : r = (.inl (some (.int 1)), h)) : tr_L g d m_X9_isDominant 31 [w0, w1] [] h r := by
  refine tr_ic 1 1 (by decide) rfl ?_
  refine tr_goto 4 36 rfl rfl rfl ?_
  exact tl_ret hL .ireturn 1 (some (.int 1)) rfl rfl rfl rfl hr
theorem sg_X9_isDominant_35 {g : tr_g} {d : Nat} {h : ev_AH} {r : ev_O × ev_AH} {w0 w1 : Option Value} (hL : hh_L h) (hr : r = (.inl (some (.int 0)), h)) : tr_L g d m_X9_isDominant 35 [w0, w1] [] h r := by
  refine tr_ic 0 0 (by decide) rfl ?_
  exact tl_ret hL .ireturn 1 (some (.int 0)) rfl rfl rfl rfl hr
theorem sg_X9_dominates_0 {g : tr_g} {d : Nat} {h : ev_AH} {r : ev_O × ev_AH} {x1 : Int32} (hL : hh_L h) (k : tr_L g d m_X9_dominates 4 [some (.ref 1099), some (.int x1), some (.int 1), some (.int 0)] [] h r) : tr_L g d m_X9_dominates 0 [some (.ref 1099), some (.int x1), none, none] [] h r := by
  refine tr_ic 1 1 (by decide) rfl ?_
  refine tr_st (.istore_n 2) 1 2 0 (.int 1) rfl rfl rfl rfl rfl rfl rfl ?_
  refine tr_ic 0 0 (by decide) rfl ?_
  refine tr_st (.istore_n 3) 1 3 0 (.int 0) rfl rfl rfl rfl rfl rfl rfl ?_
  exact k
theorem sg_X9_dominates_4 {g : tr_g} {d : Nat} {h : ev_AH} {r : ev_O × ev_AH} {x1 x2 x3 : Int32} (hL : hh_L h) (t : 4 ≤ x3 → tr_L g d m_X9_dominates 45 [some (.ref 1099), some (.int x1), some (.int x2), some (.int x3)] [] h r) (f : x3 < 4 → tr_L g d m_X9_dominates 9 [some (.ref 1099), some (.int x1), some (.int x2), some (.int x3)] [] h r) : tr_L g d m_X9_dominates 4 [some (.ref 1099), some (.int x1), some (.int x2), some (.int x3)] [] h r := by
  refine tr_s (.iload_n 3) 1 5 [some (.ref 1099), some (.int x1), some (.int x2), some (.int x3)] [.int x3] h rfl rfl rfl ?_
  refine tr_ic 4 4 (by decide) rfl ?_
  exact tr_if2 .ge 39 45 x3 4 rfl rfl rfl (fun hc => t ((tr_ge hc).1 rfl)) (fun hc => f ((tr_ge hc).2 rfl))
theorem sg_X9_dominates_9 {g : tr_g} {d : Nat} {h : ev_AH} {r : ev_O × ev_AH} {x1 x2 x3 : Int32} (hL : hh_L h) (t : x3 = x1 → tr_L g d m_X9_dominates 32 [some (.ref 1099), some (.int x1), some (.int x2), some (.int x3)] [.int x2] h r) (f : x3 ≠ x1 → tr_L g d m_X9_dominates 15 [some (.ref 1099), some (.int x1), some (.int x2), some (.int x3)] [.int x2] h r) : tr_L g d m_X9_dominates 9 [some (.ref 1099), some (.int x1), some (.int x2), some (.int x3)] [] h r := by
  refine tr_s (.iload_n 2) 1 10 [some (.ref 1099), some (.int x1), some (.int x2), some (.int x3)] [.int x2] h rfl rfl rfl ?_
  refine tr_s (.iload_n 3) 1 11 [some (.ref 1099), some (.int x1), some (.int x2), some (.int x3)] [.int x3, .int x2] h rfl rfl rfl ?_
  refine tr_s (.iload_n 1) 1 12 [some (.ref 1099), some (.int x1), some (.int x2), some (.int x3)] [.int x1, .int x3, .int x2] h rfl rfl rfl ?_
  exact tr_if2 .eq 20 32 x3 x1 rfl rfl rfl (fun hc => t ((tr_eq hc).1 rfl)) (fun hc => f ((tr_eq hc).2 rfl))
theorem sg_X9_dominates_15 {g : tr_g} {d : Nat} {h : ev_AH} {r : ev_O × ev_AH} {x1 x3 s0 v0 : Int32} {w2 : Option Value} {h1 : ev_AH} {j0 : Nat} (hL : hh_L h) (c_0 : tr_L g d m_X9_likes 0 [some (.ref 1099), some (.int x1), some (.int x3), none, none] [] h (.inl (some (.int v0)), h1)) (e0 : 1 = Int32.ofNat j0) (b0 : j0 < 124) (t : (2 * v0) ≤ ((hh_a h1 100).getD j0 0) → tr_L g (d + 1) m_X9_dominates 36 [some (.ref 1099), some (.int x1), w2, some (.int x3)] [.int s0] h1 r) (f : ((hh_a h1 100).getD j0 0) < (2 * v0) → tr_L g (d + 1) m_X9_dominates 32 [some (.ref 1099), some (.int x1), w2, some (.int x3)] [.int s0] h1 r) : tr_L g (d + 1) m_X9_dominates 15 [some (.ref 1099), some (.int x1), w2, some (.int x3)] [.int s0] h r := by
  refine tr_ic 2 2 (by decide) rfl ?_
  refine tr_s (.aload_n 0) 1 17 [some (.ref 1099), some (.int x1), w2, some (.int x3)] [.ref 1099, .int 2, .int s0] h rfl rfl rfl ?_
  refine tr_s (.iload_n 1) 1 18 [some (.ref 1099), some (.int x1), w2, some (.int x3)] [.int x1, .ref 1099, .int 2, .int s0] h rfl rfl rfl ?_
  refine tr_s (.iload_n 3) 1 19 [some (.ref 1099), some (.int x1), w2, some (.int x3)] [.int x3, .int x1, .ref 1099, .int 2, .int s0] h rfl rfl rfl ?_
  refine tr_call (.invokevirtual 191) 191 0 2 8 m_X9_likes [.ref 1099, .int x1, .int x3] [.int 2, .int s0] (some (.int v0)) h1 rfl rfl rfl rfl rfl rfl rfl rfl rfl (tr_cok rfl (Or.inr ⟨_, _, rfl, tr_rc (hh_rd (hh_obj hL (k := 99) rfl).1) (by decide)⟩)) c_0 ?_
  have hL0 := c_0.2
  refine tr_s .imul 1 23 [some (.ref 1099), some (.int x1), w2, some (.int x3)] [.int (2 * v0), .int s0] h1 rfl rfl rfl ?_
  refine tr_s (.aload_n 0) 1 24 [some (.ref 1099), some (.int x1), w2, some (.int x3)] [.ref 1099, .int (2 * v0), .int s0] h1 rfl rfl rfl ?_
  refine tl_gr hL0 9 99 8 0 100 [1100, 1101, 1102, 1103, 1104, 1105, 0, 0, 0, 0, 0, 0, 0, 0, 0, 0, 0, 0, 0, 0, 0, 1106, 0, 1107, 1108, 0, 0, 0] rfl rfl rfl rfl ?_
  refine tr_ic 1 1 (by decide) rfl ?_
  refine tl_ald hL0 .iaload 100 0 124 j0 1 rfl (by decide) rfl e0 b0 (by decide) ?_
  exact tr_if2 .le 7 36 (2 * v0) ((hh_a h1 100).getD j0 0) rfl rfl rfl (fun hc => t ((tr_le hc).1 rfl)) (fun hc => f ((tr_le hc).2 rfl))
theorem sg_X9_dominates_32 {g : tr_g} {d : Nat} {h : ev_AH} {r : ev_O × ev_AH} {x1 x3 s0 : Int32} {w2 : Option Value} (hL : hh_L h) (k : tr_L g d m_X9_dominates 4 [some (.ref 1099), some (.int x1), some (.int (s0 &&& 1)), some (.int (x3 + 1))] [] h r) : tr_L g d m_X9_dominates 32 [some (.ref 1099), some (.int x1), w2, some (.int x3)] [.int s0] h r := by
  refine tr_ic 1 1 (by decide) rfl ?_
  refine tr_goto 4 37 rfl rfl rfl ?_
  refine tr_s .iand 1 38 [some (.ref 1099), some (.int x1), w2, some (.int x3)] [.int (s0 &&& 1)] h rfl rfl rfl ?_
  refine tr_st (.istore_n 2) 1 2 0 (.int (s0 &&& 1)) rfl rfl rfl rfl rfl rfl rfl ?_
  refine tr_inc 3 1 x3 1 (by decide) rfl rfl rfl ?_
  refine tr_goto (-38) 4 rfl rfl rfl ?_
  exact k
theorem sg_X9_dominates_36 {g : tr_g} {d : Nat} {h : ev_AH} {r : ev_O × ev_AH} {x1 x3 s0 : Int32} {w2 : Option Value} (hL : hh_L h) (k : tr_L g d m_X9_dominates 4 [some (.ref 1099), some (.int x1), some (.int (s0 &&& 0)), some (.int (x3 + 1))] [] h r) : tr_L g d m_X9_dominates 36 [some (.ref 1099), some (.int x1), w2, some (.int x3)] [.int s0] h r := by
  refine tr_ic 0 0 (by decide) rfl ?_
  refine tr_s .iand 1 38 [some (.ref 1099), some (.int x1), w2, some (.int x3)] [.int (s0 &&& 0)] h rfl rfl rfl ?_
  refine tr_st (.istore_n 2) 1 2 0 (.int (s0 &&& 0)) rfl rfl rfl rfl rfl rfl rfl ?_
  refine tr_inc 3 1 x3 1 (by decide) rfl rfl rfl ?_
  refine tr_goto (-38) 4 rfl rfl rfl ?_
  exact k
theorem sg_X9_dominates_45 {g : tr_g} {d : Nat} {h : ev_AH} {r : ev_O × ev_AH} {w0 w1 w3 : Option Value} {x2 : Int32} (hL : hh_L h) (hb0 : x2 = 0 ∨ x2 = 1) (hr : r = (.inl (some (.int x2)), h)) : tr_L g d m_X9_dominates 45 [w0, w1, some (.int x2), w3] [] h r := by
  refine tr_s (.iload_n 2) 1 46 [w0, w1, some (.int x2), w3] [.int x2] h rfl rfl rfl ?_
  exact tl_ret hL .ireturn 1 (some (.int x2)) rfl rfl rfl (tr_eb rfl hb0) hr
theorem sg_X9_setMethod_0 {g : tr_g} {d : Nat} {h : ev_AH} {r : ev_O × ev_AH} {x1 v0 v1 : Int32} {h1 h2 h3 : ev_AH} (hL : hh_L h) (c_0 : tr_L g d m_X9_keeps 0 [some (.ref 1099)] [] h (.inl none, h1)) (c_1 : tr_L g d m_X9_methods 0 [some (.ref 1099), some (.int x1), none] [] h1 (.inl (some (.int v0)), h2)) (c_2 : tr_L g d m_X9_ends 0 [some (.ref 1099), some (.int v0), none] [] h2 (.inl (some (.int v1)), h3)) (hc0 : tr_ch ((v1.toUInt32 % 65536).toInt32)) (hr : r = (.inl (some (.int ((v1.toUInt32 % 65536).toInt32))), h3)) : tr_L g (d + 1) m_X9_setMethod 0 [some (.ref 1099), some (.int x1)] [] h r := by
  refine tr_s (.aload_n 0) 1 1 [some (.ref 1099), some (.int x1)] [.ref 1099] h rfl rfl rfl ?_
  refine tr_call (.invokevirtual 100) 100 0 0 8 m_X9_keeps [.ref 1099] [] none h1 rfl rfl rfl rfl rfl rfl rfl rfl rfl (tr_cok rfl (Or.inr ⟨_, _, rfl, tr_rc (hh_rd (hh_obj hL (k := 99) rfl).1) (by decide)⟩)) c_0 ?_
  have hL0 := c_0.2
  refine tr_s (.aload_n 0) 1 5 [some (.ref 1099), some (.int x1)] [.ref 1099] h1 rfl rfl rfl ?_
  refine tr_s (.aload_n 0) 1 6 [some (.ref 1099), some (.int x1)] [.ref 1099, .ref 1099] h1 rfl rfl rfl ?_
  refine tr_s (.iload_n 1) 1 7 [some (.ref 1099), some (.int x1)] [.int x1, .ref 1099, .ref 1099] h1 rfl rfl rfl ?_
  refine tr_call (.invokevirtual 228) 228 0 1 8 m_X9_methods [.ref 1099, .int x1] [.ref 1099] (some (.int v0)) h2 rfl rfl rfl rfl rfl rfl rfl rfl rfl (tr_cok rfl (Or.inr ⟨_, _, rfl, tr_rc (hh_rd (hh_obj hL0 (k := 99) rfl).1) (by decide)⟩)) c_1 ?_
  have hL1 := c_1.2
  refine tr_call (.invokevirtual 107) 107 0 1 8 m_X9_ends [.ref 1099, .int v0] [] (some (.int v1)) h3 rfl rfl rfl rfl rfl rfl rfl rfl rfl (tr_cok rfl (Or.inr ⟨_, _, rfl, tr_rc (hh_rd (hh_obj hL1 (k := 99) rfl).1) (by decide)⟩)) c_2 ?_
  have hL2 := c_2.2
  refine tr_s .i2c 1 14 [some (.ref 1099), some (.int x1)] [.int ((v1.toUInt32 % 65536).toInt32)] h3 rfl rfl rfl ?_
  exact tl_ret hL2 .ireturn 1 (some (.int ((v1.toUInt32 % 65536).toInt32))) rfl rfl rfl (tr_ec rfl hc0) hr
theorem sg_X9_methods_0 {g : tr_g} {d : Nat} {h : ev_AH} {r : ev_O × ev_AH} {x1 : Int32} (hL : hh_L h) (t : x1 = 112 → tr_L g d m_X9_methods 23 [some (.ref 1099), some (.int x1), none] [.ref 1099] h r) (f : x1 ≠ 112 → tr_L g d m_X9_methods 7 [some (.ref 1099), some (.int x1), none] [.ref 1099] h r) : tr_L g d m_X9_methods 0 [some (.ref 1099), some (.int x1), none] [] h r := by
  refine tr_s (.aload_n 0) 1 1 [some (.ref 1099), some (.int x1), none] [.ref 1099] h rfl rfl rfl ?_
  refine tr_s (.iload_n 1) 1 2 [some (.ref 1099), some (.int x1), none] [.int x1, .ref 1099] h rfl rfl rfl ?_
  refine tr_bi 112 112 (by decide) rfl ?_
  exact tr_if2 .eq 19 23 x1 112 rfl rfl rfl (fun hc => t ((tr_eq hc).1 rfl)) (fun hc => f ((tr_eq hc).2 rfl))
theorem sg_X9_methods_7 {g : tr_g} {d : Nat} {h : ev_AH} {r : ev_O × ev_AH} {x1 : Int32} {w2 : Option Value} (hL : hh_L h) (t : x1 = 114 → tr_L g d m_X9_methods 23 [some (.ref 1099), some (.int x1), w2] [.ref 1099] h r) (f : x1 ≠ 114 → tr_L g d m_X9_methods 13 [some (.ref 1099), some (.int x1), w2] [.ref 1099] h r) : tr_L g d m_X9_methods 7 [some (.ref 1099), some (.int x1), w2] [.ref 1099] h r := by
  refine tr_s (.iload_n 1) 1 8 [some (.ref 1099), some (.int x1), w2] [.int x1, .ref 1099] h rfl rfl rfl ?_
  refine tr_bi 114 114 (by decide) rfl ?_
  exact tr_if2 .eq 13 23 x1 114 rfl rfl rfl (fun hc => t ((tr_eq hc).1 rfl)) (fun hc => f ((tr_eq hc).2 rfl))
theorem sg_X9_methods_13 {g : tr_g} {d : Nat} {h : ev_AH} {r : ev_O × ev_AH} {x1 : Int32} {w2 : Option Value} (hL : hh_L h) (t : x1 = 115 → tr_L g d m_X9_methods 23 [some (.ref 1099), some (.int x1), w2] [.ref 1099] h r) (f : x1 ≠ 115 → tr_L g d m_X9_methods 19 [some (.ref 1099), some (.int x1), w2] [.ref 1099] h r) : tr_L g d m_X9_methods 13 [some (.ref 1099), some (.int x1), w2] [.ref 1099] h r := by
  refine tr_s (.iload_n 1) 1 14 [some (.ref 1099), some (.int x1), w2] [.int x1, .ref 1099] h rfl rfl rfl ?_
  refine tr_bi 115 115 (by decide) rfl ?_
  exact tr_if2 .eq 7 23 x1 115 rfl rfl rfl (fun hc => t ((tr_eq hc).1 rfl)) (fun hc => f ((tr_eq hc).2 rfl))
theorem sg_X9_methods_19 {g : tr_g} {d : Nat} {h : ev_AH} {r : ev_O × ev_AH} {x1 v0 : Int32} {w2 : Option Value} {h1 : ev_AH} (hL : hh_L h) (c_0 : tr_L g d m_X9_isThrown 0 [some (.ref 1099), some (.int 1), some (.int 1)] [] h (.inl (some (.int v0)), h1)) (t : v0 = 0 → tr_L g (d + 1) m_X9_methods 33 [some (.ref 1099), some (.int x1), w2] [] h1 r) (f : v0 ≠ 0 → tr_L g (d + 1) m_X9_methods 31 [some (.ref 1099), some (.int x1), w2] [] h1 r) : tr_L g (d + 1) m_X9_methods 19 [some (.ref 1099), some (.int x1), w2] [.ref 1099] h r := by
  refine tr_ic 1 1 (by decide) rfl ?_
  refine tr_goto 4 24 rfl rfl rfl ?_
  refine tr_ic 1 1 (by decide) rfl ?_
  refine tr_call (.invokevirtual 66) 66 0 2 8 m_X9_isThrown [.ref 1099, .int 1, .int 1] [] (some (.int v0)) h1 rfl rfl rfl rfl rfl rfl rfl rfl rfl (tr_cok rfl (Or.inr ⟨_, _, rfl, tr_rc (hh_rd (hh_obj hL (k := 99) rfl).1) (by decide)⟩)) c_0 ?_
  have hL0 := c_0.2
  exact tr_if1 .eq 5 33 v0 rfl rfl rfl (fun hc => t ((tr_eq hc).1 rfl)) (fun hc => f ((tr_eq hc).2 rfl))
theorem sg_X9_methods_23 {g : tr_g} {d : Nat} {h : ev_AH} {r : ev_O × ev_AH} {x1 v0 : Int32} {w2 : Option Value} {h1 : ev_AH} (hL : hh_L h) (c_0 : tr_L g d m_X9_isThrown 0 [some (.ref 1099), some (.int 0), some (.int 1)] [] h (.inl (some (.int v0)), h1)) (t : v0 = 0 → tr_L g (d + 1) m_X9_methods 33 [some (.ref 1099), some (.int x1), w2] [] h1 r) (f : v0 ≠ 0 → tr_L g (d + 1) m_X9_methods 31 [some (.ref 1099), some (.int x1), w2] [] h1 r) : tr_L g (d + 1) m_X9_methods 23 [some (.ref 1099), some (.int x1), w2] [.ref 1099] h r := by
  refine tr_ic 0 0 (by decide) rfl ?_
  refine tr_ic 1 1 (by decide) rfl ?_
  refine tr_call (.invokevirtual 66) 66 0 2 8 m_X9_isThrown [.ref 1099, .int 0, .int 1] [] (some (.int v0)) h1 rfl rfl rfl rfl rfl rfl rfl rfl rfl (tr_cok rfl (Or.inr ⟨_, _, rfl, tr_rc (hh_rd (hh_obj hL (k := 99) rfl).1) (by decide)⟩)) c_0 ?_
  have hL0 := c_0.2
  exact tr_if1 .eq 5 33 v0 rfl rfl rfl (fun hc => t ((tr_eq hc).1 rfl)) (fun hc => f ((tr_eq hc).2 rfl))
theorem sg_X9_methods_31 {g : tr_g} {d : Nat} {h : ev_AH} {r : ev_O × ev_AH} {w0 w1 w2 : Option Value} (hL : hh_L h) (hr : r = (.inl (some (.int 0)), h)) : tr_L g d m_X9_methods 31 [w0, w1, w2] [] h r := by
  refine tr_ic 0 0 (by decide) rfl ?_
  exact tl_ret hL .ireturn 1 (some (.int 0)) rfl rfl rfl rfl hr
theorem sg_X9_methods_33 {g : tr_g} {d : Nat} {h : ev_AH} {r : ev_O × ev_AH} {x1 : Int32} {w2 : Option Value} {j0 j1 : Nat} (hL : hh_L h) (e0 : 0 = Int32.ofNat j0) (b0 : j0 < 124) (e1 : 0 = Int32.ofNat j1) (b1 : j1 < 124) (hr : r = (.inl (some (.int ((hh_a h 100).getD j0 0))), hh_sa h 100 0 ((hh_a h 100).set j1 x1))) : tr_L g d m_X9_methods 33 [some (.ref 1099), some (.int x1), w2] [] h r := by
  refine tr_s (.aload_n 0) 1 34 [some (.ref 1099), some (.int x1), w2] [.ref 1099] h rfl rfl rfl ?_
  refine tl_gr hL 9 99 8 0 100 [1100, 1101, 1102, 1103, 1104, 1105, 0, 0, 0, 0, 0, 0, 0, 0, 0, 0, 0, 0, 0, 0, 0, 1106, 0, 1107, 1108, 0, 0, 0] rfl rfl rfl rfl ?_
  refine tr_ic 0 0 (by decide) rfl ?_
  refine tl_ald hL .iaload 100 0 124 j0 0 rfl (by decide) rfl e0 b0 (by decide) ?_
  refine tr_st (.istore_n 2) 1 2 0 (.int ((hh_a h 100).getD j0 0)) rfl rfl rfl rfl rfl rfl rfl ?_
  refine tr_s (.aload_n 0) 1 41 [some (.ref 1099), some (.int x1), some (.int ((hh_a h 100).getD j0 0))] [.ref 1099] h rfl rfl rfl ?_
  refine tl_gr hL 9 99 8 0 100 [1100, 1101, 1102, 1103, 1104, 1105, 0, 0, 0, 0, 0, 0, 0, 0, 0, 0, 0, 0, 0, 0, 0, 1106, 0, 1107, 1108, 0, 0, 0] rfl rfl rfl rfl ?_
  refine tr_ic 0 0 (by decide) rfl ?_
  refine tr_s (.iload_n 1) 1 46 [some (.ref 1099), some (.int x1), some (.int ((hh_a h 100).getD j0 0))] [.int x1, .int 0, .ref 1100] h rfl rfl rfl ?_
  refine tl_ias hL 100 124 j1 0 x1 rfl rfl e1 b1 (by decide) ?_
  have hL0 := hh_L_ss (j := j1) (x := x1) hL (show hh_t[100]? = some (.inl (0, 124)) from rfl)
  refine tr_s (.iload_n 2) 1 48 [some (.ref 1099), some (.int x1), some (.int ((hh_a h 100).getD j0 0))] [.int ((hh_a h 100).getD j0 0)] (hh_sa h 100 0 ((hh_a h 100).set j1 x1)) rfl rfl rfl ?_
  exact tl_ret hL0 .ireturn 1 (some (.int ((hh_a h 100).getD j0 0))) rfl rfl rfl rfl hr
theorem sg_X9_method_0 {g : tr_g} {d : Nat} {h : ev_AH} {r : ev_O × ev_AH} {j0 : Nat} (hL : hh_L h) (e0 : 0 = Int32.ofNat j0) (b0 : j0 < 124) (hc0 : tr_ch ((((hh_a (hh_si h 99 8 7 0) 100).getD j0 0).toUInt32 % 65536).toInt32)) (hr : r = (.inl (some (.int ((((hh_a (hh_si h 99 8 7 0) 100).getD j0 0).toUInt32 % 65536).toInt32))), hh_si h 99 8 7 0)) : tr_L g d m_X9_method 0 [some (.ref 1099)] [] h r := by
  refine tr_s (.aload_n 0) 1 1 [some (.ref 1099)] [.ref 1099] h rfl rfl rfl ?_
  refine tr_ic 0 0 (by decide) rfl ?_
  refine tl_pf hL 41 99 8 7 [1100, 1101, 1102, 1103, 1104, 1105, 0, 0, 0, 0, 0, 0, 0, 0, 0, 0, 0, 0, 0, 0, 0, 1106, 0, 1107, 1108, 0, 0, 0] 0 .int rfl rfl rfl rfl rfl tr_oki ?_
  have hL0 := hh_L_si (sl := 7) (x := 0) hL (show hh_t[99]? = some (.inr (8, [1100, 1101, 1102, 1103, 1104, 1105, 0, 0, 0, 0, 0, 0, 0, 0, 0, 0, 0, 0, 0, 0, 0, 1106, 0, 1107, 1108, 0, 0, 0])) from rfl) rfl
  refine tr_s (.aload_n 0) 1 6 [some (.ref 1099)] [.ref 1099] (hh_si h 99 8 7 0) rfl rfl rfl ?_
  refine tl_gr hL0 9 99 8 0 100 [1100, 1101, 1102, 1103, 1104, 1105, 0, 0, 0, 0, 0, 0, 0, 0, 0, 0, 0, 0, 0, 0, 0, 1106, 0, 1107, 1108, 0, 0, 0] rfl rfl rfl rfl ?_
  refine tr_ic 0 0 (by decide) rfl ?_
  refine tl_ald hL0 .iaload 100 0 124 j0 0 rfl (by decide) rfl e0 b0 (by decide) ?_
  refine tr_s .i2c 1 12 [some (.ref 1099)] [.int ((((hh_a (hh_si h 99 8 7 0) 100).getD j0 0).toUInt32 % 65536).toInt32)] (hh_si h 99 8 7 0) rfl rfl rfl ?_
  exact tl_ret hL0 .ireturn 1 (some (.int ((((hh_a (hh_si h 99 8 7 0) 100).getD j0 0).toUInt32 % 65536).toInt32))) rfl rfl rfl (tr_ec rfl hc0) hr
theorem sg_X9_deliberate_0 {g : tr_g} {d : Nat} {h : ev_AH} {r : ev_O × ev_AH} {h1 h2 h3 : ev_AH} {v0 v1 : Int32} (hL : hh_L h) (c_0 : tr_L g d m_X9_keeps 0 [some (.ref 1099)] [] h (.inl none, h1)) (c_1 : tr_L g d m_X9_votesAll 0 [some (.ref 1099), none, none, none] [] h1 (.inl (some (.int v0)), h2)) (c_2 : tr_L g d m_X9_ends 0 [some (.ref 1099), some (.int v0), none] [] h2 (.inl (some (.int v1)), h3)) (hc0 : tr_ch ((v1.toUInt32 % 65536).toInt32)) (hr : r = (.inl (some (.int ((v1.toUInt32 % 65536).toInt32))), h3)) : tr_L g (d + 1) m_X9_deliberate 0 [some (.ref 1099)] [] h r := by
  refine tr_s (.aload_n 0) 1 1 [some (.ref 1099)] [.ref 1099] h rfl rfl rfl ?_
  refine tr_call (.invokevirtual 100) 100 0 0 8 m_X9_keeps [.ref 1099] [] none h1 rfl rfl rfl rfl rfl rfl rfl rfl rfl (tr_cok rfl (Or.inr ⟨_, _, rfl, tr_rc (hh_rd (hh_obj hL (k := 99) rfl).1) (by decide)⟩)) c_0 ?_
  have hL0 := c_0.2
  refine tr_s (.aload_n 0) 1 5 [some (.ref 1099)] [.ref 1099] h1 rfl rfl rfl ?_
  refine tr_s (.aload_n 0) 1 6 [some (.ref 1099)] [.ref 1099, .ref 1099] h1 rfl rfl rfl ?_
  refine tr_call (.invokevirtual 234) 234 0 0 8 m_X9_votesAll [.ref 1099] [.ref 1099] (some (.int v0)) h2 rfl rfl rfl rfl rfl rfl rfl rfl rfl (tr_cok rfl (Or.inr ⟨_, _, rfl, tr_rc (hh_rd (hh_obj hL0 (k := 99) rfl).1) (by decide)⟩)) c_1 ?_
  have hL1 := c_1.2
  refine tr_call (.invokevirtual 107) 107 0 1 8 m_X9_ends [.ref 1099, .int v0] [] (some (.int v1)) h3 rfl rfl rfl rfl rfl rfl rfl rfl rfl (tr_cok rfl (Or.inr ⟨_, _, rfl, tr_rc (hh_rd (hh_obj hL1 (k := 99) rfl).1) (by decide)⟩)) c_2 ?_
  have hL2 := c_2.2
  refine tr_s .i2c 1 13 [some (.ref 1099)] [.int ((v1.toUInt32 % 65536).toInt32)] h3 rfl rfl rfl ?_
  exact tl_ret hL2 .ireturn 1 (some (.int ((v1.toUInt32 % 65536).toInt32))) rfl rfl rfl (tr_ec rfl hc0) hr
theorem sg_X9_votesAll_0 {g : tr_g} {d : Nat} {h : ev_AH} {r : ev_O × ev_AH} {j0 : Nat} (hL : hh_L h) (e0 : 1 = Int32.ofNat j0) (b0 : j0 < 124) (t : ((hh_a h 100).getD j0 0) ≠ 0 → tr_L g d m_X9_votesAll 14 [some (.ref 1099), none, none, none] [.ref 1099] h r) (f : ((hh_a h 100).getD j0 0) = 0 → tr_L g d m_X9_votesAll 10 [some (.ref 1099), none, none, none] [.ref 1099] h r) : tr_L g d m_X9_votesAll 0 [some (.ref 1099), none, none, none] [] h r := by
  refine tr_s (.aload_n 0) 1 1 [some (.ref 1099), none, none, none] [.ref 1099] h rfl rfl rfl ?_
  refine tr_s (.aload_n 0) 1 2 [some (.ref 1099), none, none, none] [.ref 1099, .ref 1099] h rfl rfl rfl ?_
  refine tl_gr hL 9 99 8 0 100 [1100, 1101, 1102, 1103, 1104, 1105, 0, 0, 0, 0, 0, 0, 0, 0, 0, 0, 0, 0, 0, 0, 0, 1106, 0, 1107, 1108, 0, 0, 0] rfl rfl rfl rfl ?_
  refine tr_ic 1 1 (by decide) rfl ?_
  refine tl_ald hL .iaload 100 0 124 j0 1 rfl (by decide) rfl e0 b0 (by decide) ?_
  exact tr_if1 .ne 7 14 ((hh_a h 100).getD j0 0) rfl rfl rfl (fun hc => t ((tr_ne hc).1 rfl)) (fun hc => f ((tr_ne hc).2 rfl))
theorem sg_X9_votesAll_10 {g : tr_g} {d : Nat} {h : ev_AH} {r : ev_O × ev_AH} {w1 w2 w3 : Option Value} {h1 h2 : ev_AH} {v0 v1 : Int32} (hL : hh_L h) (c_0 : tr_L g d m_X9_mirrors 0 [some (.ref 1099), none, none] [] h (.inl (some (.int v0)), h1)) (c_1 : tr_L g d m_X9_isRejected 0 [some (.ref 1099), some (.int 1), some (.int 4), some (.int v0), some (.int 1)] [] h1 (.inl (some (.int v1)), h2)) (t : v1 = 0 → tr_L g (d + 1) m_X9_votesAll 29 [some (.ref 1099), w1, w2, w3] [] h2 r) (f : v1 ≠ 0 → tr_L g (d + 1) m_X9_votesAll 27 [some (.ref 1099), w1, w2, w3] [] h2 r) : tr_L g (d + 1) m_X9_votesAll 10 [some (.ref 1099), w1, w2, w3] [.ref 1099] h r := by
  refine tr_ic 1 1 (by decide) rfl ?_
  refine tr_goto 4 15 rfl rfl rfl ?_
  refine tr_ic 4 4 (by decide) rfl ?_
  refine tr_s (.aload_n 0) 1 17 [some (.ref 1099), w1, w2, w3] [.ref 1099, .int 4, .int 1, .ref 1099] h rfl rfl rfl ?_
  refine tr_call (.invokevirtual 113) 113 0 0 8 m_X9_mirrors [.ref 1099] [.int 4, .int 1, .ref 1099] (some (.int v0)) h1 rfl rfl rfl rfl rfl rfl rfl rfl rfl (tr_cok rfl (Or.inr ⟨_, _, rfl, tr_rc (hh_rd (hh_obj hL (k := 99) rfl).1) (by decide)⟩)) c_0 ?_
  have hL0 := c_0.2
  refine tr_ic 1 1 (by decide) rfl ?_
  refine tr_call (.invokevirtual 88) 88 0 4 8 m_X9_isRejected [.ref 1099, .int 1, .int 4, .int v0, .int 1] [] (some (.int v1)) h2 rfl rfl rfl rfl rfl rfl rfl rfl rfl (tr_cok rfl (Or.inr ⟨_, _, rfl, tr_rc (hh_rd (hh_obj hL0 (k := 99) rfl).1) (by decide)⟩)) c_1 ?_
  have hL1 := c_1.2
  exact tr_if1 .eq 5 29 v1 rfl rfl rfl (fun hc => t ((tr_eq hc).1 rfl)) (fun hc => f ((tr_eq hc).2 rfl))
theorem sg_X9_votesAll_14 {g : tr_g} {d : Nat} {h : ev_AH} {r : ev_O × ev_AH} {w1 w2 w3 : Option Value} {h1 h2 : ev_AH} {v0 v1 : Int32} (hL : hh_L h) (c_0 : tr_L g d m_X9_mirrors 0 [some (.ref 1099), none, none] [] h (.inl (some (.int v0)), h1)) (c_1 : tr_L g d m_X9_isRejected 0 [some (.ref 1099), some (.int 0), some (.int 4), some (.int v0), some (.int 1)] [] h1 (.inl (some (.int v1)), h2)) (t : v1 = 0 → tr_L g (d + 1) m_X9_votesAll 29 [some (.ref 1099), w1, w2, w3] [] h2 r) (f : v1 ≠ 0 → tr_L g (d + 1) m_X9_votesAll 27 [some (.ref 1099), w1, w2, w3] [] h2 r) : tr_L g (d + 1) m_X9_votesAll 14 [some (.ref 1099), w1, w2, w3] [.ref 1099] h r := by
  refine tr_ic 0 0 (by decide) rfl ?_
  refine tr_ic 4 4 (by decide) rfl ?_
  refine tr_s (.aload_n 0) 1 17 [some (.ref 1099), w1, w2, w3] [.ref 1099, .int 4, .int 0, .ref 1099] h rfl rfl rfl ?_
  refine tr_call (.invokevirtual 113) 113 0 0 8 m_X9_mirrors [.ref 1099] [.int 4, .int 0, .ref 1099] (some (.int v0)) h1 rfl rfl rfl rfl rfl rfl rfl rfl rfl (tr_cok rfl (Or.inr ⟨_, _, rfl, tr_rc (hh_rd (hh_obj hL (k := 99) rfl).1) (by decide)⟩)) c_0 ?_
  have hL0 := c_0.2
  refine tr_ic 1 1 (by decide) rfl ?_
  refine tr_call (.invokevirtual 88) 88 0 4 8 m_X9_isRejected [.ref 1099, .int 0, .int 4, .int v0, .int 1] [] (some (.int v1)) h2 rfl rfl rfl rfl rfl rfl rfl rfl rfl (tr_cok rfl (Or.inr ⟨_, _, rfl, tr_rc (hh_rd (hh_obj hL0 (k := 99) rfl).1) (by decide)⟩)) c_1 ?_
  have hL1 := c_1.2
  exact tr_if1 .eq 5 29 v1 rfl rfl rfl (fun hc => t ((tr_eq hc).1 rfl)) (fun hc => f ((tr_eq hc).2 rfl))
theorem sg_X9_votesAll_27 {g : tr_g} {d : Nat} {h : ev_AH} {r : ev_O × ev_AH} {w0 w1 w2 w3 : Option Value} (hL : hh_L h) (hr : r = (.inl (some (.int 0)), h)) : tr_L g d m_X9_votesAll 27 [w0, w1, w2, w3] [] h r := by
  refine tr_ic 0 0 (by decide) rfl ?_
  exact tl_ret hL .ireturn 1 (some (.int 0)) rfl rfl rfl rfl hr
theorem sg_X9_votesAll_29 {g : tr_g} {d : Nat} {h : ev_AH} {r : ev_O × ev_AH} {w1 w2 w3 : Option Value} {h1 h2 : ev_AH} {v0 v1 : Int32} (hL : hh_L h) (c_0 : tr_L g d m_X9_winner 0 [some (.ref 1099)] [] h (.inl (some (.int v0)), h1)) (c_1 : tr_L g d m_X9_dominates 0 [some (.ref 1099), some (.int v0), none, none] [] h1 (.inl (some (.int v1)), h2)) (t : v1 = 0 → tr_L g (d + 1) m_X9_votesAll 49 [some (.ref 1099), some (.int v0), w2, w3] [] h2 r) (f : v1 ≠ 0 → tr_L g (d + 1) m_X9_votesAll 42 [some (.ref 1099), some (.int v0), w2, w3] [] h2 r) : tr_L g (d + 1) m_X9_votesAll 29 [some (.ref 1099), w1, w2, w3] [] h r := by
  refine tr_s (.aload_n 0) 1 30 [some (.ref 1099), w1, w2, w3] [.ref 1099] h rfl rfl rfl ?_
  refine tr_call (.invokevirtual 231) 231 0 0 8 m_X9_winner [.ref 1099] [] (some (.int v0)) h1 rfl rfl rfl rfl rfl rfl rfl rfl rfl (tr_cok rfl (Or.inr ⟨_, _, rfl, tr_rc (hh_rd (hh_obj hL (k := 99) rfl).1) (by decide)⟩)) c_0 ?_
  have hL0 := c_0.2
  refine tr_st (.istore_n 1) 1 1 0 (.int v0) rfl rfl rfl rfl rfl rfl rfl ?_
  refine tr_s (.aload_n 0) 1 35 [some (.ref 1099), some (.int v0), w2, w3] [.ref 1099] h1 rfl rfl rfl ?_
  refine tr_s (.iload_n 1) 1 36 [some (.ref 1099), some (.int v0), w2, w3] [.int v0, .ref 1099] h1 rfl rfl rfl ?_
  refine tr_call (.invokevirtual 225) 225 0 1 8 m_X9_dominates [.ref 1099, .int v0] [] (some (.int v1)) h2 rfl rfl rfl rfl rfl rfl rfl rfl rfl (tr_cok rfl (Or.inr ⟨_, _, rfl, tr_rc (hh_rd (hh_obj hL0 (k := 99) rfl).1) (by decide)⟩)) c_1 ?_
  have hL1 := c_1.2
  exact tr_if1 .eq 10 49 v1 rfl rfl rfl (fun hc => t ((tr_eq hc).1 rfl)) (fun hc => f ((tr_eq hc).2 rfl))
theorem sg_X9_votesAll_42 {g : tr_g} {d : Nat} {h : ev_AH} {r : ev_O × ev_AH} {x1 : Int32} {w2 w3 : Option Value} {j0 : Nat} (hL : hh_L h) (e0 : 3 = Int32.ofNat j0) (b0 : j0 < 124) (t : (97 + x1) ≠ 45 → tr_L g d m_X9_votesAll 69 [some (.ref 1099), some (.int x1), some (.int (97 + x1)), w3] [.int ((hh_a h 100).getD j0 0), .int 3, .ref 1100] h r) (f : (97 + x1) = 45 → tr_L g d m_X9_votesAll 65 [some (.ref 1099), some (.int x1), some (.int (97 + x1)), w3] [.int ((hh_a h 100).getD j0 0), .int 3, .ref 1100] h r) : tr_L g d m_X9_votesAll 42 [some (.ref 1099), some (.int x1), w2, w3] [] h r := by
  refine tr_bi 97 97 (by decide) rfl ?_
  refine tr_s (.iload_n 1) 1 45 [some (.ref 1099), some (.int x1), w2, w3] [.int x1, .int 97] h rfl rfl rfl ?_
  refine tr_s .iadd 1 46 [some (.ref 1099), some (.int x1), w2, w3] [.int (97 + x1)] h rfl rfl rfl ?_
  refine tr_goto 5 51 rfl rfl rfl ?_
  refine tr_st (.istore_n 2) 1 2 0 (.int (97 + x1)) rfl rfl rfl rfl rfl rfl rfl ?_
  refine tr_s (.aload_n 0) 1 53 [some (.ref 1099), some (.int x1), some (.int (97 + x1)), w3] [.ref 1099] h rfl rfl rfl ?_
  refine tl_gr hL 9 99 8 0 100 [1100, 1101, 1102, 1103, 1104, 1105, 0, 0, 0, 0, 0, 0, 0, 0, 0, 0, 0, 0, 0, 0, 0, 1106, 0, 1107, 1108, 0, 0, 0] rfl rfl rfl rfl ?_
  refine tr_ic 3 3 (by decide) rfl ?_
  refine tr_s .dup2 1 58 [some (.ref 1099), some (.int x1), some (.int (97 + x1)), w3] [.int 3, .ref 1100, .int 3, .ref 1100] h rfl rfl rfl ?_
  refine tl_ald hL .iaload 100 0 124 j0 3 rfl (by decide) rfl e0 b0 (by decide) ?_
  refine tr_s (.iload_n 2) 1 60 [some (.ref 1099), some (.int x1), some (.int (97 + x1)), w3] [.int (97 + x1), .int ((hh_a h 100).getD j0 0), .int 3, .ref 1100] h rfl rfl rfl ?_
  refine tr_bi 45 45 (by decide) rfl ?_
  exact tr_if2 .ne 7 69 (97 + x1) 45 rfl rfl rfl (fun hc => t ((tr_ne hc).1 rfl)) (fun hc => f ((tr_ne hc).2 rfl))
theorem sg_X9_votesAll_49 {g : tr_g} {d : Nat} {h : ev_AH} {r : ev_O × ev_AH} {w1 w2 w3 : Option Value} {j0 : Nat} (hL : hh_L h) (o1 : tr_ow w1 = true) (e0 : 3 = Int32.ofNat j0) (b0 : j0 < 124) (t : (45 : Int32) ≠ 45 → tr_L g d m_X9_votesAll 69 [some (.ref 1099), w1, some (.int 45), w3] [.int ((hh_a h 100).getD j0 0), .int 3, .ref 1100] h r) (f : (45 : Int32) = 45 → tr_L g d m_X9_votesAll 65 [some (.ref 1099), w1, some (.int 45), w3] [.int ((hh_a h 100).getD j0 0), .int 3, .ref 1100] h r) : tr_L g d m_X9_votesAll 49 [some (.ref 1099), w1, w2, w3] [] h r := by
  refine tr_bi 45 45 (by decide) rfl ?_
  refine tr_st (.istore_n 2) 1 2 0 (.int 45) rfl rfl rfl rfl rfl rfl (tr_sok (Nat.le_of_ble_eq_true rfl) rfl o1) ?_
  refine tr_s (.aload_n 0) 1 53 [some (.ref 1099), w1, some (.int 45), w3] [.ref 1099] h rfl rfl rfl ?_
  refine tl_gr hL 9 99 8 0 100 [1100, 1101, 1102, 1103, 1104, 1105, 0, 0, 0, 0, 0, 0, 0, 0, 0, 0, 0, 0, 0, 0, 0, 1106, 0, 1107, 1108, 0, 0, 0] rfl rfl rfl rfl ?_
  refine tr_ic 3 3 (by decide) rfl ?_
  refine tr_s .dup2 1 58 [some (.ref 1099), w1, some (.int 45), w3] [.int 3, .ref 1100, .int 3, .ref 1100] h rfl rfl rfl ?_
  refine tl_ald hL .iaload 100 0 124 j0 3 rfl (by decide) rfl e0 b0 (by decide) ?_
  refine tr_s (.iload_n 2) 1 60 [some (.ref 1099), w1, some (.int 45), w3] [.int 45, .int ((hh_a h 100).getD j0 0), .int 3, .ref 1100] h rfl rfl rfl ?_
  refine tr_bi 45 45 (by decide) rfl ?_
  exact tr_if2 .ne 7 69 45 45 rfl rfl rfl (fun hc => t ((tr_ne hc).1 rfl)) (fun hc => f ((tr_ne hc).2 rfl))
theorem sg_X9_votesAll_65 {g : tr_g} {d : Nat} {h : ev_AH} {r : ev_O × ev_AH} {w1 w3 : Option Value} {x2 s1 s2 : Int32} {j0 j1 j2 j3 j4 : Nat} (hL : hh_L h) (e0 : s1 = Int32.ofNat j0) (b0 : j0 < 124) (e1 : 2 = Int32.ofNat j1) (b1 : j1 < 124) (e2 : 2 = Int32.ofNat j2) (b2 : j2 < 124) (e3 : 6 = Int32.ofNat j3) (b3 : j3 < 124) (e4 : 7 = Int32.ofNat j4) (b4 : j4 < 124) (k : tr_L g d m_X9_votesAll 101 [some (.ref 1099), w1, some (.int x2), some (.int 9)] [] (hh_sa (hh_sa (hh_sa (hh_sa h 100 0 ((hh_a h 100).set j0 (s2 + 1))) 100 0 ((hh_a (hh_sa h 100 0 ((hh_a h 100).set j0 (s2 + 1))) 100).set j2 (((hh_a (hh_sa h 100 0 ((hh_a h 100).set j0 (s2 + 1))) 100).getD j1 0) + 1))) 100 0 ((hh_a (hh_sa (hh_sa h 100 0 ((hh_a h 100).set j0 (s2 + 1))) 100 0 ((hh_a (hh_sa h 100 0 ((hh_a h 100).set j0 (s2 + 1))) 100).set j2 (((hh_a (hh_sa h 100 0 ((hh_a h 100).set j0 (s2 + 1))) 100).getD j1 0) + 1))) 100).set j3 1)) 100 0 ((hh_a (hh_sa (hh_sa (hh_sa h 100 0 ((hh_a h 100).set j0 (s2 + 1))) 100 0 ((hh_a (hh_sa h 100 0 ((hh_a h 100).set j0 (s2 + 1))) 100).set j2 (((hh_a (hh_sa h 100 0 ((hh_a h 100).set j0 (s2 + 1))) 100).getD j1 0) + 1))) 100 0 ((hh_a (hh_sa (hh_sa h 100 0 ((hh_a h 100).set j0 (s2 + 1))) 100 0 ((hh_a (hh_sa h 100 0 ((hh_a h 100).set j0 (s2 + 1))) 100).set j2 (((hh_a (hh_sa h 100 0 ((hh_a h 100).set j0 (s2 + 1))) 100).getD j1 0) + 1))) 100).set j3 1)) 100).set j4 0)) r) : tr_L g d m_X9_votesAll 65 [some (.ref 1099), w1, some (.int x2), w3] [.int s2, .int s1, .ref 1100] h r := by
  refine tr_ic 1 1 (by decide) rfl ?_
  refine tr_goto 4 70 rfl rfl rfl ?_
  refine tr_s .iadd 1 71 [some (.ref 1099), w1, some (.int x2), w3] [.int (s2 + 1), .int s1, .ref 1100] h rfl rfl rfl ?_
  refine tl_ias hL 100 124 j0 s1 (s2 + 1) rfl rfl e0 b0 (by decide) ?_
  have hL0 := hh_L_ss (j := j0) (x := (s2 + 1)) hL (show hh_t[100]? = some (.inl (0, 124)) from rfl)
  refine tr_s (.aload_n 0) 1 73 [some (.ref 1099), w1, some (.int x2), w3] [.ref 1099] (hh_sa h 100 0 ((hh_a h 100).set j0 (s2 + 1))) rfl rfl rfl ?_
  refine tl_gr hL0 9 99 8 0 100 [1100, 1101, 1102, 1103, 1104, 1105, 0, 0, 0, 0, 0, 0, 0, 0, 0, 0, 0, 0, 0, 0, 0, 1106, 0, 1107, 1108, 0, 0, 0] rfl rfl rfl rfl ?_
  refine tr_ic 2 2 (by decide) rfl ?_
  refine tr_s .dup2 1 78 [some (.ref 1099), w1, some (.int x2), w3] [.int 2, .ref 1100, .int 2, .ref 1100] (hh_sa h 100 0 ((hh_a h 100).set j0 (s2 + 1))) rfl rfl rfl ?_
  refine tl_ald hL0 .iaload 100 0 124 j1 2 rfl (by decide) rfl e1 b1 (by decide) ?_
  refine tr_ic 1 1 (by decide) rfl ?_
  refine tr_s .iadd 1 81 [some (.ref 1099), w1, some (.int x2), w3] [.int (((hh_a (hh_sa h 100 0 ((hh_a h 100).set j0 (s2 + 1))) 100).getD j1 0) + 1), .int 2, .ref 1100] (hh_sa h 100 0 ((hh_a h 100).set j0 (s2 + 1))) rfl rfl rfl ?_
  refine tl_ias hL0 100 124 j2 2 (((hh_a (hh_sa h 100 0 ((hh_a h 100).set j0 (s2 + 1))) 100).getD j1 0) + 1) rfl rfl e2 b2 (by decide) ?_
  have hL1 := hh_L_ss (j := j2) (x := (((hh_a (hh_sa h 100 0 ((hh_a h 100).set j0 (s2 + 1))) 100).getD j1 0) + 1)) hL0 (show hh_t[100]? = some (.inl (0, 124)) from rfl)
  refine tr_s (.aload_n 0) 1 83 [some (.ref 1099), w1, some (.int x2), w3] [.ref 1099] (hh_sa (hh_sa h 100 0 ((hh_a h 100).set j0 (s2 + 1))) 100 0 ((hh_a (hh_sa h 100 0 ((hh_a h 100).set j0 (s2 + 1))) 100).set j2 (((hh_a (hh_sa h 100 0 ((hh_a h 100).set j0 (s2 + 1))) 100).getD j1 0) + 1))) rfl rfl rfl ?_
  refine tl_gr hL1 9 99 8 0 100 [1100, 1101, 1102, 1103, 1104, 1105, 0, 0, 0, 0, 0, 0, 0, 0, 0, 0, 0, 0, 0, 0, 0, 1106, 0, 1107, 1108, 0, 0, 0] rfl rfl rfl rfl ?_
  refine tr_bi 6 6 (by decide) rfl ?_
  refine tr_ic 1 1 (by decide) rfl ?_
  refine tl_ias hL1 100 124 j3 6 1 rfl rfl e3 b3 (by decide) ?_
  have hL2 := hh_L_ss (j := j3) (x := 1) hL1 (show hh_t[100]? = some (.inl (0, 124)) from rfl)
  refine tr_s (.aload_n 0) 1 91 [some (.ref 1099), w1, some (.int x2), w3] [.ref 1099] (hh_sa (hh_sa (hh_sa h 100 0 ((hh_a h 100).set j0 (s2 + 1))) 100 0 ((hh_a (hh_sa h 100 0 ((hh_a h 100).set j0 (s2 + 1))) 100).set j2 (((hh_a (hh_sa h 100 0 ((hh_a h 100).set j0 (s2 + 1))) 100).getD j1 0) + 1))) 100 0 ((hh_a (hh_sa (hh_sa h 100 0 ((hh_a h 100).set j0 (s2 + 1))) 100 0 ((hh_a (hh_sa h 100 0 ((hh_a h 100).set j0 (s2 + 1))) 100).set j2 (((hh_a (hh_sa h 100 0 ((hh_a h 100).set j0 (s2 + 1))) 100).getD j1 0) + 1))) 100).set j3 1)) rfl rfl rfl ?_
  refine tl_gr hL2 9 99 8 0 100 [1100, 1101, 1102, 1103, 1104, 1105, 0, 0, 0, 0, 0, 0, 0, 0, 0, 0, 0, 0, 0, 0, 0, 1106, 0, 1107, 1108, 0, 0, 0] rfl rfl rfl rfl ?_
  refine tr_bi 7 7 (by decide) rfl ?_
  refine tr_ic 0 0 (by decide) rfl ?_
  refine tl_ias hL2 100 124 j4 7 0 rfl rfl e4 b4 (by decide) ?_
  have hL3 := hh_L_ss (j := j4) (x := 0) hL2 (show hh_t[100]? = some (.inl (0, 124)) from rfl)
  refine tr_bi 9 9 (by decide) rfl ?_
  refine tr_st (.istore_n 3) 1 3 0 (.int 9) rfl rfl rfl rfl rfl rfl rfl ?_
  exact k
theorem sg_X9_votesAll_69 {g : tr_g} {d : Nat} {h : ev_AH} {r : ev_O × ev_AH} {w1 w3 : Option Value} {x2 s1 s2 : Int32} {j0 j1 j2 j3 j4 : Nat} (hL : hh_L h) (e0 : s1 = Int32.ofNat j0) (b0 : j0 < 124) (e1 : 2 = Int32.ofNat j1) (b1 : j1 < 124) (e2 : 2 = Int32.ofNat j2) (b2 : j2 < 124) (e3 : 6 = Int32.ofNat j3) (b3 : j3 < 124) (e4 : 7 = Int32.ofNat j4) (b4 : j4 < 124) (k : tr_L g d m_X9_votesAll 101 [some (.ref 1099), w1, some (.int x2), some (.int 9)] [] (hh_sa (hh_sa (hh_sa (hh_sa h 100 0 ((hh_a h 100).set j0 (s2 + 0))) 100 0 ((hh_a (hh_sa h 100 0 ((hh_a h 100).set j0 (s2 + 0))) 100).set j2 (((hh_a (hh_sa h 100 0 ((hh_a h 100).set j0 (s2 + 0))) 100).getD j1 0) + 1))) 100 0 ((hh_a (hh_sa (hh_sa h 100 0 ((hh_a h 100).set j0 (s2 + 0))) 100 0 ((hh_a (hh_sa h 100 0 ((hh_a h 100).set j0 (s2 + 0))) 100).set j2 (((hh_a (hh_sa h 100 0 ((hh_a h 100).set j0 (s2 + 0))) 100).getD j1 0) + 1))) 100).set j3 1)) 100 0 ((hh_a (hh_sa (hh_sa (hh_sa h 100 0 ((hh_a h 100).set j0 (s2 + 0))) 100 0 ((hh_a (hh_sa h 100 0 ((hh_a h 100).set j0 (s2 + 0))) 100).set j2 (((hh_a (hh_sa h 100 0 ((hh_a h 100).set j0 (s2 + 0))) 100).getD j1 0) + 1))) 100 0 ((hh_a (hh_sa (hh_sa h 100 0 ((hh_a h 100).set j0 (s2 + 0))) 100 0 ((hh_a (hh_sa h 100 0 ((hh_a h 100).set j0 (s2 + 0))) 100).set j2 (((hh_a (hh_sa h 100 0 ((hh_a h 100).set j0 (s2 + 0))) 100).getD j1 0) + 1))) 100).set j3 1)) 100).set j4 0)) r) : tr_L g d m_X9_votesAll 69 [some (.ref 1099), w1, some (.int x2), w3] [.int s2, .int s1, .ref 1100] h r := by
  refine tr_ic 0 0 (by decide) rfl ?_
  refine tr_s .iadd 1 71 [some (.ref 1099), w1, some (.int x2), w3] [.int (s2 + 0), .int s1, .ref 1100] h rfl rfl rfl ?_
  refine tl_ias hL 100 124 j0 s1 (s2 + 0) rfl rfl e0 b0 (by decide) ?_
  have hL0 := hh_L_ss (j := j0) (x := (s2 + 0)) hL (show hh_t[100]? = some (.inl (0, 124)) from rfl)
  refine tr_s (.aload_n 0) 1 73 [some (.ref 1099), w1, some (.int x2), w3] [.ref 1099] (hh_sa h 100 0 ((hh_a h 100).set j0 (s2 + 0))) rfl rfl rfl ?_
  refine tl_gr hL0 9 99 8 0 100 [1100, 1101, 1102, 1103, 1104, 1105, 0, 0, 0, 0, 0, 0, 0, 0, 0, 0, 0, 0, 0, 0, 0, 1106, 0, 1107, 1108, 0, 0, 0] rfl rfl rfl rfl ?_
  refine tr_ic 2 2 (by decide) rfl ?_
  refine tr_s .dup2 1 78 [some (.ref 1099), w1, some (.int x2), w3] [.int 2, .ref 1100, .int 2, .ref 1100] (hh_sa h 100 0 ((hh_a h 100).set j0 (s2 + 0))) rfl rfl rfl ?_
  refine tl_ald hL0 .iaload 100 0 124 j1 2 rfl (by decide) rfl e1 b1 (by decide) ?_
  refine tr_ic 1 1 (by decide) rfl ?_
  refine tr_s .iadd 1 81 [some (.ref 1099), w1, some (.int x2), w3] [.int (((hh_a (hh_sa h 100 0 ((hh_a h 100).set j0 (s2 + 0))) 100).getD j1 0) + 1), .int 2, .ref 1100] (hh_sa h 100 0 ((hh_a h 100).set j0 (s2 + 0))) rfl rfl rfl ?_
  refine tl_ias hL0 100 124 j2 2 (((hh_a (hh_sa h 100 0 ((hh_a h 100).set j0 (s2 + 0))) 100).getD j1 0) + 1) rfl rfl e2 b2 (by decide) ?_
  have hL1 := hh_L_ss (j := j2) (x := (((hh_a (hh_sa h 100 0 ((hh_a h 100).set j0 (s2 + 0))) 100).getD j1 0) + 1)) hL0 (show hh_t[100]? = some (.inl (0, 124)) from rfl)
  refine tr_s (.aload_n 0) 1 83 [some (.ref 1099), w1, some (.int x2), w3] [.ref 1099] (hh_sa (hh_sa h 100 0 ((hh_a h 100).set j0 (s2 + 0))) 100 0 ((hh_a (hh_sa h 100 0 ((hh_a h 100).set j0 (s2 + 0))) 100).set j2 (((hh_a (hh_sa h 100 0 ((hh_a h 100).set j0 (s2 + 0))) 100).getD j1 0) + 1))) rfl rfl rfl ?_
  refine tl_gr hL1 9 99 8 0 100 [1100, 1101, 1102, 1103, 1104, 1105, 0, 0, 0, 0, 0, 0, 0, 0, 0, 0, 0, 0, 0, 0, 0, 1106, 0, 1107, 1108, 0, 0, 0] rfl rfl rfl rfl ?_
  refine tr_bi 6 6 (by decide) rfl ?_
  refine tr_ic 1 1 (by decide) rfl ?_
  refine tl_ias hL1 100 124 j3 6 1 rfl rfl e3 b3 (by decide) ?_
  have hL2 := hh_L_ss (j := j3) (x := 1) hL1 (show hh_t[100]? = some (.inl (0, 124)) from rfl)
  refine tr_s (.aload_n 0) 1 91 [some (.ref 1099), w1, some (.int x2), w3] [.ref 1099] (hh_sa (hh_sa (hh_sa h 100 0 ((hh_a h 100).set j0 (s2 + 0))) 100 0 ((hh_a (hh_sa h 100 0 ((hh_a h 100).set j0 (s2 + 0))) 100).set j2 (((hh_a (hh_sa h 100 0 ((hh_a h 100).set j0 (s2 + 0))) 100).getD j1 0) + 1))) 100 0 ((hh_a (hh_sa (hh_sa h 100 0 ((hh_a h 100).set j0 (s2 + 0))) 100 0 ((hh_a (hh_sa h 100 0 ((hh_a h 100).set j0 (s2 + 0))) 100).set j2 (((hh_a (hh_sa h 100 0 ((hh_a h 100).set j0 (s2 + 0))) 100).getD j1 0) + 1))) 100).set j3 1)) rfl rfl rfl ?_
  refine tl_gr hL2 9 99 8 0 100 [1100, 1101, 1102, 1103, 1104, 1105, 0, 0, 0, 0, 0, 0, 0, 0, 0, 0, 0, 0, 0, 0, 0, 1106, 0, 1107, 1108, 0, 0, 0] rfl rfl rfl rfl ?_
  refine tr_bi 7 7 (by decide) rfl ?_
  refine tr_ic 0 0 (by decide) rfl ?_
  refine tl_ias hL2 100 124 j4 7 0 rfl rfl e4 b4 (by decide) ?_
  have hL3 := hh_L_ss (j := j4) (x := 0) hL2 (show hh_t[100]? = some (.inl (0, 124)) from rfl)
  refine tr_bi 9 9 (by decide) rfl ?_
  refine tr_st (.istore_n 3) 1 3 0 (.int 9) rfl rfl rfl rfl rfl rfl rfl ?_
  exact k
theorem sg_X9_votesAll_101 {g : tr_g} {d : Nat} {h : ev_AH} {r : ev_O × ev_AH} {w1 : Option Value} {x2 x3 : Int32} (hL : hh_L h) (t : x3 ≤ 0 → tr_L g d m_X9_votesAll 131 [some (.ref 1099), w1, some (.int x2), some (.int x3)] [] h r) (f : 0 < x3 → tr_L g d m_X9_votesAll 105 [some (.ref 1099), w1, some (.int x2), some (.int x3)] [] h r) : tr_L g d m_X9_votesAll 101 [some (.ref 1099), w1, some (.int x2), some (.int x3)] [] h r := by
  refine tr_s (.iload_n 3) 1 102 [some (.ref 1099), w1, some (.int x2), some (.int x3)] [.int x3] h rfl rfl rfl ?_
  exact tr_if1 .le 29 131 x3 rfl rfl rfl (fun hc => t ((tr_le hc).1 rfl)) (fun hc => f ((tr_le hc).2 rfl))
theorem sg_X9_votesAll_105 {g : tr_g} {d : Nat} {h : ev_AH} {r : ev_O × ev_AH} {w1 : Option Value} {x2 x3 : Int32} {j0 j1 : Nat} (hL : hh_L h) (e0 : (9 + x3) - 1 = Int32.ofNat j0) (b0 : j0 < 124) (e1 : 9 + x3 = Int32.ofNat j1) (b1 : j1 < 124) (k : tr_L g d m_X9_votesAll 101 [some (.ref 1099), w1, some (.int x2), some (.int (x3 + (-1)))] [] (hh_sa h 100 0 ((hh_a h 100).set j1 ((hh_a h 100).getD j0 0))) r) : tr_L g d m_X9_votesAll 105 [some (.ref 1099), w1, some (.int x2), some (.int x3)] [] h r := by
  refine tr_s (.aload_n 0) 1 106 [some (.ref 1099), w1, some (.int x2), some (.int x3)] [.ref 1099] h rfl rfl rfl ?_
  refine tl_gr hL 9 99 8 0 100 [1100, 1101, 1102, 1103, 1104, 1105, 0, 0, 0, 0, 0, 0, 0, 0, 0, 0, 0, 0, 0, 0, 0, 1106, 0, 1107, 1108, 0, 0, 0] rfl rfl rfl rfl ?_
  refine tr_bi 9 9 (by decide) rfl ?_
  refine tr_s (.iload_n 3) 1 112 [some (.ref 1099), w1, some (.int x2), some (.int x3)] [.int x3, .int 9, .ref 1100] h rfl rfl rfl ?_
  refine tr_s .iadd 1 113 [some (.ref 1099), w1, some (.int x2), some (.int x3)] [.int (9 + x3), .ref 1100] h rfl rfl rfl ?_
  refine tr_s (.aload_n 0) 1 114 [some (.ref 1099), w1, some (.int x2), some (.int x3)] [.ref 1099, .int (9 + x3), .ref 1100] h rfl rfl rfl ?_
  refine tl_gr hL 9 99 8 0 100 [1100, 1101, 1102, 1103, 1104, 1105, 0, 0, 0, 0, 0, 0, 0, 0, 0, 0, 0, 0, 0, 0, 0, 1106, 0, 1107, 1108, 0, 0, 0] rfl rfl rfl rfl ?_
  refine tr_bi 9 9 (by decide) rfl ?_
  refine tr_s (.iload_n 3) 1 120 [some (.ref 1099), w1, some (.int x2), some (.int x3)] [.int x3, .int 9, .ref 1100, .int (9 + x3), .ref 1100] h rfl rfl rfl ?_
  refine tr_s .iadd 1 121 [some (.ref 1099), w1, some (.int x2), some (.int x3)] [.int (9 + x3), .ref 1100, .int (9 + x3), .ref 1100] h rfl rfl rfl ?_
  refine tr_ic 1 1 (by decide) rfl ?_
  refine tr_s .isub 1 123 [some (.ref 1099), w1, some (.int x2), some (.int x3)] [.int ((9 + x3) - 1), .ref 1100, .int (9 + x3), .ref 1100] h rfl rfl rfl ?_
  refine tl_ald hL .iaload 100 0 124 j0 ((9 + x3) - 1) rfl (by decide) rfl e0 b0 (by decide) ?_
  refine tl_ias hL 100 124 j1 (9 + x3) ((hh_a h 100).getD j0 0) rfl rfl e1 b1 (by decide) ?_
  have hL0 := hh_L_ss (j := j1) (x := ((hh_a h 100).getD j0 0)) hL (show hh_t[100]? = some (.inl (0, 124)) from rfl)
  refine tr_inc 3 (-1) x3 (-1) (by decide) rfl rfl rfl ?_
  refine tr_goto (-27) 101 rfl rfl rfl ?_
  exact k
theorem sg_X9_votesAll_131 {g : tr_g} {d : Nat} {h : ev_AH} {r : ev_O × ev_AH} {w1 w3 : Option Value} {x2 : Int32} {j0 j1 j2 : Nat} (hL : hh_L h) (e0 : 9 = Int32.ofNat j0) (b0 : j0 < 124) (e1 : 8 = Int32.ofNat j1) (b1 : j1 < 124) (e2 : 8 = Int32.ofNat j2) (b2 : j2 < 124) (t : 10 ≤ ((hh_a (hh_sa h 100 0 ((hh_a h 100).set j0 x2)) 100).getD j2 0) → tr_L g d m_X9_votesAll 163 [some (.ref 1099), w1, some (.int x2), w3] [.int ((hh_a (hh_sa h 100 0 ((hh_a h 100).set j0 x2)) 100).getD j1 0), .int 8, .ref 1100] (hh_sa h 100 0 ((hh_a h 100).set j0 x2)) r) (f : ((hh_a (hh_sa h 100 0 ((hh_a h 100).set j0 x2)) 100).getD j2 0) < 10 → tr_L g d m_X9_votesAll 159 [some (.ref 1099), w1, some (.int x2), w3] [.int ((hh_a (hh_sa h 100 0 ((hh_a h 100).set j0 x2)) 100).getD j1 0), .int 8, .ref 1100] (hh_sa h 100 0 ((hh_a h 100).set j0 x2)) r) : tr_L g d m_X9_votesAll 131 [some (.ref 1099), w1, some (.int x2), w3] [] h r := by
  refine tr_s (.aload_n 0) 1 132 [some (.ref 1099), w1, some (.int x2), w3] [.ref 1099] h rfl rfl rfl ?_
  refine tl_gr hL 9 99 8 0 100 [1100, 1101, 1102, 1103, 1104, 1105, 0, 0, 0, 0, 0, 0, 0, 0, 0, 0, 0, 0, 0, 0, 0, 1106, 0, 1107, 1108, 0, 0, 0] rfl rfl rfl rfl ?_
  refine tr_bi 9 9 (by decide) rfl ?_
  refine tr_s (.iload_n 2) 1 138 [some (.ref 1099), w1, some (.int x2), w3] [.int x2, .int 9, .ref 1100] h rfl rfl rfl ?_
  refine tl_ias hL 100 124 j0 9 x2 rfl rfl e0 b0 (by decide) ?_
  have hL0 := hh_L_ss (j := j0) (x := x2) hL (show hh_t[100]? = some (.inl (0, 124)) from rfl)
  refine tr_s (.aload_n 0) 1 140 [some (.ref 1099), w1, some (.int x2), w3] [.ref 1099] (hh_sa h 100 0 ((hh_a h 100).set j0 x2)) rfl rfl rfl ?_
  refine tl_gr hL0 9 99 8 0 100 [1100, 1101, 1102, 1103, 1104, 1105, 0, 0, 0, 0, 0, 0, 0, 0, 0, 0, 0, 0, 0, 0, 0, 1106, 0, 1107, 1108, 0, 0, 0] rfl rfl rfl rfl ?_
  refine tr_bi 8 8 (by decide) rfl ?_
  refine tr_s .dup2 1 146 [some (.ref 1099), w1, some (.int x2), w3] [.int 8, .ref 1100, .int 8, .ref 1100] (hh_sa h 100 0 ((hh_a h 100).set j0 x2)) rfl rfl rfl ?_
  refine tl_ald hL0 .iaload 100 0 124 j1 8 rfl (by decide) rfl e1 b1 (by decide) ?_
  refine tr_s (.aload_n 0) 1 148 [some (.ref 1099), w1, some (.int x2), w3] [.ref 1099, .int ((hh_a (hh_sa h 100 0 ((hh_a h 100).set j0 x2)) 100).getD j1 0), .int 8, .ref 1100] (hh_sa h 100 0 ((hh_a h 100).set j0 x2)) rfl rfl rfl ?_
  refine tl_gr hL0 9 99 8 0 100 [1100, 1101, 1102, 1103, 1104, 1105, 0, 0, 0, 0, 0, 0, 0, 0, 0, 0, 0, 0, 0, 0, 0, 1106, 0, 1107, 1108, 0, 0, 0] rfl rfl rfl rfl ?_
  refine tr_bi 8 8 (by decide) rfl ?_
  refine tl_ald hL0 .iaload 100 0 124 j2 8 rfl (by decide) rfl e2 b2 (by decide) ?_
  refine tr_bi 10 10 (by decide) rfl ?_
  exact tr_if2 .ge 7 163 ((hh_a (hh_sa h 100 0 ((hh_a h 100).set j0 x2)) 100).getD j2 0) 10 rfl rfl rfl (fun hc => t ((tr_ge hc).1 rfl)) (fun hc => f ((tr_ge hc).2 rfl))
theorem sg_X9_votesAll_159 {g : tr_g} {d : Nat} {h : ev_AH} {r : ev_O × ev_AH} {w0 w1 w3 : Option Value} {x2 s1 s2 : Int32} {j0 : Nat} (hL : hh_L h) (e0 : s1 = Int32.ofNat j0) (b0 : j0 < 124) (hr : r = (.inl (some (.int x2)), hh_sa h 100 0 ((hh_a h 100).set j0 (s2 + 1)))) : tr_L g d m_X9_votesAll 159 [w0, w1, some (.int x2), w3] [.int s2, .int s1, .ref 1100] h r := by
  refine tr_ic 1 1 (by decide) rfl ?_
  refine tr_goto 4 164 rfl rfl rfl ?_
  refine tr_s .iadd 1 165 [w0, w1, some (.int x2), w3] [.int (s2 + 1), .int s1, .ref 1100] h rfl rfl rfl ?_
  refine tl_ias hL 100 124 j0 s1 (s2 + 1) rfl rfl e0 b0 (by decide) ?_
  have hL0 := hh_L_ss (j := j0) (x := (s2 + 1)) hL (show hh_t[100]? = some (.inl (0, 124)) from rfl)
  refine tr_s (.iload_n 2) 1 167 [w0, w1, some (.int x2), w3] [.int x2] (hh_sa h 100 0 ((hh_a h 100).set j0 (s2 + 1))) rfl rfl rfl ?_
  exact tl_ret hL0 .ireturn 1 (some (.int x2)) rfl rfl rfl rfl hr
theorem sg_X9_votesAll_163 {g : tr_g} {d : Nat} {h : ev_AH} {r : ev_O × ev_AH} {w0 w1 w3 : Option Value} {x2 s1 s2 : Int32} {j0 : Nat} (hL : hh_L h) (e0 : s1 = Int32.ofNat j0) (b0 : j0 < 124) (hr : r = (.inl (some (.int x2)), hh_sa h 100 0 ((hh_a h 100).set j0 (s2 + 0)))) : tr_L g d m_X9_votesAll 163 [w0, w1, some (.int x2), w3] [.int s2, .int s1, .ref 1100] h r := by
  refine tr_ic 0 0 (by decide) rfl ?_
  refine tr_s .iadd 1 165 [w0, w1, some (.int x2), w3] [.int (s2 + 0), .int s1, .ref 1100] h rfl rfl rfl ?_
  refine tl_ias hL 100 124 j0 s1 (s2 + 0) rfl rfl e0 b0 (by decide) ?_
  have hL0 := hh_L_ss (j := j0) (x := (s2 + 0)) hL (show hh_t[100]? = some (.inl (0, 124)) from rfl)
  refine tr_s (.iload_n 2) 1 167 [w0, w1, some (.int x2), w3] [.int x2] (hh_sa h 100 0 ((hh_a h 100).set j0 (s2 + 0))) rfl rfl rfl ?_
  exact tl_ret hL0 .ireturn 1 (some (.int x2)) rfl rfl rfl rfl hr
theorem sg_X9_winner_0 {g : tr_g} {d : Nat} {h : ev_AH} {r : ev_O × ev_AH} {j0 : Nat} (hL : hh_L h) (e0 : 0 = Int32.ofNat j0) (b0 : j0 < 124) (t : ((hh_a h 100).getD j0 0) ≠ 112 → tr_L g d m_X9_winner 18 [some (.ref 1099)] [] h r) (f : ((hh_a h 100).getD j0 0) = 112 → tr_L g d m_X9_winner 11 [some (.ref 1099)] [] h r) : tr_L g d m_X9_winner 0 [some (.ref 1099)] [] h r := by
  refine tr_s (.aload_n 0) 1 1 [some (.ref 1099)] [.ref 1099] h rfl rfl rfl ?_
  refine tl_gr hL 9 99 8 0 100 [1100, 1101, 1102, 1103, 1104, 1105, 0, 0, 0, 0, 0, 0, 0, 0, 0, 0, 0, 0, 0, 0, 0, 1106, 0, 1107, 1108, 0, 0, 0] rfl rfl rfl rfl ?_
  refine tr_ic 0 0 (by decide) rfl ?_
  refine tl_ald hL .iaload 100 0 124 j0 0 rfl (by decide) rfl e0 b0 (by decide) ?_
  refine tr_bi 112 112 (by decide) rfl ?_
  exact tr_if2 .ne 10 18 ((hh_a h 100).getD j0 0) 112 rfl rfl rfl (fun hc => t ((tr_ne hc).1 rfl)) (fun hc => f ((tr_ne hc).2 rfl))
theorem sg_X9_winner_11 {g : tr_g} {d : Nat} {h : ev_AH} {r : ev_O × ev_AH} {h1 : ev_AH} {v0 : Int32} (hL : hh_L h) (c_0 : tr_L g d m_X9_byPoints 0 [some (.ref 1099), none, none] [] h (.inl (some (.int v0)), h1)) (hr : r = (.inl (some (.int v0)), h1)) : tr_L g (d + 1) m_X9_winner 11 [some (.ref 1099)] [] h r := by
  refine tr_s (.aload_n 0) 1 12 [some (.ref 1099)] [.ref 1099] h rfl rfl rfl ?_
  refine tr_call (.invokevirtual 209) 209 0 0 8 m_X9_byPoints [.ref 1099] [] (some (.int v0)) h1 rfl rfl rfl rfl rfl rfl rfl rfl rfl (tr_cok rfl (Or.inr ⟨_, _, rfl, tr_rc (hh_rd (hh_obj hL (k := 99) rfl).1) (by decide)⟩)) c_0 ?_
  have hL0 := c_0.2
  refine tr_goto 25 40 rfl rfl rfl ?_
  exact tl_ret hL0 .ireturn 1 (some (.int v0)) rfl rfl rfl rfl hr
theorem sg_X9_winner_18 {g : tr_g} {d : Nat} {h : ev_AH} {r : ev_O × ev_AH} {j0 : Nat} (hL : hh_L h) (e0 : 0 = Int32.ofNat j0) (b0 : j0 < 124) (t : ((hh_a h 100).getD j0 0) ≠ 114 → tr_L g d m_X9_winner 36 [some (.ref 1099)] [] h r) (f : ((hh_a h 100).getD j0 0) = 114 → tr_L g d m_X9_winner 29 [some (.ref 1099)] [] h r) : tr_L g d m_X9_winner 18 [some (.ref 1099)] [] h r := by
  refine tr_s (.aload_n 0) 1 19 [some (.ref 1099)] [.ref 1099] h rfl rfl rfl ?_
  refine tl_gr hL 9 99 8 0 100 [1100, 1101, 1102, 1103, 1104, 1105, 0, 0, 0, 0, 0, 0, 0, 0, 0, 0, 0, 0, 0, 0, 0, 1106, 0, 1107, 1108, 0, 0, 0] rfl rfl rfl rfl ?_
  refine tr_ic 0 0 (by decide) rfl ?_
  refine tl_ald hL .iaload 100 0 124 j0 0 rfl (by decide) rfl e0 b0 (by decide) ?_
  refine tr_bi 114 114 (by decide) rfl ?_
  exact tr_if2 .ne 10 36 ((hh_a h 100).getD j0 0) 114 rfl rfl rfl (fun hc => t ((tr_ne hc).1 rfl)) (fun hc => f ((tr_ne hc).2 rfl))
theorem sg_X9_winner_29 {g : tr_g} {d : Nat} {h : ev_AH} {r : ev_O × ev_AH} {h1 : ev_AH} {v0 : Int32} (hL : hh_L h) (c_0 : tr_L g d m_X9_byRounds 0 [some (.ref 1099), none] [] h (.inl (some (.int v0)), h1)) (hr : r = (.inl (some (.int v0)), h1)) : tr_L g (d + 1) m_X9_winner 29 [some (.ref 1099)] [] h r := by
  refine tr_s (.aload_n 0) 1 30 [some (.ref 1099)] [.ref 1099] h rfl rfl rfl ?_
  refine tr_call (.invokevirtual 212) 212 0 0 8 m_X9_byRounds [.ref 1099] [] (some (.int v0)) h1 rfl rfl rfl rfl rfl rfl rfl rfl rfl (tr_cok rfl (Or.inr ⟨_, _, rfl, tr_rc (hh_rd (hh_obj hL (k := 99) rfl).1) (by decide)⟩)) c_0 ?_
  have hL0 := c_0.2
  refine tr_goto 7 40 rfl rfl rfl ?_
  exact tl_ret hL0 .ireturn 1 (some (.int v0)) rfl rfl rfl rfl hr
theorem sg_X9_winner_36 {g : tr_g} {d : Nat} {h : ev_AH} {r : ev_O × ev_AH} {h1 : ev_AH} {v0 : Int32} (hL : hh_L h) (c_0 : tr_L g d m_X9_byStrengths 0 [some (.ref 1099), none, none, none] [] h (.inl (some (.int v0)), h1)) (hr : r = (.inl (some (.int v0)), h1)) : tr_L g (d + 1) m_X9_winner 36 [some (.ref 1099)] [] h r := by
  refine tr_s (.aload_n 0) 1 37 [some (.ref 1099)] [.ref 1099] h rfl rfl rfl ?_
  refine tr_call (.invokevirtual 222) 222 0 0 8 m_X9_byStrengths [.ref 1099] [] (some (.int v0)) h1 rfl rfl rfl rfl rfl rfl rfl rfl rfl (tr_cok rfl (Or.inr ⟨_, _, rfl, tr_rc (hh_rd (hh_obj hL (k := 99) rfl).1) (by decide)⟩)) c_0 ?_
  have hL0 := c_0.2
  exact tl_ret hL0 .ireturn 1 (some (.int v0)) rfl rfl rfl rfl hr
theorem sg_X9_retry_0 {g : tr_g} {d : Nat} {h : ev_AH} {r : ev_O × ev_AH} {h1 h2 h3 : ev_AH} {v0 v1 : Int32} (hL : hh_L h) (c_0 : tr_L g d m_X9_keeps 0 [some (.ref 1099)] [] h (.inl none, h1)) (c_1 : tr_L g d m_X9_retries 0 [some (.ref 1099), none, none, none, none] [] h1 (.inl (some (.int v0)), h2)) (c_2 : tr_L g d m_X9_ends 0 [some (.ref 1099), some (.int v0), none] [] h2 (.inl (some (.int v1)), h3)) (hr : r = (.inl (some (.int v1)), h3)) : tr_L g (d + 1) m_X9_retry 0 [some (.ref 1099)] [] h r := by
  refine tr_s (.aload_n 0) 1 1 [some (.ref 1099)] [.ref 1099] h rfl rfl rfl ?_
  refine tr_call (.invokevirtual 100) 100 0 0 8 m_X9_keeps [.ref 1099] [] none h1 rfl rfl rfl rfl rfl rfl rfl rfl rfl (tr_cok rfl (Or.inr ⟨_, _, rfl, tr_rc (hh_rd (hh_obj hL (k := 99) rfl).1) (by decide)⟩)) c_0 ?_
  have hL0 := c_0.2
  refine tr_s (.aload_n 0) 1 5 [some (.ref 1099)] [.ref 1099] h1 rfl rfl rfl ?_
  refine tr_s (.aload_n 0) 1 6 [some (.ref 1099)] [.ref 1099, .ref 1099] h1 rfl rfl rfl ?_
  refine tr_call (.invokevirtual 241) 241 0 0 8 m_X9_retries [.ref 1099] [.ref 1099] (some (.int v0)) h2 rfl rfl rfl rfl rfl rfl rfl rfl rfl (tr_cok rfl (Or.inr ⟨_, _, rfl, tr_rc (hh_rd (hh_obj hL0 (k := 99) rfl).1) (by decide)⟩)) c_1 ?_
  have hL1 := c_1.2
  refine tr_call (.invokevirtual 107) 107 0 1 8 m_X9_ends [.ref 1099, .int v0] [] (some (.int v1)) h3 rfl rfl rfl rfl rfl rfl rfl rfl rfl (tr_cok rfl (Or.inr ⟨_, _, rfl, tr_rc (hh_rd (hh_obj hL1 (k := 99) rfl).1) (by decide)⟩)) c_2 ?_
  have hL2 := c_2.2
  exact tl_ret hL2 .ireturn 1 (some (.int v1)) rfl rfl rfl rfl hr
theorem sg_X9_retries_0 {g : tr_g} {d : Nat} {h : ev_AH} {r : ev_O × ev_AH} {h1 : ev_AH} {v0 : Int32} (hL : hh_L h) (c_0 : tr_L g d m_X9_isCaused 0 [some (.ref 1099)] [] h (.inl (some (.int v0)), h1)) (t : v0 ≠ 0 → tr_L g (d + 1) m_X9_retries 12 [some (.ref 1099), none, none, none, none] [.ref 1099] h1 r) (f : v0 = 0 → tr_L g (d + 1) m_X9_retries 8 [some (.ref 1099), none, none, none, none] [.ref 1099] h1 r) : tr_L g (d + 1) m_X9_retries 0 [some (.ref 1099), none, none, none, none] [] h r := by
  refine tr_s (.aload_n 0) 1 1 [some (.ref 1099), none, none, none, none] [.ref 1099] h rfl rfl rfl ?_
  refine tr_s (.aload_n 0) 1 2 [some (.ref 1099), none, none, none, none] [.ref 1099, .ref 1099] h rfl rfl rfl ?_
  refine tr_call (.invokevirtual 237) 237 0 0 8 m_X9_isCaused [.ref 1099] [.ref 1099] (some (.int v0)) h1 rfl rfl rfl rfl rfl rfl rfl rfl rfl (tr_cok rfl (Or.inr ⟨_, _, rfl, tr_rc (hh_rd (hh_obj hL (k := 99) rfl).1) (by decide)⟩)) c_0 ?_
  have hL0 := c_0.2
  exact tr_if1 .ne 7 12 v0 rfl rfl rfl (fun hc => t ((tr_ne hc).1 rfl)) (fun hc => f ((tr_ne hc).2 rfl))
theorem sg_X9_retries_8 {g : tr_g} {d : Nat} {h : ev_AH} {r : ev_O × ev_AH} {w1 w2 w3 w4 : Option Value} {j0 : Nat} {h1 : ev_AH} {v0 : Int32} (hL : hh_L h) (e0 : 2 = Int32.ofNat j0) (b0 : j0 < 124) (c_0 : tr_L g d m_X9_isRejected 0 [some (.ref 1099), some (.int 1), some (.int 5), some (.int ((hh_a h 100).getD j0 0)), some (.int 1)] [] h (.inl (some (.int v0)), h1)) (t : v0 = 0 → tr_L g (d + 1) m_X9_retries 29 [some (.ref 1099), w1, w2, w3, w4] [] h1 r) (f : v0 ≠ 0 → tr_L g (d + 1) m_X9_retries 27 [some (.ref 1099), w1, w2, w3, w4] [] h1 r) : tr_L g (d + 1) m_X9_retries 8 [some (.ref 1099), w1, w2, w3, w4] [.ref 1099] h r := by
  refine tr_ic 1 1 (by decide) rfl ?_
  refine tr_goto 4 13 rfl rfl rfl ?_
  refine tr_ic 5 5 (by decide) rfl ?_
  refine tr_s (.aload_n 0) 1 15 [some (.ref 1099), w1, w2, w3, w4] [.ref 1099, .int 5, .int 1, .ref 1099] h rfl rfl rfl ?_
  refine tl_gr hL 9 99 8 0 100 [1100, 1101, 1102, 1103, 1104, 1105, 0, 0, 0, 0, 0, 0, 0, 0, 0, 0, 0, 0, 0, 0, 0, 1106, 0, 1107, 1108, 0, 0, 0] rfl rfl rfl rfl ?_
  refine tr_ic 2 2 (by decide) rfl ?_
  refine tl_ald hL .iaload 100 0 124 j0 2 rfl (by decide) rfl e0 b0 (by decide) ?_
  refine tr_ic 1 1 (by decide) rfl ?_
  refine tr_call (.invokevirtual 88) 88 0 4 8 m_X9_isRejected [.ref 1099, .int 1, .int 5, .int ((hh_a h 100).getD j0 0), .int 1] [] (some (.int v0)) h1 rfl rfl rfl rfl rfl rfl rfl rfl rfl (tr_cok rfl (Or.inr ⟨_, _, rfl, tr_rc (hh_rd (hh_obj hL (k := 99) rfl).1) (by decide)⟩)) c_0 ?_
  have hL0 := c_0.2
  exact tr_if1 .eq 5 29 v0 rfl rfl rfl (fun hc => t ((tr_eq hc).1 rfl)) (fun hc => f ((tr_eq hc).2 rfl))
theorem sg_X9_retries_12 {g : tr_g} {d : Nat} {h : ev_AH} {r : ev_O × ev_AH} {w1 w2 w3 w4 : Option Value} {j0 : Nat} {h1 : ev_AH} {v0 : Int32} (hL : hh_L h) (e0 : 2 = Int32.ofNat j0) (b0 : j0 < 124) (c_0 : tr_L g d m_X9_isRejected 0 [some (.ref 1099), some (.int 0), some (.int 5), some (.int ((hh_a h 100).getD j0 0)), some (.int 1)] [] h (.inl (some (.int v0)), h1)) (t : v0 = 0 → tr_L g (d + 1) m_X9_retries 29 [some (.ref 1099), w1, w2, w3, w4] [] h1 r) (f : v0 ≠ 0 → tr_L g (d + 1) m_X9_retries 27 [some (.ref 1099), w1, w2, w3, w4] [] h1 r) : tr_L g (d + 1) m_X9_retries 12 [some (.ref 1099), w1, w2, w3, w4] [.ref 1099] h r := by
  refine tr_ic 0 0 (by decide) rfl ?_
  refine tr_ic 5 5 (by decide) rfl ?_
  refine tr_s (.aload_n 0) 1 15 [some (.ref 1099), w1, w2, w3, w4] [.ref 1099, .int 5, .int 0, .ref 1099] h rfl rfl rfl ?_
  refine tl_gr hL 9 99 8 0 100 [1100, 1101, 1102, 1103, 1104, 1105, 0, 0, 0, 0, 0, 0, 0, 0, 0, 0, 0, 0, 0, 0, 0, 1106, 0, 1107, 1108, 0, 0, 0] rfl rfl rfl rfl ?_
  refine tr_ic 2 2 (by decide) rfl ?_
  refine tl_ald hL .iaload 100 0 124 j0 2 rfl (by decide) rfl e0 b0 (by decide) ?_
  refine tr_ic 1 1 (by decide) rfl ?_
  refine tr_call (.invokevirtual 88) 88 0 4 8 m_X9_isRejected [.ref 1099, .int 0, .int 5, .int ((hh_a h 100).getD j0 0), .int 1] [] (some (.int v0)) h1 rfl rfl rfl rfl rfl rfl rfl rfl rfl (tr_cok rfl (Or.inr ⟨_, _, rfl, tr_rc (hh_rd (hh_obj hL (k := 99) rfl).1) (by decide)⟩)) c_0 ?_
  have hL0 := c_0.2
  exact tr_if1 .eq 5 29 v0 rfl rfl rfl (fun hc => t ((tr_eq hc).1 rfl)) (fun hc => f ((tr_eq hc).2 rfl))
theorem sg_X9_retries_27 {g : tr_g} {d : Nat} {h : ev_AH} {r : ev_O × ev_AH} {w0 w1 w2 w3 w4 : Option Value} (hL : hh_L h) (hr : r = (.inl (some (.int 0)), h)) : tr_L g d m_X9_retries 27 [w0, w1, w2, w3, w4] [] h r := by
  refine tr_ic 0 0 (by decide) rfl ?_
  exact tl_ret hL .ireturn 1 (some (.int 0)) rfl rfl rfl rfl hr
theorem sg_X9_retries_29 {g : tr_g} {d : Nat} {h : ev_AH} {r : ev_O × ev_AH} {w1 w2 w3 w4 : Option Value} (hL : hh_L h) (k : tr_L g d m_X9_retries 33 [some (.ref 1099), some (.int 0), some (.int 0), w3, w4] [] h r) : tr_L g d m_X9_retries 29 [some (.ref 1099), w1, w2, w3, w4] [] h r := by
  refine tr_ic 0 0 (by decide) rfl ?_
  refine tr_st (.istore_n 1) 1 1 0 (.int 0) rfl rfl rfl rfl rfl rfl rfl ?_
  refine tr_ic 0 0 (by decide) rfl ?_
  refine tr_st (.istore_n 2) 1 2 0 (.int 0) rfl rfl rfl rfl rfl rfl rfl ?_
  exact k
theorem sg_X9_retries_33 {g : tr_g} {d : Nat} {h : ev_AH} {r : ev_O × ev_AH} {x1 x2 : Int32} {w3 w4 : Option Value} {j0 : Nat} (hL : hh_L h) (e0 : 1 = Int32.ofNat j0) (b0 : j0 < 124) (t : ((hh_a h 100).getD j0 0) ≤ x2 → tr_L g d m_X9_retries 127 [some (.ref 1099), some (.int x1), some (.int x2), w3, w4] [] h r) (f : x2 < ((hh_a h 100).getD j0 0) → tr_L g d m_X9_retries 43 [some (.ref 1099), some (.int x1), some (.int x2), w3, w4] [] h r) : tr_L g d m_X9_retries 33 [some (.ref 1099), some (.int x1), some (.int x2), w3, w4] [] h r := by
  refine tr_s (.iload_n 2) 1 34 [some (.ref 1099), some (.int x1), some (.int x2), w3, w4] [.int x2] h rfl rfl rfl ?_
  refine tr_s (.aload_n 0) 1 35 [some (.ref 1099), some (.int x1), some (.int x2), w3, w4] [.ref 1099, .int x2] h rfl rfl rfl ?_
  refine tl_gr hL 9 99 8 0 100 [1100, 1101, 1102, 1103, 1104, 1105, 0, 0, 0, 0, 0, 0, 0, 0, 0, 0, 0, 0, 0, 0, 0, 1106, 0, 1107, 1108, 0, 0, 0] rfl rfl rfl rfl ?_
  refine tr_ic 1 1 (by decide) rfl ?_
  refine tl_ald hL .iaload 100 0 124 j0 1 rfl (by decide) rfl e0 b0 (by decide) ?_
  exact tr_if2 .ge 87 127 x2 ((hh_a h 100).getD j0 0) rfl rfl rfl (fun hc => t ((tr_ge hc).1 rfl)) (fun hc => f ((tr_ge hc).2 rfl))
theorem sg_X9_retries_43 {g : tr_g} {d : Nat} {h : ev_AH} {r : ev_O × ev_AH} {x1 x2 : Int32} {w3 w4 : Option Value} (hL : hh_L h) (k : tr_L g d m_X9_retries 48 [some (.ref 1099), some (.int x1), some (.int x2), some (.int 0), some (.int 0)] [] h r) : tr_L g d m_X9_retries 43 [some (.ref 1099), some (.int x1), some (.int x2), w3, w4] [] h r := by
  refine tr_ic 0 0 (by decide) rfl ?_
  refine tr_st (.istore_n 3) 1 3 0 (.int 0) rfl rfl rfl rfl rfl rfl rfl ?_
  refine tr_ic 0 0 (by decide) rfl ?_
  refine tr_st (.istore 4) 2 4 0 (.int 0) rfl rfl rfl rfl rfl rfl rfl ?_
  exact k
theorem sg_X9_retries_48 {g : tr_g} {d : Nat} {h : ev_AH} {r : ev_O × ev_AH} {x1 x2 x3 x4 : Int32} (hL : hh_L h) (t : 4 ≤ x4 → tr_L g d m_X9_retries 109 [some (.ref 1099), some (.int x1), some (.int x2), some (.int x3), some (.int x4)] [] h r) (f : x4 < 4 → tr_L g d m_X9_retries 54 [some (.ref 1099), some (.int x1), some (.int x2), some (.int x3), some (.int x4)] [] h r) : tr_L g d m_X9_retries 48 [some (.ref 1099), some (.int x1), some (.int x2), some (.int x3), some (.int x4)] [] h r := by
  refine tr_s (.iload 4) 2 50 [some (.ref 1099), some (.int x1), some (.int x2), some (.int x3), some (.int x4)] [.int x4] h rfl rfl rfl ?_
  refine tr_ic 4 4 (by decide) rfl ?_
  exact tr_if2 .ge 58 109 x4 4 rfl rfl rfl (fun hc => t ((tr_ge hc).1 rfl)) (fun hc => f ((tr_ge hc).2 rfl))
theorem sg_X9_retries_54 {g : tr_g} {d : Nat} {h : ev_AH} {r : ev_O × ev_AH} {x1 x2 x3 x4 v0 v1 : Int32} {h1 h2 : ev_AH} (hL : hh_L h) (c_0 : tr_L g d m_X9_of 0 [some (.ref 1099), some (.int x2), some (.int (2 + x4))] [] h (.inl (some (.int v0)), h1)) (c_1 : tr_L g d m_X9_of 0 [some (.ref 1099), some (.int x2), some (.int (6 + x4))] [] h1 (.inl (some (.int v1)), h2)) (t : v0 = v1 → tr_L g (d + 1) m_X9_retries 81 [some (.ref 1099), some (.int x1), some (.int x2), some (.int x3), some (.int x4)] [.int x3] h2 r) (f : v0 ≠ v1 → tr_L g (d + 1) m_X9_retries 77 [some (.ref 1099), some (.int x1), some (.int x2), some (.int x3), some (.int x4)] [.int x3] h2 r) : tr_L g (d + 1) m_X9_retries 54 [some (.ref 1099), some (.int x1), some (.int x2), some (.int x3), some (.int x4)] [] h r := by
  refine tr_s (.iload_n 3) 1 55 [some (.ref 1099), some (.int x1), some (.int x2), some (.int x3), some (.int x4)] [.int x3] h rfl rfl rfl ?_
  refine tr_s (.aload_n 0) 1 56 [some (.ref 1099), some (.int x1), some (.int x2), some (.int x3), some (.int x4)] [.ref 1099, .int x3] h rfl rfl rfl ?_
  refine tr_s (.iload_n 2) 1 57 [some (.ref 1099), some (.int x1), some (.int x2), some (.int x3), some (.int x4)] [.int x2, .ref 1099, .int x3] h rfl rfl rfl ?_
  refine tr_ic 2 2 (by decide) rfl ?_
  refine tr_s (.iload 4) 2 60 [some (.ref 1099), some (.int x1), some (.int x2), some (.int x3), some (.int x4)] [.int x4, .int 2, .int x2, .ref 1099, .int x3] h rfl rfl rfl ?_
  refine tr_s .iadd 1 61 [some (.ref 1099), some (.int x1), some (.int x2), some (.int x3), some (.int x4)] [.int (2 + x4), .int x2, .ref 1099, .int x3] h rfl rfl rfl ?_
  refine tr_call (.invokevirtual 74) 74 0 2 8 m_X9_of [.ref 1099, .int x2, .int (2 + x4)] [.int x3] (some (.int v0)) h1 rfl rfl rfl rfl rfl rfl rfl rfl rfl (tr_cok rfl (Or.inr ⟨_, _, rfl, tr_rc (hh_rd (hh_obj hL (k := 99) rfl).1) (by decide)⟩)) c_0 ?_
  have hL0 := c_0.2
  refine tr_s (.aload_n 0) 1 65 [some (.ref 1099), some (.int x1), some (.int x2), some (.int x3), some (.int x4)] [.ref 1099, .int v0, .int x3] h1 rfl rfl rfl ?_
  refine tr_s (.iload_n 2) 1 66 [some (.ref 1099), some (.int x1), some (.int x2), some (.int x3), some (.int x4)] [.int x2, .ref 1099, .int v0, .int x3] h1 rfl rfl rfl ?_
  refine tr_bi 6 6 (by decide) rfl ?_
  refine tr_s (.iload 4) 2 70 [some (.ref 1099), some (.int x1), some (.int x2), some (.int x3), some (.int x4)] [.int x4, .int 6, .int x2, .ref 1099, .int v0, .int x3] h1 rfl rfl rfl ?_
  refine tr_s .iadd 1 71 [some (.ref 1099), some (.int x1), some (.int x2), some (.int x3), some (.int x4)] [.int (6 + x4), .int x2, .ref 1099, .int v0, .int x3] h1 rfl rfl rfl ?_
  refine tr_call (.invokevirtual 74) 74 0 2 8 m_X9_of [.ref 1099, .int x2, .int (6 + x4)] [.int v0, .int x3] (some (.int v1)) h2 rfl rfl rfl rfl rfl rfl rfl rfl rfl (tr_cok rfl (Or.inr ⟨_, _, rfl, tr_rc (hh_rd (hh_obj hL0 (k := 99) rfl).1) (by decide)⟩)) c_1 ?_
  have hL1 := c_1.2
  exact tr_if2 .eq 7 81 v0 v1 rfl rfl rfl (fun hc => t ((tr_eq hc).1 rfl)) (fun hc => f ((tr_eq hc).2 rfl))
theorem sg_X9_retries_77 {g : tr_g} {d : Nat} {h : ev_AH} {r : ev_O × ev_AH} {x1 x2 x4 s0 v0 : Int32} {w3 : Option Value} {h1 h2 : ev_AH} (hL : hh_L h) (c_0 : tr_L g d m_X9_of 0 [some (.ref 1099), some (.int x2), some (.int (6 + x4))] [] h (.inl (some (.int v0)), h1)) (c_1 : tr_L g d m_X9_sets 0 [some (.ref 1099), some (.int x2), some (.int (2 + x4)), some (.int v0)] [] h1 (.inl none, h2)) (k : tr_L g (d + 1) m_X9_retries 48 [some (.ref 1099), some (.int x1), some (.int x2), some (.int (s0 ||| 1)), some (.int (x4 + 1))] [] h2 r) : tr_L g (d + 1) m_X9_retries 77 [some (.ref 1099), some (.int x1), some (.int x2), w3, some (.int x4)] [.int s0] h r := by
  refine tr_ic 1 1 (by decide) rfl ?_
  refine tr_goto 4 82 rfl rfl rfl ?_
  refine tr_s .ior 1 83 [some (.ref 1099), some (.int x1), some (.int x2), w3, some (.int x4)] [.int (s0 ||| 1)] h rfl rfl rfl ?_
  refine tr_st (.istore_n 3) 1 3 0 (.int (s0 ||| 1)) rfl rfl rfl rfl rfl rfl rfl ?_
  refine tr_s (.aload_n 0) 1 85 [some (.ref 1099), some (.int x1), some (.int x2), some (.int (s0 ||| 1)), some (.int x4)] [.ref 1099] h rfl rfl rfl ?_
  refine tr_s (.iload_n 2) 1 86 [some (.ref 1099), some (.int x1), some (.int x2), some (.int (s0 ||| 1)), some (.int x4)] [.int x2, .ref 1099] h rfl rfl rfl ?_
  refine tr_ic 2 2 (by decide) rfl ?_
  refine tr_s (.iload 4) 2 89 [some (.ref 1099), some (.int x1), some (.int x2), some (.int (s0 ||| 1)), some (.int x4)] [.int x4, .int 2, .int x2, .ref 1099] h rfl rfl rfl ?_
  refine tr_s .iadd 1 90 [some (.ref 1099), some (.int x1), some (.int x2), some (.int (s0 ||| 1)), some (.int x4)] [.int (2 + x4), .int x2, .ref 1099] h rfl rfl rfl ?_
  refine tr_s (.aload_n 0) 1 91 [some (.ref 1099), some (.int x1), some (.int x2), some (.int (s0 ||| 1)), some (.int x4)] [.ref 1099, .int (2 + x4), .int x2, .ref 1099] h rfl rfl rfl ?_
  refine tr_s (.iload_n 2) 1 92 [some (.ref 1099), some (.int x1), some (.int x2), some (.int (s0 ||| 1)), some (.int x4)] [.int x2, .ref 1099, .int (2 + x4), .int x2, .ref 1099] h rfl rfl rfl ?_
  refine tr_bi 6 6 (by decide) rfl ?_
  refine tr_s (.iload 4) 2 96 [some (.ref 1099), some (.int x1), some (.int x2), some (.int (s0 ||| 1)), some (.int x4)] [.int x4, .int 6, .int x2, .ref 1099, .int (2 + x4), .int x2, .ref 1099] h rfl rfl rfl ?_
  refine tr_s .iadd 1 97 [some (.ref 1099), some (.int x1), some (.int x2), some (.int (s0 ||| 1)), some (.int x4)] [.int (6 + x4), .int x2, .ref 1099, .int (2 + x4), .int x2, .ref 1099] h rfl rfl rfl ?_
  refine tr_call (.invokevirtual 74) 74 0 2 8 m_X9_of [.ref 1099, .int x2, .int (6 + x4)] [.int (2 + x4), .int x2, .ref 1099] (some (.int v0)) h1 rfl rfl rfl rfl rfl rfl rfl rfl rfl (tr_cok rfl (Or.inr ⟨_, _, rfl, tr_rc (hh_rd (hh_obj hL (k := 99) rfl).1) (by decide)⟩)) c_0 ?_
  have hL0 := c_0.2
  refine tr_call (.invokevirtual 96) 96 0 3 8 m_X9_sets [.ref 1099, .int x2, .int (2 + x4), .int v0] [] none h2 rfl rfl rfl rfl rfl rfl rfl rfl rfl (tr_cok rfl (Or.inr ⟨_, _, rfl, tr_rc (hh_rd (hh_obj hL0 (k := 99) rfl).1) (by decide)⟩)) c_1 ?_
  have hL1 := c_1.2
  refine tr_inc 4 1 x4 1 (by decide) rfl rfl rfl ?_
  refine tr_goto (-58) 48 rfl rfl rfl ?_
  exact k
theorem sg_X9_retries_81 {g : tr_g} {d : Nat} {h : ev_AH} {r : ev_O × ev_AH} {x1 x2 x4 s0 v0 : Int32} {w3 : Option Value} {h1 h2 : ev_AH} (hL : hh_L h) (c_0 : tr_L g d m_X9_of 0 [some (.ref 1099), some (.int x2), some (.int (6 + x4))] [] h (.inl (some (.int v0)), h1)) (c_1 : tr_L g d m_X9_sets 0 [some (.ref 1099), some (.int x2), some (.int (2 + x4)), some (.int v0)] [] h1 (.inl none, h2)) (k : tr_L g (d + 1) m_X9_retries 48 [some (.ref 1099), some (.int x1), some (.int x2), some (.int (s0 ||| 0)), some (.int (x4 + 1))] [] h2 r) : tr_L g (d + 1) m_X9_retries 81 [some (.ref 1099), some (.int x1), some (.int x2), w3, some (.int x4)] [.int s0] h r := by
  refine tr_ic 0 0 (by decide) rfl ?_
  refine tr_s .ior 1 83 [some (.ref 1099), some (.int x1), some (.int x2), w3, some (.int x4)] [.int (s0 ||| 0)] h rfl rfl rfl ?_
  refine tr_st (.istore_n 3) 1 3 0 (.int (s0 ||| 0)) rfl rfl rfl rfl rfl rfl rfl ?_
  refine tr_s (.aload_n 0) 1 85 [some (.ref 1099), some (.int x1), some (.int x2), some (.int (s0 ||| 0)), some (.int x4)] [.ref 1099] h rfl rfl rfl ?_
  refine tr_s (.iload_n 2) 1 86 [some (.ref 1099), some (.int x1), some (.int x2), some (.int (s0 ||| 0)), some (.int x4)] [.int x2, .ref 1099] h rfl rfl rfl ?_
  refine tr_ic 2 2 (by decide) rfl ?_
  refine tr_s (.iload 4) 2 89 [some (.ref 1099), some (.int x1), some (.int x2), some (.int (s0 ||| 0)), some (.int x4)] [.int x4, .int 2, .int x2, .ref 1099] h rfl rfl rfl ?_
  refine tr_s .iadd 1 90 [some (.ref 1099), some (.int x1), some (.int x2), some (.int (s0 ||| 0)), some (.int x4)] [.int (2 + x4), .int x2, .ref 1099] h rfl rfl rfl ?_
  refine tr_s (.aload_n 0) 1 91 [some (.ref 1099), some (.int x1), some (.int x2), some (.int (s0 ||| 0)), some (.int x4)] [.ref 1099, .int (2 + x4), .int x2, .ref 1099] h rfl rfl rfl ?_
  refine tr_s (.iload_n 2) 1 92 [some (.ref 1099), some (.int x1), some (.int x2), some (.int (s0 ||| 0)), some (.int x4)] [.int x2, .ref 1099, .int (2 + x4), .int x2, .ref 1099] h rfl rfl rfl ?_
  refine tr_bi 6 6 (by decide) rfl ?_
  refine tr_s (.iload 4) 2 96 [some (.ref 1099), some (.int x1), some (.int x2), some (.int (s0 ||| 0)), some (.int x4)] [.int x4, .int 6, .int x2, .ref 1099, .int (2 + x4), .int x2, .ref 1099] h rfl rfl rfl ?_
  refine tr_s .iadd 1 97 [some (.ref 1099), some (.int x1), some (.int x2), some (.int (s0 ||| 0)), some (.int x4)] [.int (6 + x4), .int x2, .ref 1099, .int (2 + x4), .int x2, .ref 1099] h rfl rfl rfl ?_
  refine tr_call (.invokevirtual 74) 74 0 2 8 m_X9_of [.ref 1099, .int x2, .int (6 + x4)] [.int (2 + x4), .int x2, .ref 1099] (some (.int v0)) h1 rfl rfl rfl rfl rfl rfl rfl rfl rfl (tr_cok rfl (Or.inr ⟨_, _, rfl, tr_rc (hh_rd (hh_obj hL (k := 99) rfl).1) (by decide)⟩)) c_0 ?_
  have hL0 := c_0.2
  refine tr_call (.invokevirtual 96) 96 0 3 8 m_X9_sets [.ref 1099, .int x2, .int (2 + x4), .int v0] [] none h2 rfl rfl rfl rfl rfl rfl rfl rfl rfl (tr_cok rfl (Or.inr ⟨_, _, rfl, tr_rc (hh_rd (hh_obj hL0 (k := 99) rfl).1) (by decide)⟩)) c_1 ?_
  have hL1 := c_1.2
  refine tr_inc 4 1 x4 1 (by decide) rfl rfl rfl ?_
  refine tr_goto (-58) 48 rfl rfl rfl ?_
  exact k
theorem sg_X9_retries_109 {g : tr_g} {d : Nat} {h : ev_AH} {r : ev_O × ev_AH} {x1 x2 x3 : Int32} {w4 : Option Value} (hL : hh_L h) (t : x3 = 0 → tr_L g d m_X9_retries 118 [some (.ref 1099), some (.int x1), some (.int x2), some (.int x3), w4] [.int x1] h r) (f : x3 ≠ 0 → tr_L g d m_X9_retries 114 [some (.ref 1099), some (.int x1), some (.int x2), some (.int x3), w4] [.int x1] h r) : tr_L g d m_X9_retries 109 [some (.ref 1099), some (.int x1), some (.int x2), some (.int x3), w4] [] h r := by
  refine tr_s (.iload_n 1) 1 110 [some (.ref 1099), some (.int x1), some (.int x2), some (.int x3), w4] [.int x1] h rfl rfl rfl ?_
  refine tr_s (.iload_n 3) 1 111 [some (.ref 1099), some (.int x1), some (.int x2), some (.int x3), w4] [.int x3, .int x1] h rfl rfl rfl ?_
  exact tr_if1 .eq 7 118 x3 rfl rfl rfl (fun hc => t ((tr_eq hc).1 rfl)) (fun hc => f ((tr_eq hc).2 rfl))
theorem sg_X9_retries_114 {g : tr_g} {d : Nat} {h : ev_AH} {r : ev_O × ev_AH} {w1 w3 w4 : Option Value} {x2 s0 : Int32} (hL : hh_L h) (k : tr_L g d m_X9_retries 33 [some (.ref 1099), some (.int (s0 + 1)), some (.int (x2 + 1)), w3, w4] [] h r) : tr_L g d m_X9_retries 114 [some (.ref 1099), w1, some (.int x2), w3, w4] [.int s0] h r := by
  refine tr_ic 1 1 (by decide) rfl ?_
  refine tr_goto 4 119 rfl rfl rfl ?_
  refine tr_s .iadd 1 120 [some (.ref 1099), w1, some (.int x2), w3, w4] [.int (s0 + 1)] h rfl rfl rfl ?_
  refine tr_st (.istore_n 1) 1 1 0 (.int (s0 + 1)) rfl rfl rfl rfl rfl rfl rfl ?_
  refine tr_inc 2 1 x2 1 (by decide) rfl rfl rfl ?_
  refine tr_goto (-91) 33 rfl rfl rfl ?_
  exact k
theorem sg_X9_retries_118 {g : tr_g} {d : Nat} {h : ev_AH} {r : ev_O × ev_AH} {w1 w3 w4 : Option Value} {x2 s0 : Int32} (hL : hh_L h) (k : tr_L g d m_X9_retries 33 [some (.ref 1099), some (.int (s0 + 0)), some (.int (x2 + 1)), w3, w4] [] h r) : tr_L g d m_X9_retries 118 [some (.ref 1099), w1, some (.int x2), w3, w4] [.int s0] h r := by
  refine tr_ic 0 0 (by decide) rfl ?_
  refine tr_s .iadd 1 120 [some (.ref 1099), w1, some (.int x2), w3, w4] [.int (s0 + 0)] h rfl rfl rfl ?_
  refine tr_st (.istore_n 1) 1 1 0 (.int (s0 + 0)) rfl rfl rfl rfl rfl rfl rfl ?_
  refine tr_inc 2 1 x2 1 (by decide) rfl rfl rfl ?_
  refine tr_goto (-91) 33 rfl rfl rfl ?_
  exact k
theorem sg_X9_retries_127 {g : tr_g} {d : Nat} {h : ev_AH} {r : ev_O × ev_AH} {x1 : Int32} {w2 w3 w4 : Option Value} {j0 j1 j2 : Nat} (hL : hh_L h) (e0 : 6 = Int32.ofNat j0) (b0 : j0 < 124) (e1 : 4 = Int32.ofNat j1) (b1 : j1 < 124) (e2 : 4 = Int32.ofNat j2) (b2 : j2 < 124) (hr : r = (.inl (some (.int x1)), hh_sa (hh_sa h 100 0 ((hh_a h 100).set j0 0)) 100 0 ((hh_a (hh_sa h 100 0 ((hh_a h 100).set j0 0)) 100).set j2 (((hh_a (hh_sa h 100 0 ((hh_a h 100).set j0 0)) 100).getD j1 0) + 1)))) : tr_L g d m_X9_retries 127 [some (.ref 1099), some (.int x1), w2, w3, w4] [] h r := by
  refine tr_s (.aload_n 0) 1 128 [some (.ref 1099), some (.int x1), w2, w3, w4] [.ref 1099] h rfl rfl rfl ?_
  refine tl_gr hL 9 99 8 0 100 [1100, 1101, 1102, 1103, 1104, 1105, 0, 0, 0, 0, 0, 0, 0, 0, 0, 0, 0, 0, 0, 0, 0, 1106, 0, 1107, 1108, 0, 0, 0] rfl rfl rfl rfl ?_
  refine tr_bi 6 6 (by decide) rfl ?_
  refine tr_ic 0 0 (by decide) rfl ?_
  refine tl_ias hL 100 124 j0 6 0 rfl rfl e0 b0 (by decide) ?_
  have hL0 := hh_L_ss (j := j0) (x := 0) hL (show hh_t[100]? = some (.inl (0, 124)) from rfl)
  refine tr_s (.aload_n 0) 1 136 [some (.ref 1099), some (.int x1), w2, w3, w4] [.ref 1099] (hh_sa h 100 0 ((hh_a h 100).set j0 0)) rfl rfl rfl ?_
  refine tl_gr hL0 9 99 8 0 100 [1100, 1101, 1102, 1103, 1104, 1105, 0, 0, 0, 0, 0, 0, 0, 0, 0, 0, 0, 0, 0, 0, 0, 1106, 0, 1107, 1108, 0, 0, 0] rfl rfl rfl rfl ?_
  refine tr_ic 4 4 (by decide) rfl ?_
  refine tr_s .dup2 1 141 [some (.ref 1099), some (.int x1), w2, w3, w4] [.int 4, .ref 1100, .int 4, .ref 1100] (hh_sa h 100 0 ((hh_a h 100).set j0 0)) rfl rfl rfl ?_
  refine tl_ald hL0 .iaload 100 0 124 j1 4 rfl (by decide) rfl e1 b1 (by decide) ?_
  refine tr_ic 1 1 (by decide) rfl ?_
  refine tr_s .iadd 1 144 [some (.ref 1099), some (.int x1), w2, w3, w4] [.int (((hh_a (hh_sa h 100 0 ((hh_a h 100).set j0 0)) 100).getD j1 0) + 1), .int 4, .ref 1100] (hh_sa h 100 0 ((hh_a h 100).set j0 0)) rfl rfl rfl ?_
  refine tl_ias hL0 100 124 j2 4 (((hh_a (hh_sa h 100 0 ((hh_a h 100).set j0 0)) 100).getD j1 0) + 1) rfl rfl e2 b2 (by decide) ?_
  have hL1 := hh_L_ss (j := j2) (x := (((hh_a (hh_sa h 100 0 ((hh_a h 100).set j0 0)) 100).getD j1 0) + 1)) hL0 (show hh_t[100]? = some (.inl (0, 124)) from rfl)
  refine tr_s (.iload_n 1) 1 146 [some (.ref 1099), some (.int x1), w2, w3, w4] [.int x1] (hh_sa (hh_sa h 100 0 ((hh_a h 100).set j0 0)) 100 0 ((hh_a (hh_sa h 100 0 ((hh_a h 100).set j0 0)) 100).set j2 (((hh_a (hh_sa h 100 0 ((hh_a h 100).set j0 0)) 100).getD j1 0) + 1))) rfl rfl rfl ?_
  exact tl_ret hL1 .ireturn 1 (some (.int x1)) rfl rfl rfl rfl hr
theorem sg_X9_isCaused_0 {g : tr_g} {d : Nat} {h : ev_AH} {r : ev_O × ev_AH} {j0 : Nat} (hL : hh_L h) (e0 : 6 = Int32.ofNat j0) (b0 : j0 < 124) (t : ((hh_a h 100).getD j0 0) ≠ 1 → tr_L g d m_X9_isCaused 38 [some (.ref 1099)] [] h r) (f : ((hh_a h 100).getD j0 0) = 1 → tr_L g d m_X9_isCaused 11 [some (.ref 1099)] [] h r) : tr_L g d m_X9_isCaused 0 [some (.ref 1099)] [] h r := by
  refine tr_s (.aload_n 0) 1 1 [some (.ref 1099)] [.ref 1099] h rfl rfl rfl ?_
  refine tl_gr hL 9 99 8 0 100 [1100, 1101, 1102, 1103, 1104, 1105, 0, 0, 0, 0, 0, 0, 0, 0, 0, 0, 0, 0, 0, 0, 0, 1106, 0, 1107, 1108, 0, 0, 0] rfl rfl rfl rfl ?_
  refine tr_bi 6 6 (by decide) rfl ?_
  refine tl_ald hL .iaload 100 0 124 j0 6 rfl (by decide) rfl e0 b0 (by decide) ?_
  refine tr_ic 1 1 (by decide) rfl ?_
  exact tr_if2 .ne 30 38 ((hh_a h 100).getD j0 0) 1 rfl rfl rfl (fun hc => t ((tr_ne hc).1 rfl)) (fun hc => f ((tr_ne hc).2 rfl))
theorem sg_X9_isCaused_11 {g : tr_g} {d : Nat} {h : ev_AH} {r : ev_O × ev_AH} {j0 : Nat} (hL : hh_L h) (e0 : 9 = Int32.ofNat j0) (b0 : j0 < 124) (t : ((hh_a h 100).getD j0 0) = 45 → tr_L g d m_X9_isCaused 34 [some (.ref 1099)] [] h r) (f : ((hh_a h 100).getD j0 0) ≠ 45 → tr_L g d m_X9_isCaused 23 [some (.ref 1099)] [] h r) : tr_L g d m_X9_isCaused 11 [some (.ref 1099)] [] h r := by
  refine tr_s (.aload_n 0) 1 12 [some (.ref 1099)] [.ref 1099] h rfl rfl rfl ?_
  refine tl_gr hL 9 99 8 0 100 [1100, 1101, 1102, 1103, 1104, 1105, 0, 0, 0, 0, 0, 0, 0, 0, 0, 0, 0, 0, 0, 0, 0, 1106, 0, 1107, 1108, 0, 0, 0] rfl rfl rfl rfl ?_
  refine tr_bi 9 9 (by decide) rfl ?_
  refine tl_ald hL .iaload 100 0 124 j0 9 rfl (by decide) rfl e0 b0 (by decide) ?_
  refine tr_bi 45 45 (by decide) rfl ?_
  exact tr_if2 .eq 14 34 ((hh_a h 100).getD j0 0) 45 rfl rfl rfl (fun hc => t ((tr_eq hc).1 rfl)) (fun hc => f ((tr_eq hc).2 rfl))
theorem sg_X9_isCaused_23 {g : tr_g} {d : Nat} {h : ev_AH} {r : ev_O × ev_AH} {j0 : Nat} (hL : hh_L h) (e0 : 7 = Int32.ofNat j0) (b0 : j0 < 124) (t : ((hh_a h 100).getD j0 0) ≠ 1 → tr_L g d m_X9_isCaused 38 [some (.ref 1099)] [] h r) (f : ((hh_a h 100).getD j0 0) = 1 → tr_L g d m_X9_isCaused 34 [some (.ref 1099)] [] h r) : tr_L g d m_X9_isCaused 23 [some (.ref 1099)] [] h r := by
  refine tr_s (.aload_n 0) 1 24 [some (.ref 1099)] [.ref 1099] h rfl rfl rfl ?_
  refine tl_gr hL 9 99 8 0 100 [1100, 1101, 1102, 1103, 1104, 1105, 0, 0, 0, 0, 0, 0, 0, 0, 0, 0, 0, 0, 0, 0, 0, 1106, 0, 1107, 1108, 0, 0, 0] rfl rfl rfl rfl ?_
  refine tr_bi 7 7 (by decide) rfl ?_
  refine tl_ald hL .iaload 100 0 124 j0 7 rfl (by decide) rfl e0 b0 (by decide) ?_
  refine tr_ic 1 1 (by decide) rfl ?_
  exact tr_if2 .ne 7 38 ((hh_a h 100).getD j0 0) 1 rfl rfl rfl (fun hc => t ((tr_ne hc).1 rfl)) (fun hc => f ((tr_ne hc).2 rfl))
theorem sg_X9_isCaused_34 {g : tr_g} {d : Nat} {h : ev_AH} {r : ev_O × ev_AH} {w0 : Option Value} (hL : hh_L h) (hr : r = (.inl (some (.int 1)), h)) : tr_L g d m_X9_isCaused 34 [w0] [] h r := by
  refine tr_ic 1 1 (by decide) rfl ?_
  refine tr_goto 4 39 rfl rfl rfl ?_
  exact tl_ret hL .ireturn 1 (some (.int 1)) rfl rfl rfl rfl hr
theorem sg_X9_isCaused_38 {g : tr_g} {d : Nat} {h : ev_AH} {r : ev_O × ev_AH} {w0 : Option Value} (hL : hh_L h) (hr : r = (.inl (some (.int 0)), h)) : tr_L g d m_X9_isCaused 38 [w0] [] h r := by
  refine tr_ic 0 0 (by decide) rfl ?_
  exact tl_ret hL .ireturn 1 (some (.int 0)) rfl rfl rfl rfl hr
theorem sg_X9_hasCause_0 {g : tr_g} {d : Nat} {h : ev_AH} {r : ev_O × ev_AH} {h1 : ev_AH} {v0 : Int32} (hL : hh_L h) (c_0 : tr_L g d m_X9_isCaused 0 [some (.ref 1099)] [] (hh_si h 99 8 7 0) (.inl (some (.int v0)), h1)) (hb0 : v0 = 0 ∨ v0 = 1) (hr : r = (.inl (some (.int v0)), h1)) : tr_L g (d + 1) m_X9_hasCause 0 [some (.ref 1099)] [] h r := by
  refine tr_s (.aload_n 0) 1 1 [some (.ref 1099)] [.ref 1099] h rfl rfl rfl ?_
  refine tr_ic 0 0 (by decide) rfl ?_
  refine tl_pf hL 41 99 8 7 [1100, 1101, 1102, 1103, 1104, 1105, 0, 0, 0, 0, 0, 0, 0, 0, 0, 0, 0, 0, 0, 0, 0, 1106, 0, 1107, 1108, 0, 0, 0] 0 .int rfl rfl rfl rfl rfl tr_oki ?_
  have hL0 := hh_L_si (sl := 7) (x := 0) hL (show hh_t[99]? = some (.inr (8, [1100, 1101, 1102, 1103, 1104, 1105, 0, 0, 0, 0, 0, 0, 0, 0, 0, 0, 0, 0, 0, 0, 0, 1106, 0, 1107, 1108, 0, 0, 0])) from rfl) rfl
  refine tr_s (.aload_n 0) 1 6 [some (.ref 1099)] [.ref 1099] (hh_si h 99 8 7 0) rfl rfl rfl ?_
  refine tr_call (.invokevirtual 237) 237 0 0 8 m_X9_isCaused [.ref 1099] [] (some (.int v0)) h1 rfl rfl rfl rfl rfl rfl rfl rfl rfl (tr_cok rfl (Or.inr ⟨_, _, rfl, tr_rc (hh_rd (hh_obj hL0 (k := 99) rfl).1) (by decide)⟩)) c_0 ?_
  have hL1 := c_0.2
  exact tl_ret hL1 .ireturn 1 (some (.int v0)) rfl rfl rfl (tr_eb rfl hb0) hr
theorem sg_X9_deliberations_0 {g : tr_g} {d : Nat} {h : ev_AH} {r : ev_O × ev_AH} {j0 : Nat} (hL : hh_L h) (e0 : 2 = Int32.ofNat j0) (b0 : j0 < 124) (hr : r = (.inl (some (.int ((hh_a (hh_si h 99 8 7 0) 100).getD j0 0))), hh_si h 99 8 7 0)) : tr_L g d m_X9_deliberations 0 [some (.ref 1099)] [] h r := by
  refine tr_s (.aload_n 0) 1 1 [some (.ref 1099)] [.ref 1099] h rfl rfl rfl ?_
  refine tr_ic 0 0 (by decide) rfl ?_
  refine tl_pf hL 41 99 8 7 [1100, 1101, 1102, 1103, 1104, 1105, 0, 0, 0, 0, 0, 0, 0, 0, 0, 0, 0, 0, 0, 0, 0, 1106, 0, 1107, 1108, 0, 0, 0] 0 .int rfl rfl rfl rfl rfl tr_oki ?_
  have hL0 := hh_L_si (sl := 7) (x := 0) hL (show hh_t[99]? = some (.inr (8, [1100, 1101, 1102, 1103, 1104, 1105, 0, 0, 0, 0, 0, 0, 0, 0, 0, 0, 0, 0, 0, 0, 0, 1106, 0, 1107, 1108, 0, 0, 0])) from rfl) rfl
  refine tr_s (.aload_n 0) 1 6 [some (.ref 1099)] [.ref 1099] (hh_si h 99 8 7 0) rfl rfl rfl ?_
  refine tl_gr hL0 9 99 8 0 100 [1100, 1101, 1102, 1103, 1104, 1105, 0, 0, 0, 0, 0, 0, 0, 0, 0, 0, 0, 0, 0, 0, 0, 1106, 0, 1107, 1108, 0, 0, 0] rfl rfl rfl rfl ?_
  refine tr_ic 2 2 (by decide) rfl ?_
  refine tl_ald hL0 .iaload 100 0 124 j0 2 rfl (by decide) rfl e0 b0 (by decide) ?_
  exact tl_ret hL0 .ireturn 1 (some (.int ((hh_a (hh_si h 99 8 7 0) 100).getD j0 0))) rfl rfl rfl rfl hr
theorem sg_X9_verdictAt_0 {g : tr_g} {d : Nat} {h : ev_AH} {r : ev_O × ev_AH} {x1 v0 : Int32} {j0 : Nat} {h1 : ev_AH} (hL : hh_L h) (e0 : 8 = Int32.ofNat j0) (b0 : j0 < 124) (c_0 : tr_L g d m_X9_isIn 0 [some (.int x1), some (.int 0), some (.int (((hh_a h 100).getD j0 0) - 1))] [] h (.inl (some (.int v0)), h1)) (t : v0 ≠ 0 → tr_L g (d + 1) m_X9_verdictAt 22 [some (.ref 1099), some (.int x1)] [.ref 1099] h1 r) (f : v0 = 0 → tr_L g (d + 1) m_X9_verdictAt 18 [some (.ref 1099), some (.int x1)] [.ref 1099] h1 r) : tr_L g (d + 1) m_X9_verdictAt 0 [some (.ref 1099), some (.int x1)] [] h r := by
  refine tr_s (.aload_n 0) 1 1 [some (.ref 1099), some (.int x1)] [.ref 1099] h rfl rfl rfl ?_
  refine tr_s (.iload_n 1) 1 2 [some (.ref 1099), some (.int x1)] [.int x1, .ref 1099] h rfl rfl rfl ?_
  refine tr_ic 0 0 (by decide) rfl ?_
  refine tr_s (.aload_n 0) 1 4 [some (.ref 1099), some (.int x1)] [.ref 1099, .int 0, .int x1, .ref 1099] h rfl rfl rfl ?_
  refine tl_gr hL 9 99 8 0 100 [1100, 1101, 1102, 1103, 1104, 1105, 0, 0, 0, 0, 0, 0, 0, 0, 0, 0, 0, 0, 0, 0, 0, 1106, 0, 1107, 1108, 0, 0, 0] rfl rfl rfl rfl ?_
  refine tr_bi 8 8 (by decide) rfl ?_
  refine tl_ald hL .iaload 100 0 124 j0 8 rfl (by decide) rfl e0 b0 (by decide) ?_
  refine tr_ic 1 1 (by decide) rfl ?_
  refine tr_s .isub 1 12 [some (.ref 1099), some (.int x1)] [.int (((hh_a h 100).getD j0 0) - 1), .int 0, .int x1, .ref 1099] h rfl rfl rfl ?_
  refine tr_call (.invokestatic 70) 70 2 3 0 m_X9_isIn [.int x1, .int 0, .int (((hh_a h 100).getD j0 0) - 1)] [.ref 1099] (some (.int v0)) h1 rfl rfl rfl rfl rfl rfl rfl rfl rfl (tr_cok rfl (Or.inl rfl)) c_0 ?_
  have hL0 := c_0.2
  exact tr_if1 .ne 7 22 v0 rfl rfl rfl (fun hc => t ((tr_ne hc).1 rfl)) (fun hc => f ((tr_ne hc).2 rfl))
theorem sg_X9_verdictAt_18 {g : tr_g} {d : Nat} {h : ev_AH} {r : ev_O × ev_AH} {x1 v0 : Int32} {h1 : ev_AH} (hL : hh_L h) (c_0 : tr_L g d m_X9_isThrown 0 [some (.ref 1099), some (.int 1), some (.int 1)] [] h (.inl (some (.int v0)), h1)) (t : v0 = 0 → tr_L g (d + 1) m_X9_verdictAt 34 [some (.ref 1099), some (.int x1)] [] h1 r) (f : v0 ≠ 0 → tr_L g (d + 1) m_X9_verdictAt 30 [some (.ref 1099), some (.int x1)] [] h1 r) : tr_L g (d + 1) m_X9_verdictAt 18 [some (.ref 1099), some (.int x1)] [.ref 1099] h r := by
  refine tr_ic 1 1 (by decide) rfl ?_
  refine tr_goto 4 23 rfl rfl rfl ?_
  refine tr_ic 1 1 (by decide) rfl ?_
  refine tr_call (.invokevirtual 66) 66 0 2 8 m_X9_isThrown [.ref 1099, .int 1, .int 1] [] (some (.int v0)) h1 rfl rfl rfl rfl rfl rfl rfl rfl rfl (tr_cok rfl (Or.inr ⟨_, _, rfl, tr_rc (hh_rd (hh_obj hL (k := 99) rfl).1) (by decide)⟩)) c_0 ?_
  have hL0 := c_0.2
  exact tr_if1 .eq 7 34 v0 rfl rfl rfl (fun hc => t ((tr_eq hc).1 rfl)) (fun hc => f ((tr_eq hc).2 rfl))
theorem sg_X9_verdictAt_22 {g : tr_g} {d : Nat} {h : ev_AH} {r : ev_O × ev_AH} {x1 v0 : Int32} {h1 : ev_AH} (hL : hh_L h) (c_0 : tr_L g d m_X9_isThrown 0 [some (.ref 1099), some (.int 0), some (.int 1)] [] h (.inl (some (.int v0)), h1)) (t : v0 = 0 → tr_L g (d + 1) m_X9_verdictAt 34 [some (.ref 1099), some (.int x1)] [] h1 r) (f : v0 ≠ 0 → tr_L g (d + 1) m_X9_verdictAt 30 [some (.ref 1099), some (.int x1)] [] h1 r) : tr_L g (d + 1) m_X9_verdictAt 22 [some (.ref 1099), some (.int x1)] [.ref 1099] h r := by
  refine tr_ic 0 0 (by decide) rfl ?_
  refine tr_ic 1 1 (by decide) rfl ?_
  refine tr_call (.invokevirtual 66) 66 0 2 8 m_X9_isThrown [.ref 1099, .int 0, .int 1] [] (some (.int v0)) h1 rfl rfl rfl rfl rfl rfl rfl rfl rfl (tr_cok rfl (Or.inr ⟨_, _, rfl, tr_rc (hh_rd (hh_obj hL (k := 99) rfl).1) (by decide)⟩)) c_0 ?_
  have hL0 := c_0.2
  exact tr_if1 .eq 7 34 v0 rfl rfl rfl (fun hc => t ((tr_eq hc).1 rfl)) (fun hc => f ((tr_eq hc).2 rfl))
theorem sg_X9_verdictAt_30 {g : tr_g} {d : Nat} {h : ev_AH} {r : ev_O × ev_AH} {w0 w1 : Option Value} (hL : hh_L h) (hr : r = (.inl (some (.int 0)), h)) : tr_L g d m_X9_verdictAt 30 [w0, w1] [] h r := by
  refine tr_ic 0 0 (by decide) rfl ?_
  refine tr_goto 13 44 rfl rfl rfl ?_
  exact tl_ret hL .ireturn 1 (some (.int 0)) rfl rfl rfl rfl hr
theorem sg_X9_verdictAt_34 {g : tr_g} {d : Nat} {h : ev_AH} {r : ev_O × ev_AH} {x1 : Int32} {j0 : Nat} (hL : hh_L h) (e0 : 9 + x1 = Int32.ofNat j0) (b0 : j0 < 124) (hc0 : tr_ch ((((hh_a h 100).getD j0 0).toUInt32 % 65536).toInt32)) (hr : r = (.inl (some (.int ((((hh_a h 100).getD j0 0).toUInt32 % 65536).toInt32))), h)) : tr_L g d m_X9_verdictAt 34 [some (.ref 1099), some (.int x1)] [] h r := by
  refine tr_s (.aload_n 0) 1 35 [some (.ref 1099), some (.int x1)] [.ref 1099] h rfl rfl rfl ?_
  refine tl_gr hL 9 99 8 0 100 [1100, 1101, 1102, 1103, 1104, 1105, 0, 0, 0, 0, 0, 0, 0, 0, 0, 0, 0, 0, 0, 0, 0, 1106, 0, 1107, 1108, 0, 0, 0] rfl rfl rfl rfl ?_
  refine tr_bi 9 9 (by decide) rfl ?_
  refine tr_s (.iload_n 1) 1 41 [some (.ref 1099), some (.int x1)] [.int x1, .int 9, .ref 1100] h rfl rfl rfl ?_
  refine tr_s .iadd 1 42 [some (.ref 1099), some (.int x1)] [.int (9 + x1), .ref 1100] h rfl rfl rfl ?_
  refine tl_ald hL .iaload 100 0 124 j0 (9 + x1) rfl (by decide) rfl e0 b0 (by decide) ?_
  refine tr_s .i2c 1 44 [some (.ref 1099), some (.int x1)] [.int ((((hh_a h 100).getD j0 0).toUInt32 % 65536).toInt32)] h rfl rfl rfl ?_
  exact tl_ret hL .ireturn 1 (some (.int ((((hh_a h 100).getD j0 0).toUInt32 % 65536).toInt32))) rfl rfl rfl (tr_ec rfl hc0) hr
theorem sg_X9_hungCount_0 {g : tr_g} {d : Nat} {h : ev_AH} {r : ev_O × ev_AH} {j0 : Nat} (hL : hh_L h) (e0 : 3 = Int32.ofNat j0) (b0 : j0 < 124) (hr : r = (.inl (some (.int ((hh_a (hh_si h 99 8 7 0) 100).getD j0 0))), hh_si h 99 8 7 0)) : tr_L g d m_X9_hungCount 0 [some (.ref 1099)] [] h r := by
  refine tr_s (.aload_n 0) 1 1 [some (.ref 1099)] [.ref 1099] h rfl rfl rfl ?_
  refine tr_ic 0 0 (by decide) rfl ?_
  refine tl_pf hL 41 99 8 7 [1100, 1101, 1102, 1103, 1104, 1105, 0, 0, 0, 0, 0, 0, 0, 0, 0, 0, 0, 0, 0, 0, 0, 1106, 0, 1107, 1108, 0, 0, 0] 0 .int rfl rfl rfl rfl rfl tr_oki ?_
  have hL0 := hh_L_si (sl := 7) (x := 0) hL (show hh_t[99]? = some (.inr (8, [1100, 1101, 1102, 1103, 1104, 1105, 0, 0, 0, 0, 0, 0, 0, 0, 0, 0, 0, 0, 0, 0, 0, 1106, 0, 1107, 1108, 0, 0, 0])) from rfl) rfl
  refine tr_s (.aload_n 0) 1 6 [some (.ref 1099)] [.ref 1099] (hh_si h 99 8 7 0) rfl rfl rfl ?_
  refine tl_gr hL0 9 99 8 0 100 [1100, 1101, 1102, 1103, 1104, 1105, 0, 0, 0, 0, 0, 0, 0, 0, 0, 0, 0, 0, 0, 0, 0, 1106, 0, 1107, 1108, 0, 0, 0] rfl rfl rfl rfl ?_
  refine tr_ic 3 3 (by decide) rfl ?_
  refine tl_ald hL0 .iaload 100 0 124 j0 3 rfl (by decide) rfl e0 b0 (by decide) ?_
  exact tl_ret hL0 .ireturn 1 (some (.int ((hh_a (hh_si h 99 8 7 0) 100).getD j0 0))) rfl rfl rfl rfl hr
theorem sg_X9_retrials_0 {g : tr_g} {d : Nat} {h : ev_AH} {r : ev_O × ev_AH} {j0 : Nat} (hL : hh_L h) (e0 : 4 = Int32.ofNat j0) (b0 : j0 < 124) (hr : r = (.inl (some (.int ((hh_a (hh_si h 99 8 7 0) 100).getD j0 0))), hh_si h 99 8 7 0)) : tr_L g d m_X9_retrials 0 [some (.ref 1099)] [] h r := by
  refine tr_s (.aload_n 0) 1 1 [some (.ref 1099)] [.ref 1099] h rfl rfl rfl ?_
  refine tr_ic 0 0 (by decide) rfl ?_
  refine tl_pf hL 41 99 8 7 [1100, 1101, 1102, 1103, 1104, 1105, 0, 0, 0, 0, 0, 0, 0, 0, 0, 0, 0, 0, 0, 0, 0, 1106, 0, 1107, 1108, 0, 0, 0] 0 .int rfl rfl rfl rfl rfl tr_oki ?_
  have hL0 := hh_L_si (sl := 7) (x := 0) hL (show hh_t[99]? = some (.inr (8, [1100, 1101, 1102, 1103, 1104, 1105, 0, 0, 0, 0, 0, 0, 0, 0, 0, 0, 0, 0, 0, 0, 0, 1106, 0, 1107, 1108, 0, 0, 0])) from rfl) rfl
  refine tr_s (.aload_n 0) 1 6 [some (.ref 1099)] [.ref 1099] (hh_si h 99 8 7 0) rfl rfl rfl ?_
  refine tl_gr hL0 9 99 8 0 100 [1100, 1101, 1102, 1103, 1104, 1105, 0, 0, 0, 0, 0, 0, 0, 0, 0, 0, 0, 0, 0, 0, 0, 1106, 0, 1107, 1108, 0, 0, 0] rfl rfl rfl rfl ?_
  refine tr_ic 4 4 (by decide) rfl ?_
  refine tl_ald hL0 .iaload 100 0 124 j0 4 rfl (by decide) rfl e0 b0 (by decide) ?_
  exact tl_ret hL0 .ireturn 1 (some (.int ((hh_a (hh_si h 99 8 7 0) 100).getD j0 0))) rfl rfl rfl rfl hr
theorem sg_X9_testimonies_0 {g : tr_g} {d : Nat} {h : ev_AH} {r : ev_O × ev_AH} {j0 : Nat} (hL : hh_L h) (e0 : 5 = Int32.ofNat j0) (b0 : j0 < 124) (hr : r = (.inl (some (.int ((hh_a (hh_si h 99 8 7 0) 100).getD j0 0))), hh_si h 99 8 7 0)) : tr_L g d m_X9_testimonies 0 [some (.ref 1099)] [] h r := by
  refine tr_s (.aload_n 0) 1 1 [some (.ref 1099)] [.ref 1099] h rfl rfl rfl ?_
  refine tr_ic 0 0 (by decide) rfl ?_
  refine tl_pf hL 41 99 8 7 [1100, 1101, 1102, 1103, 1104, 1105, 0, 0, 0, 0, 0, 0, 0, 0, 0, 0, 0, 0, 0, 0, 0, 1106, 0, 1107, 1108, 0, 0, 0] 0 .int rfl rfl rfl rfl rfl tr_oki ?_
  have hL0 := hh_L_si (sl := 7) (x := 0) hL (show hh_t[99]? = some (.inr (8, [1100, 1101, 1102, 1103, 1104, 1105, 0, 0, 0, 0, 0, 0, 0, 0, 0, 0, 0, 0, 0, 0, 0, 1106, 0, 1107, 1108, 0, 0, 0])) from rfl) rfl
  refine tr_s (.aload_n 0) 1 6 [some (.ref 1099)] [.ref 1099] (hh_si h 99 8 7 0) rfl rfl rfl ?_
  refine tl_gr hL0 9 99 8 0 100 [1100, 1101, 1102, 1103, 1104, 1105, 0, 0, 0, 0, 0, 0, 0, 0, 0, 0, 0, 0, 0, 0, 0, 1106, 0, 1107, 1108, 0, 0, 0] rfl rfl rfl rfl ?_
  refine tr_ic 5 5 (by decide) rfl ?_
  refine tl_ald hL0 .iaload 100 0 124 j0 5 rfl (by decide) rfl e0 b0 (by decide) ?_
  exact tl_ret hL0 .ireturn 1 (some (.int ((hh_a (hh_si h 99 8 7 0) 100).getD j0 0))) rfl rfl rfl rfl hr
theorem sg_X9_catByHeard_0 {g : tr_g} {d : Nat} {h : ev_AH} {r : ev_O × ev_AH} {x1 : Int32} (hL : hh_L h) (k : tr_L g d m_X9_catByHeard 2 [some (.ref 1099), some (.int x1), some (.int 0), none, none, none] [] h r) : tr_L g d m_X9_catByHeard 0 [some (.ref 1099), some (.int x1), none, none, none, none] [] h r := by
  refine tr_ic 0 0 (by decide) rfl ?_
  refine tr_st (.istore_n 2) 1 2 0 (.int 0) rfl rfl rfl rfl rfl rfl rfl ?_
  exact k
theorem sg_X9_catByHeard_2 {g : tr_g} {d : Nat} {h : ev_AH} {r : ev_O × ev_AH} {x1 x2 : Int32} {w3 w4 w5 : Option Value} {j0 : Nat} (hL : hh_L h) (e0 : 1 = Int32.ofNat j0) (b0 : j0 < 124) (t : ((hh_a h 100).getD j0 0) ≤ x2 → tr_L g d m_X9_catByHeard 102 [some (.ref 1099), some (.int x1), some (.int x2), w3, w4, w5] [] h r) (f : x2 < ((hh_a h 100).getD j0 0) → tr_L g d m_X9_catByHeard 12 [some (.ref 1099), some (.int x1), some (.int x2), w3, w4, w5] [] h r) : tr_L g d m_X9_catByHeard 2 [some (.ref 1099), some (.int x1), some (.int x2), w3, w4, w5] [] h r := by
  refine tr_s (.iload_n 2) 1 3 [some (.ref 1099), some (.int x1), some (.int x2), w3, w4, w5] [.int x2] h rfl rfl rfl ?_
  refine tr_s (.aload_n 0) 1 4 [some (.ref 1099), some (.int x1), some (.int x2), w3, w4, w5] [.ref 1099, .int x2] h rfl rfl rfl ?_
  refine tl_gr hL 9 99 8 0 100 [1100, 1101, 1102, 1103, 1104, 1105, 0, 0, 0, 0, 0, 0, 0, 0, 0, 0, 0, 0, 0, 0, 0, 1106, 0, 1107, 1108, 0, 0, 0] rfl rfl rfl rfl ?_
  refine tr_ic 1 1 (by decide) rfl ?_
  refine tl_ald hL .iaload 100 0 124 j0 1 rfl (by decide) rfl e0 b0 (by decide) ?_
  exact tr_if2 .ge 93 102 x2 ((hh_a h 100).getD j0 0) rfl rfl rfl (fun hc => t ((tr_ge hc).1 rfl)) (fun hc => f ((tr_ge hc).2 rfl))
theorem sg_X9_catByHeard_12 {g : tr_g} {d : Nat} {h : ev_AH} {r : ev_O × ev_AH} {x1 x2 : Int32} {w3 w4 w5 : Option Value} (hL : hh_L h) (k : tr_L g d m_X9_catByHeard 17 [some (.ref 1099), some (.int x1), some (.int x2), some (.int 0), some (.int 0), w5] [] h r) : tr_L g d m_X9_catByHeard 12 [some (.ref 1099), some (.int x1), some (.int x2), w3, w4, w5] [] h r := by
  refine tr_ic 0 0 (by decide) rfl ?_
  refine tr_st (.istore_n 3) 1 3 0 (.int 0) rfl rfl rfl rfl rfl rfl rfl ?_
  refine tr_ic 0 0 (by decide) rfl ?_
  refine tr_st (.istore 4) 2 4 0 (.int 0) rfl rfl rfl rfl rfl rfl rfl ?_
  exact k
theorem sg_X9_catByHeard_17 {g : tr_g} {d : Nat} {h : ev_AH} {r : ev_O × ev_AH} {x1 x2 x3 x4 : Int32} {w5 : Option Value} {j0 : Nat} (hL : hh_L h) (e0 : 1 = Int32.ofNat j0) (b0 : j0 < 124) (t : ((hh_a h 100).getD j0 0) ≤ x4 → tr_L g d m_X9_catByHeard 84 [some (.ref 1099), some (.int x1), some (.int x2), some (.int x3), some (.int x4), w5] [] h r) (f : x4 < ((hh_a h 100).getD j0 0) → tr_L g d m_X9_catByHeard 28 [some (.ref 1099), some (.int x1), some (.int x2), some (.int x3), some (.int x4), w5] [] h r) : tr_L g d m_X9_catByHeard 17 [some (.ref 1099), some (.int x1), some (.int x2), some (.int x3), some (.int x4), w5] [] h r := by
  refine tr_s (.iload 4) 2 19 [some (.ref 1099), some (.int x1), some (.int x2), some (.int x3), some (.int x4), w5] [.int x4] h rfl rfl rfl ?_
  refine tr_s (.aload_n 0) 1 20 [some (.ref 1099), some (.int x1), some (.int x2), some (.int x3), some (.int x4), w5] [.ref 1099, .int x4] h rfl rfl rfl ?_
  refine tl_gr hL 9 99 8 0 100 [1100, 1101, 1102, 1103, 1104, 1105, 0, 0, 0, 0, 0, 0, 0, 0, 0, 0, 0, 0, 0, 0, 0, 1106, 0, 1107, 1108, 0, 0, 0] rfl rfl rfl rfl ?_
  refine tr_ic 1 1 (by decide) rfl ?_
  refine tl_ald hL .iaload 100 0 124 j0 1 rfl (by decide) rfl e0 b0 (by decide) ?_
  exact tr_if2 .ge 59 84 x4 ((hh_a h 100).getD j0 0) rfl rfl rfl (fun hc => t ((tr_ge hc).1 rfl)) (fun hc => f ((tr_ge hc).2 rfl))
theorem sg_X9_catByHeard_28 {g : tr_g} {d : Nat} {h : ev_AH} {r : ev_O × ev_AH} {x1 x2 x3 x4 v0 v1 : Int32} {w5 : Option Value} {h1 h2 : ev_AH} (hL : hh_L h) (c_0 : tr_L g d m_X9_of 0 [some (.ref 1099), some (.int x4), some (.int 1)] [] h (.inl (some (.int v0)), h1)) (c_1 : tr_L g d m_X9_of 0 [some (.ref 1099), some (.int x2), some (.int 1)] [] h1 (.inl (some (.int v1)), h2)) (t : 0 < (v0 - v1) → tr_L g (d + 1) m_X9_catByHeard 71 [some (.ref 1099), some (.int x1), some (.int x2), some (.int x3), some (.int x4), some (.int (v0 - v1))] [.int x3] h2 r) (f : (v0 - v1) ≤ 0 → tr_L g (d + 1) m_X9_catByHeard 50 [some (.ref 1099), some (.int x1), some (.int x2), some (.int x3), some (.int x4), some (.int (v0 - v1))] [.int x3] h2 r) : tr_L g (d + 1) m_X9_catByHeard 28 [some (.ref 1099), some (.int x1), some (.int x2), some (.int x3), some (.int x4), w5] [] h r := by
  refine tr_s (.aload_n 0) 1 29 [some (.ref 1099), some (.int x1), some (.int x2), some (.int x3), some (.int x4), w5] [.ref 1099] h rfl rfl rfl ?_
  refine tr_s (.iload 4) 2 31 [some (.ref 1099), some (.int x1), some (.int x2), some (.int x3), some (.int x4), w5] [.int x4, .ref 1099] h rfl rfl rfl ?_
  refine tr_ic 1 1 (by decide) rfl ?_
  refine tr_call (.invokevirtual 74) 74 0 2 8 m_X9_of [.ref 1099, .int x4, .int 1] [] (some (.int v0)) h1 rfl rfl rfl rfl rfl rfl rfl rfl rfl (tr_cok rfl (Or.inr ⟨_, _, rfl, tr_rc (hh_rd (hh_obj hL (k := 99) rfl).1) (by decide)⟩)) c_0 ?_
  have hL0 := c_0.2
  refine tr_s (.aload_n 0) 1 36 [some (.ref 1099), some (.int x1), some (.int x2), some (.int x3), some (.int x4), w5] [.ref 1099, .int v0] h1 rfl rfl rfl ?_
  refine tr_s (.iload_n 2) 1 37 [some (.ref 1099), some (.int x1), some (.int x2), some (.int x3), some (.int x4), w5] [.int x2, .ref 1099, .int v0] h1 rfl rfl rfl ?_
  refine tr_ic 1 1 (by decide) rfl ?_
  refine tr_call (.invokevirtual 74) 74 0 2 8 m_X9_of [.ref 1099, .int x2, .int 1] [.int v0] (some (.int v1)) h2 rfl rfl rfl rfl rfl rfl rfl rfl rfl (tr_cok rfl (Or.inr ⟨_, _, rfl, tr_rc (hh_rd (hh_obj hL0 (k := 99) rfl).1) (by decide)⟩)) c_1 ?_
  have hL1 := c_1.2
  refine tr_s .isub 1 42 [some (.ref 1099), some (.int x1), some (.int x2), some (.int x3), some (.int x4), w5] [.int (v0 - v1)] h2 rfl rfl rfl ?_
  refine tr_st (.istore 5) 2 5 0 (.int (v0 - v1)) rfl rfl rfl rfl rfl rfl rfl ?_
  refine tr_s (.iload_n 3) 1 45 [some (.ref 1099), some (.int x1), some (.int x2), some (.int x3), some (.int x4), some (.int (v0 - v1))] [.int x3] h2 rfl rfl rfl ?_
  refine tr_s (.iload 5) 2 47 [some (.ref 1099), some (.int x1), some (.int x2), some (.int x3), some (.int x4), some (.int (v0 - v1))] [.int (v0 - v1), .int x3] h2 rfl rfl rfl ?_
  exact tr_if1 .gt 24 71 (v0 - v1) rfl rfl rfl (fun hc => t ((tr_gt hc).1 rfl)) (fun hc => f ((tr_gt hc).2 rfl))
theorem sg_X9_catByHeard_50 {g : tr_g} {d : Nat} {h : ev_AH} {r : ev_O × ev_AH} {x1 x2 x4 x5 s0 : Int32} {w3 : Option Value} (hL : hh_L h) (t : x5 ≠ 0 → tr_L g d m_X9_catByHeard 75 [some (.ref 1099), some (.int x1), some (.int x2), w3, some (.int x4), some (.int x5)] [.int s0] h r) (f : x5 = 0 → tr_L g d m_X9_catByHeard 55 [some (.ref 1099), some (.int x1), some (.int x2), w3, some (.int x4), some (.int x5)] [.int s0] h r) : tr_L g d m_X9_catByHeard 50 [some (.ref 1099), some (.int x1), some (.int x2), w3, some (.int x4), some (.int x5)] [.int s0] h r := by
  refine tr_s (.iload 5) 2 52 [some (.ref 1099), some (.int x1), some (.int x2), w3, some (.int x4), some (.int x5)] [.int x5, .int s0] h rfl rfl rfl ?_
  exact tr_if1 .ne 23 75 x5 rfl rfl rfl (fun hc => t ((tr_ne hc).1 rfl)) (fun hc => f ((tr_ne hc).2 rfl))
theorem sg_X9_catByHeard_55 {g : tr_g} {d : Nat} {h : ev_AH} {r : ev_O × ev_AH} {x1 x2 x4 s0 v0 v1 : Int32} {w3 w5 : Option Value} {h1 h2 : ev_AH} (hL : hh_L h) (c_0 : tr_L g d m_X9_of 0 [some (.ref 1099), some (.int x4), some (.int 0)] [] h (.inl (some (.int v0)), h1)) (c_1 : tr_L g d m_X9_of 0 [some (.ref 1099), some (.int x2), some (.int 0)] [] h1 (.inl (some (.int v1)), h2)) (t : v1 ≤ v0 → tr_L g (d + 1) m_X9_catByHeard 75 [some (.ref 1099), some (.int x1), some (.int x2), w3, some (.int x4), w5] [.int s0] h2 r) (f : v0 < v1 → tr_L g (d + 1) m_X9_catByHeard 71 [some (.ref 1099), some (.int x1), some (.int x2), w3, some (.int x4), w5] [.int s0] h2 r) : tr_L g (d + 1) m_X9_catByHeard 55 [some (.ref 1099), some (.int x1), some (.int x2), w3, some (.int x4), w5] [.int s0] h r := by
  refine tr_s (.aload_n 0) 1 56 [some (.ref 1099), some (.int x1), some (.int x2), w3, some (.int x4), w5] [.ref 1099, .int s0] h rfl rfl rfl ?_
  refine tr_s (.iload 4) 2 58 [some (.ref 1099), some (.int x1), some (.int x2), w3, some (.int x4), w5] [.int x4, .ref 1099, .int s0] h rfl rfl rfl ?_
  refine tr_ic 0 0 (by decide) rfl ?_
  refine tr_call (.invokevirtual 74) 74 0 2 8 m_X9_of [.ref 1099, .int x4, .int 0] [.int s0] (some (.int v0)) h1 rfl rfl rfl rfl rfl rfl rfl rfl rfl (tr_cok rfl (Or.inr ⟨_, _, rfl, tr_rc (hh_rd (hh_obj hL (k := 99) rfl).1) (by decide)⟩)) c_0 ?_
  have hL0 := c_0.2
  refine tr_s (.aload_n 0) 1 63 [some (.ref 1099), some (.int x1), some (.int x2), w3, some (.int x4), w5] [.ref 1099, .int v0, .int s0] h1 rfl rfl rfl ?_
  refine tr_s (.iload_n 2) 1 64 [some (.ref 1099), some (.int x1), some (.int x2), w3, some (.int x4), w5] [.int x2, .ref 1099, .int v0, .int s0] h1 rfl rfl rfl ?_
  refine tr_ic 0 0 (by decide) rfl ?_
  refine tr_call (.invokevirtual 74) 74 0 2 8 m_X9_of [.ref 1099, .int x2, .int 0] [.int v0, .int s0] (some (.int v1)) h2 rfl rfl rfl rfl rfl rfl rfl rfl rfl (tr_cok rfl (Or.inr ⟨_, _, rfl, tr_rc (hh_rd (hh_obj hL0 (k := 99) rfl).1) (by decide)⟩)) c_1 ?_
  have hL1 := c_1.2
  exact tr_if2 .ge 7 75 v0 v1 rfl rfl rfl (fun hc => t ((tr_ge hc).1 rfl)) (fun hc => f ((tr_ge hc).2 rfl))
theorem sg_X9_catByHeard_71 {g : tr_g} {d : Nat} {h : ev_AH} {r : ev_O × ev_AH} {x1 x2 x4 s0 : Int32} {w3 w5 : Option Value} (hL : hh_L h) (k : tr_L g d m_X9_catByHeard 17 [some (.ref 1099), some (.int x1), some (.int x2), some (.int (s0 + 1)), some (.int (x4 + 1)), w5] [] h r) : tr_L g d m_X9_catByHeard 71 [some (.ref 1099), some (.int x1), some (.int x2), w3, some (.int x4), w5] [.int s0] h r := by
  refine tr_ic 1 1 (by decide) rfl ?_
  refine tr_goto 4 76 rfl rfl rfl ?_
  refine tr_s .iadd 1 77 [some (.ref 1099), some (.int x1), some (.int x2), w3, some (.int x4), w5] [.int (s0 + 1)] h rfl rfl rfl ?_
  refine tr_st (.istore_n 3) 1 3 0 (.int (s0 + 1)) rfl rfl rfl rfl rfl rfl rfl ?_
  refine tr_inc 4 1 x4 1 (by decide) rfl rfl rfl ?_
  refine tr_goto (-64) 17 rfl rfl rfl ?_
  exact k
theorem sg_X9_catByHeard_75 {g : tr_g} {d : Nat} {h : ev_AH} {r : ev_O × ev_AH} {x1 x2 x4 s0 : Int32} {w3 w5 : Option Value} (hL : hh_L h) (k : tr_L g d m_X9_catByHeard 17 [some (.ref 1099), some (.int x1), some (.int x2), some (.int (s0 + 0)), some (.int (x4 + 1)), w5] [] h r) : tr_L g d m_X9_catByHeard 75 [some (.ref 1099), some (.int x1), some (.int x2), w3, some (.int x4), w5] [.int s0] h r := by
  refine tr_ic 0 0 (by decide) rfl ?_
  refine tr_s .iadd 1 77 [some (.ref 1099), some (.int x1), some (.int x2), w3, some (.int x4), w5] [.int (s0 + 0)] h rfl rfl rfl ?_
  refine tr_st (.istore_n 3) 1 3 0 (.int (s0 + 0)) rfl rfl rfl rfl rfl rfl rfl ?_
  refine tr_inc 4 1 x4 1 (by decide) rfl rfl rfl ?_
  refine tr_goto (-64) 17 rfl rfl rfl ?_
  exact k
theorem sg_X9_catByHeard_84 {g : tr_g} {d : Nat} {h : ev_AH} {r : ev_O × ev_AH} {x1 x2 x3 : Int32} {w4 w5 : Option Value} (hL : hh_L h) (t : x3 ≠ x1 → tr_L g d m_X9_catByHeard 96 [some (.ref 1099), some (.int x1), some (.int x2), some (.int x3), w4, w5] [] h r) (f : x3 = x1 → tr_L g d m_X9_catByHeard 89 [some (.ref 1099), some (.int x1), some (.int x2), some (.int x3), w4, w5] [] h r) : tr_L g d m_X9_catByHeard 84 [some (.ref 1099), some (.int x1), some (.int x2), some (.int x3), w4, w5] [] h r := by
  refine tr_s (.iload_n 3) 1 85 [some (.ref 1099), some (.int x1), some (.int x2), some (.int x3), w4, w5] [.int x3] h rfl rfl rfl ?_
  refine tr_s (.iload_n 1) 1 86 [some (.ref 1099), some (.int x1), some (.int x2), some (.int x3), w4, w5] [.int x1, .int x3] h rfl rfl rfl ?_
  exact tr_if2 .ne 10 96 x3 x1 rfl rfl rfl (fun hc => t ((tr_ne hc).1 rfl)) (fun hc => f ((tr_ne hc).2 rfl))
theorem sg_X9_catByHeard_89 {g : tr_g} {d : Nat} {h : ev_AH} {r : ev_O × ev_AH} {w1 w3 w4 w5 : Option Value} {x2 : Int32} (hL : hh_L h) (hr : r = (.inl (some (.int x2)), hh_si h 99 8 7 0)) : tr_L g d m_X9_catByHeard 89 [some (.ref 1099), w1, some (.int x2), w3, w4, w5] [] h r := by
  refine tr_s (.aload_n 0) 1 90 [some (.ref 1099), w1, some (.int x2), w3, w4, w5] [.ref 1099] h rfl rfl rfl ?_
  refine tr_ic 0 0 (by decide) rfl ?_
  refine tl_pf hL 41 99 8 7 [1100, 1101, 1102, 1103, 1104, 1105, 0, 0, 0, 0, 0, 0, 0, 0, 0, 0, 0, 0, 0, 0, 0, 1106, 0, 1107, 1108, 0, 0, 0] 0 .int rfl rfl rfl rfl rfl tr_oki ?_
  have hL0 := hh_L_si (sl := 7) (x := 0) hL (show hh_t[99]? = some (.inr (8, [1100, 1101, 1102, 1103, 1104, 1105, 0, 0, 0, 0, 0, 0, 0, 0, 0, 0, 0, 0, 0, 0, 0, 1106, 0, 1107, 1108, 0, 0, 0])) from rfl) rfl
  refine tr_s (.iload_n 2) 1 95 [some (.ref 1099), w1, some (.int x2), w3, w4, w5] [.int x2] (hh_si h 99 8 7 0) rfl rfl rfl ?_
  exact tl_ret hL0 .ireturn 1 (some (.int x2)) rfl rfl rfl rfl hr
theorem sg_X9_catByHeard_96 {g : tr_g} {d : Nat} {h : ev_AH} {r : ev_O × ev_AH} {x1 x2 : Int32} {w3 w4 w5 : Option Value} (hL : hh_L h) (k : tr_L g d m_X9_catByHeard 2 [some (.ref 1099), some (.int x1), some (.int (x2 + 1)), w3, w4, w5] [] h r) : tr_L g d m_X9_catByHeard 96 [some (.ref 1099), some (.int x1), some (.int x2), w3, w4, w5] [] h r := by
  refine tr_inc 2 1 x2 1 (by decide) rfl rfl rfl ?_
  refine tr_goto (-97) 2 rfl rfl rfl ?_
  exact k
theorem sg_X9_catByHeard_102 {g : tr_g} {d : Nat} {h : ev_AH} {r : ev_O × ev_AH} {w1 w2 w3 w4 w5 : Option Value} (hL : hh_L h) (hr : r = (.inl (some (.int 0)), hh_si h 99 8 7 1)) : tr_L g d m_X9_catByHeard 102 [some (.ref 1099), w1, w2, w3, w4, w5] [] h r := by
  refine tr_s (.aload_n 0) 1 103 [some (.ref 1099), w1, w2, w3, w4, w5] [.ref 1099] h rfl rfl rfl ?_
  refine tr_ic 1 1 (by decide) rfl ?_
  refine tl_pf hL 41 99 8 7 [1100, 1101, 1102, 1103, 1104, 1105, 0, 0, 0, 0, 0, 0, 0, 0, 0, 0, 0, 0, 0, 0, 0, 1106, 0, 1107, 1108, 0, 0, 0] 1 .int rfl rfl rfl rfl rfl tr_oki ?_
  have hL0 := hh_L_si (sl := 7) (x := 1) hL (show hh_t[99]? = some (.inr (8, [1100, 1101, 1102, 1103, 1104, 1105, 0, 0, 0, 0, 0, 0, 0, 0, 0, 0, 0, 0, 0, 0, 0, 1106, 0, 1107, 1108, 0, 0, 0])) from rfl) rfl
  refine tr_ic 0 0 (by decide) rfl ?_
  exact tl_ret hL0 .ireturn 1 (some (.int 0)) rfl rfl rfl rfl hr
theorem sg_X9_meanHeard_0 {g : tr_g} {d : Nat} {h : ev_AH} {r : ev_O × ev_AH} {j0 : Nat} (hL : hh_L h) (e0 : 1 = Int32.ofNat j0) (b0 : j0 < 124) (t : ((hh_a h 100).getD j0 0) ≠ 0 → tr_L g d m_X9_meanHeard 14 [some (.ref 1099)] [.ref 1099] h r) (f : ((hh_a h 100).getD j0 0) = 0 → tr_L g d m_X9_meanHeard 10 [some (.ref 1099)] [.ref 1099] h r) : tr_L g d m_X9_meanHeard 0 [some (.ref 1099)] [] h r := by
  refine tr_s (.aload_n 0) 1 1 [some (.ref 1099)] [.ref 1099] h rfl rfl rfl ?_
  refine tr_s (.aload_n 0) 1 2 [some (.ref 1099)] [.ref 1099, .ref 1099] h rfl rfl rfl ?_
  refine tl_gr hL 9 99 8 0 100 [1100, 1101, 1102, 1103, 1104, 1105, 0, 0, 0, 0, 0, 0, 0, 0, 0, 0, 0, 0, 0, 0, 0, 1106, 0, 1107, 1108, 0, 0, 0] rfl rfl rfl rfl ?_
  refine tr_ic 1 1 (by decide) rfl ?_
  refine tl_ald hL .iaload 100 0 124 j0 1 rfl (by decide) rfl e0 b0 (by decide) ?_
  exact tr_if1 .ne 7 14 ((hh_a h 100).getD j0 0) rfl rfl rfl (fun hc => t ((tr_ne hc).1 rfl)) (fun hc => f ((tr_ne hc).2 rfl))
theorem sg_X9_meanHeard_10 {g : tr_g} {d : Nat} {h : ev_AH} {r : ev_O × ev_AH} {h1 : ev_AH} {v0 : Int32} (hL : hh_L h) (c_0 : tr_L g d m_X9_isThrown 0 [some (.ref 1099), some (.int 1), some (.int 1)] [] h (.inl (some (.int v0)), h1)) (t : v0 = 0 → tr_L g (d + 1) m_X9_meanHeard 26 [some (.ref 1099)] [] h1 r) (f : v0 ≠ 0 → tr_L g (d + 1) m_X9_meanHeard 22 [some (.ref 1099)] [] h1 r) : tr_L g (d + 1) m_X9_meanHeard 10 [some (.ref 1099)] [.ref 1099] h r := by
  refine tr_ic 1 1 (by decide) rfl ?_
  refine tr_goto 4 15 rfl rfl rfl ?_
  refine tr_ic 1 1 (by decide) rfl ?_
  refine tr_call (.invokevirtual 66) 66 0 2 8 m_X9_isThrown [.ref 1099, .int 1, .int 1] [] (some (.int v0)) h1 rfl rfl rfl rfl rfl rfl rfl rfl rfl (tr_cok rfl (Or.inr ⟨_, _, rfl, tr_rc (hh_rd (hh_obj hL (k := 99) rfl).1) (by decide)⟩)) c_0 ?_
  have hL0 := c_0.2
  exact tr_if1 .eq 7 26 v0 rfl rfl rfl (fun hc => t ((tr_eq hc).1 rfl)) (fun hc => f ((tr_eq hc).2 rfl))
theorem sg_X9_meanHeard_14 {g : tr_g} {d : Nat} {h : ev_AH} {r : ev_O × ev_AH} {h1 : ev_AH} {v0 : Int32} (hL : hh_L h) (c_0 : tr_L g d m_X9_isThrown 0 [some (.ref 1099), some (.int 0), some (.int 1)] [] h (.inl (some (.int v0)), h1)) (t : v0 = 0 → tr_L g (d + 1) m_X9_meanHeard 26 [some (.ref 1099)] [] h1 r) (f : v0 ≠ 0 → tr_L g (d + 1) m_X9_meanHeard 22 [some (.ref 1099)] [] h1 r) : tr_L g (d + 1) m_X9_meanHeard 14 [some (.ref 1099)] [.ref 1099] h r := by
  refine tr_ic 0 0 (by decide) rfl ?_
  refine tr_ic 1 1 (by decide) rfl ?_
  refine tr_call (.invokevirtual 66) 66 0 2 8 m_X9_isThrown [.ref 1099, .int 0, .int 1] [] (some (.int v0)) h1 rfl rfl rfl rfl rfl rfl rfl rfl rfl (tr_cok rfl (Or.inr ⟨_, _, rfl, tr_rc (hh_rd (hh_obj hL (k := 99) rfl).1) (by decide)⟩)) c_0 ?_
  have hL0 := c_0.2
  exact tr_if1 .eq 7 26 v0 rfl rfl rfl (fun hc => t ((tr_eq hc).1 rfl)) (fun hc => f ((tr_eq hc).2 rfl))
theorem sg_X9_meanHeard_22 {g : tr_g} {d : Nat} {h : ev_AH} {r : ev_O × ev_AH} {w0 : Option Value} (hL : hh_L h) (hr : r = (.inl (some (.double FP.dconst0)), h)) : tr_L g d m_X9_meanHeard 22 [w0] [] h r := by
  refine tr_s (.dconst 0) 1 23 [w0] [.double FP.dconst0] h rfl rfl rfl ?_
  refine tr_goto 18 41 rfl rfl rfl ?_
  exact tl_ret hL .dreturn 1 (some (.double FP.dconst0)) rfl rfl rfl rfl hr
theorem sg_X9_meanHeard_26 {g : tr_g} {d : Nat} {h : ev_AH} {r : ev_O × ev_AH} {j0 j1 : Nat} (hL : hh_L h) (e0 : 5 = Int32.ofNat j0) (b0 : j0 < 124) (e1 : 1 = Int32.ofNat j1) (b1 : j1 < 124) (nn0 : FP.ddiv (FP.i2d ((hh_a h 100).getD j0 0)) (FP.i2d ((hh_a h 100).getD j1 0)) &&& 0x7fffffffffffffff ≤ 0x7ff0000000000000) (hr : r = (.inl (some (.double (FP.ddiv (FP.i2d ((hh_a h 100).getD j0 0)) (FP.i2d ((hh_a h 100).getD j1 0))))), h)) : tr_L g d m_X9_meanHeard 26 [some (.ref 1099)] [] h r := by
  refine tr_s (.aload_n 0) 1 27 [some (.ref 1099)] [.ref 1099] h rfl rfl rfl ?_
  refine tl_gr hL 9 99 8 0 100 [1100, 1101, 1102, 1103, 1104, 1105, 0, 0, 0, 0, 0, 0, 0, 0, 0, 0, 0, 0, 0, 0, 0, 1106, 0, 1107, 1108, 0, 0, 0] rfl rfl rfl rfl ?_
  refine tr_ic 5 5 (by decide) rfl ?_
  refine tl_ald hL .iaload 100 0 124 j0 5 rfl (by decide) rfl e0 b0 (by decide) ?_
  refine tr_s .i2d 1 33 [some (.ref 1099)] [.double (FP.i2d ((hh_a h 100).getD j0 0))] h rfl rfl rfl ?_
  refine tr_s (.aload_n 0) 1 34 [some (.ref 1099)] [.ref 1099, .double (FP.i2d ((hh_a h 100).getD j0 0))] h rfl rfl rfl ?_
  refine tl_gr hL 9 99 8 0 100 [1100, 1101, 1102, 1103, 1104, 1105, 0, 0, 0, 0, 0, 0, 0, 0, 0, 0, 0, 0, 0, 0, 0, 1106, 0, 1107, 1108, 0, 0, 0] rfl rfl rfl rfl ?_
  refine tr_ic 1 1 (by decide) rfl ?_
  refine tl_ald hL .iaload 100 0 124 j1 1 rfl (by decide) rfl e1 b1 (by decide) ?_
  refine tr_s .i2d 1 40 [some (.ref 1099)] [.double (FP.i2d ((hh_a h 100).getD j1 0)), .double (FP.i2d ((hh_a h 100).getD j0 0))] h rfl rfl rfl ?_
  refine tr_s .ddiv 1 41 [some (.ref 1099)] [.double (FP.ddiv (FP.i2d ((hh_a h 100).getD j0 0)) (FP.i2d ((hh_a h 100).getD j1 0)))] h rfl rfl (by simp only [Option.toList, List.cons_append, List.nil_append, ev_s, ev_ldi, ev_sti, ev_p, decide_eq_true nn0, cond_true]) ?_
  exact tl_ret hL .dreturn 1 (some (.double (FP.ddiv (FP.i2d ((hh_a h 100).getD j0 0)) (FP.i2d ((hh_a h 100).getD j1 0))))) rfl rfl rfl rfl hr
theorem sg_X9_hungShare_0 {g : tr_g} {d : Nat} {h : ev_AH} {r : ev_O × ev_AH} {j0 : Nat} (hL : hh_L h) (e0 : 2 = Int32.ofNat j0) (b0 : j0 < 124) (t : ((hh_a h 100).getD j0 0) ≠ 0 → tr_L g d m_X9_hungShare 14 [some (.ref 1099)] [.ref 1099] h r) (f : ((hh_a h 100).getD j0 0) = 0 → tr_L g d m_X9_hungShare 10 [some (.ref 1099)] [.ref 1099] h r) : tr_L g d m_X9_hungShare 0 [some (.ref 1099)] [] h r := by
  refine tr_s (.aload_n 0) 1 1 [some (.ref 1099)] [.ref 1099] h rfl rfl rfl ?_
  refine tr_s (.aload_n 0) 1 2 [some (.ref 1099)] [.ref 1099, .ref 1099] h rfl rfl rfl ?_
  refine tl_gr hL 9 99 8 0 100 [1100, 1101, 1102, 1103, 1104, 1105, 0, 0, 0, 0, 0, 0, 0, 0, 0, 0, 0, 0, 0, 0, 0, 1106, 0, 1107, 1108, 0, 0, 0] rfl rfl rfl rfl ?_
  refine tr_ic 2 2 (by decide) rfl ?_
  refine tl_ald hL .iaload 100 0 124 j0 2 rfl (by decide) rfl e0 b0 (by decide) ?_
  exact tr_if1 .ne 7 14 ((hh_a h 100).getD j0 0) rfl rfl rfl (fun hc => t ((tr_ne hc).1 rfl)) (fun hc => f ((tr_ne hc).2 rfl))
theorem sg_X9_hungShare_10 {g : tr_g} {d : Nat} {h : ev_AH} {r : ev_O × ev_AH} {h1 : ev_AH} {v0 : Int32} (hL : hh_L h) (c_0 : tr_L g d m_X9_isThrown 0 [some (.ref 1099), some (.int 1), some (.int 1)] [] h (.inl (some (.int v0)), h1)) (t : v0 = 0 → tr_L g (d + 1) m_X9_hungShare 26 [some (.ref 1099)] [] h1 r) (f : v0 ≠ 0 → tr_L g (d + 1) m_X9_hungShare 22 [some (.ref 1099)] [] h1 r) : tr_L g (d + 1) m_X9_hungShare 10 [some (.ref 1099)] [.ref 1099] h r := by
  refine tr_ic 1 1 (by decide) rfl ?_
  refine tr_goto 4 15 rfl rfl rfl ?_
  refine tr_ic 1 1 (by decide) rfl ?_
  refine tr_call (.invokevirtual 66) 66 0 2 8 m_X9_isThrown [.ref 1099, .int 1, .int 1] [] (some (.int v0)) h1 rfl rfl rfl rfl rfl rfl rfl rfl rfl (tr_cok rfl (Or.inr ⟨_, _, rfl, tr_rc (hh_rd (hh_obj hL (k := 99) rfl).1) (by decide)⟩)) c_0 ?_
  have hL0 := c_0.2
  exact tr_if1 .eq 7 26 v0 rfl rfl rfl (fun hc => t ((tr_eq hc).1 rfl)) (fun hc => f ((tr_eq hc).2 rfl))
theorem sg_X9_hungShare_14 {g : tr_g} {d : Nat} {h : ev_AH} {r : ev_O × ev_AH} {h1 : ev_AH} {v0 : Int32} (hL : hh_L h) (c_0 : tr_L g d m_X9_isThrown 0 [some (.ref 1099), some (.int 0), some (.int 1)] [] h (.inl (some (.int v0)), h1)) (t : v0 = 0 → tr_L g (d + 1) m_X9_hungShare 26 [some (.ref 1099)] [] h1 r) (f : v0 ≠ 0 → tr_L g (d + 1) m_X9_hungShare 22 [some (.ref 1099)] [] h1 r) : tr_L g (d + 1) m_X9_hungShare 14 [some (.ref 1099)] [.ref 1099] h r := by
  refine tr_ic 0 0 (by decide) rfl ?_
  refine tr_ic 1 1 (by decide) rfl ?_
  refine tr_call (.invokevirtual 66) 66 0 2 8 m_X9_isThrown [.ref 1099, .int 0, .int 1] [] (some (.int v0)) h1 rfl rfl rfl rfl rfl rfl rfl rfl rfl (tr_cok rfl (Or.inr ⟨_, _, rfl, tr_rc (hh_rd (hh_obj hL (k := 99) rfl).1) (by decide)⟩)) c_0 ?_
  have hL0 := c_0.2
  exact tr_if1 .eq 7 26 v0 rfl rfl rfl (fun hc => t ((tr_eq hc).1 rfl)) (fun hc => f ((tr_eq hc).2 rfl))
theorem sg_X9_hungShare_22 {g : tr_g} {d : Nat} {h : ev_AH} {r : ev_O × ev_AH} {w0 : Option Value} (hL : hh_L h) (hr : r = (.inl (some (.float FP.fconst0)), h)) : tr_L g d m_X9_hungShare 22 [w0] [] h r := by
  refine tr_s (.fconst 0) 1 23 [w0] [.float FP.fconst0] h rfl rfl rfl ?_
  refine tr_goto 18 41 rfl rfl rfl ?_
  exact tl_ret hL .freturn 1 (some (.float FP.fconst0)) rfl rfl rfl rfl hr
theorem sg_X9_hungShare_26 {g : tr_g} {d : Nat} {h : ev_AH} {r : ev_O × ev_AH} {j0 j1 : Nat} (hL : hh_L h) (e0 : 3 = Int32.ofNat j0) (b0 : j0 < 124) (e1 : 2 = Int32.ofNat j1) (b1 : j1 < 124) (nn0 : FP.fdiv (FP.i2f ((hh_a h 100).getD j0 0)) (FP.i2f ((hh_a h 100).getD j1 0)) &&& 0x7fffffff ≤ 0x7f800000) (hr : r = (.inl (some (.float (FP.fdiv (FP.i2f ((hh_a h 100).getD j0 0)) (FP.i2f ((hh_a h 100).getD j1 0))))), h)) : tr_L g d m_X9_hungShare 26 [some (.ref 1099)] [] h r := by
  refine tr_s (.aload_n 0) 1 27 [some (.ref 1099)] [.ref 1099] h rfl rfl rfl ?_
  refine tl_gr hL 9 99 8 0 100 [1100, 1101, 1102, 1103, 1104, 1105, 0, 0, 0, 0, 0, 0, 0, 0, 0, 0, 0, 0, 0, 0, 0, 1106, 0, 1107, 1108, 0, 0, 0] rfl rfl rfl rfl ?_
  refine tr_ic 3 3 (by decide) rfl ?_
  refine tl_ald hL .iaload 100 0 124 j0 3 rfl (by decide) rfl e0 b0 (by decide) ?_
  refine tr_s .i2f 1 33 [some (.ref 1099)] [.float (FP.i2f ((hh_a h 100).getD j0 0))] h rfl rfl rfl ?_
  refine tr_s (.aload_n 0) 1 34 [some (.ref 1099)] [.ref 1099, .float (FP.i2f ((hh_a h 100).getD j0 0))] h rfl rfl rfl ?_
  refine tl_gr hL 9 99 8 0 100 [1100, 1101, 1102, 1103, 1104, 1105, 0, 0, 0, 0, 0, 0, 0, 0, 0, 0, 0, 0, 0, 0, 0, 1106, 0, 1107, 1108, 0, 0, 0] rfl rfl rfl rfl ?_
  refine tr_ic 2 2 (by decide) rfl ?_
  refine tl_ald hL .iaload 100 0 124 j1 2 rfl (by decide) rfl e1 b1 (by decide) ?_
  refine tr_s .i2f 1 40 [some (.ref 1099)] [.float (FP.i2f ((hh_a h 100).getD j1 0)), .float (FP.i2f ((hh_a h 100).getD j0 0))] h rfl rfl rfl ?_
  refine tr_s .fdiv 1 41 [some (.ref 1099)] [.float (FP.fdiv (FP.i2f ((hh_a h 100).getD j0 0)) (FP.i2f ((hh_a h 100).getD j1 0)))] h rfl rfl (by simp only [Option.toList, List.cons_append, List.nil_append, ev_s, ev_ldi, ev_sti, ev_p, decide_eq_true nn0, cond_true]) ?_
  exact tl_ret hL .freturn 1 (some (.float (FP.fdiv (FP.i2f ((hh_a h 100).getD j0 0)) (FP.i2f ((hh_a h 100).getD j1 0))))) rfl rfl rfl rfl hr
theorem sg_X9_isConsistent_0 {g : tr_g} {d : Nat} {h : ev_AH} {r : ev_O × ev_AH} (hL : hh_L h) (k : tr_L g d m_X9_isConsistent 9 [some (.ref 1099), some (.int 0), some (.int 0)] [] (hh_si h 99 8 7 0) r) : tr_L g d m_X9_isConsistent 0 [some (.ref 1099), none, none] [] h r := by
  refine tr_s (.aload_n 0) 1 1 [some (.ref 1099), none, none] [.ref 1099] h rfl rfl rfl ?_
  refine tr_ic 0 0 (by decide) rfl ?_
  refine tl_pf hL 41 99 8 7 [1100, 1101, 1102, 1103, 1104, 1105, 0, 0, 0, 0, 0, 0, 0, 0, 0, 0, 0, 0, 0, 0, 0, 1106, 0, 1107, 1108, 0, 0, 0] 0 .int rfl rfl rfl rfl rfl tr_oki ?_
  have hL0 := hh_L_si (sl := 7) (x := 0) hL (show hh_t[99]? = some (.inr (8, [1100, 1101, 1102, 1103, 1104, 1105, 0, 0, 0, 0, 0, 0, 0, 0, 0, 0, 0, 0, 0, 0, 0, 1106, 0, 1107, 1108, 0, 0, 0])) from rfl) rfl
  refine tr_ic 0 0 (by decide) rfl ?_
  refine tr_st (.istore_n 1) 1 1 0 (.int 0) rfl rfl rfl rfl rfl rfl rfl ?_
  refine tr_ic 0 0 (by decide) rfl ?_
  refine tr_st (.istore_n 2) 1 2 0 (.int 0) rfl rfl rfl rfl rfl rfl rfl ?_
  exact k
theorem sg_X9_isConsistent_9 {g : tr_g} {d : Nat} {h : ev_AH} {r : ev_O × ev_AH} {x1 x2 : Int32} {j0 : Nat} (hL : hh_L h) (e0 : 1 = Int32.ofNat j0) (b0 : j0 < 124) (t : ((hh_a h 100).getD j0 0) ≤ x2 → tr_L g d m_X9_isConsistent 34 [some (.ref 1099), some (.int x1), some (.int x2)] [] h r) (f : x2 < ((hh_a h 100).getD j0 0) → tr_L g d m_X9_isConsistent 19 [some (.ref 1099), some (.int x1), some (.int x2)] [] h r) : tr_L g d m_X9_isConsistent 9 [some (.ref 1099), some (.int x1), some (.int x2)] [] h r := by
  refine tr_s (.iload_n 2) 1 10 [some (.ref 1099), some (.int x1), some (.int x2)] [.int x2] h rfl rfl rfl ?_
  refine tr_s (.aload_n 0) 1 11 [some (.ref 1099), some (.int x1), some (.int x2)] [.ref 1099, .int x2] h rfl rfl rfl ?_
  refine tl_gr hL 9 99 8 0 100 [1100, 1101, 1102, 1103, 1104, 1105, 0, 0, 0, 0, 0, 0, 0, 0, 0, 0, 0, 0, 0, 0, 0, 1106, 0, 1107, 1108, 0, 0, 0] rfl rfl rfl rfl ?_
  refine tr_ic 1 1 (by decide) rfl ?_
  refine tl_ald hL .iaload 100 0 124 j0 1 rfl (by decide) rfl e0 b0 (by decide) ?_
  exact tr_if2 .ge 18 34 x2 ((hh_a h 100).getD j0 0) rfl rfl rfl (fun hc => t ((tr_ge hc).1 rfl)) (fun hc => f ((tr_ge hc).2 rfl))
theorem sg_X9_isConsistent_19 {g : tr_g} {d : Nat} {h : ev_AH} {r : ev_O × ev_AH} {x1 x2 v0 : Int32} {h1 : ev_AH} (hL : hh_L h) (c_0 : tr_L g d m_X9_of 0 [some (.ref 1099), some (.int x2), some (.int 1)] [] h (.inl (some (.int v0)), h1)) (k : tr_L g (d + 1) m_X9_isConsistent 9 [some (.ref 1099), some (.int (x1 + v0)), some (.int (x2 + 1))] [] h1 r) : tr_L g (d + 1) m_X9_isConsistent 19 [some (.ref 1099), some (.int x1), some (.int x2)] [] h r := by
  refine tr_s (.iload_n 1) 1 20 [some (.ref 1099), some (.int x1), some (.int x2)] [.int x1] h rfl rfl rfl ?_
  refine tr_s (.aload_n 0) 1 21 [some (.ref 1099), some (.int x1), some (.int x2)] [.ref 1099, .int x1] h rfl rfl rfl ?_
  refine tr_s (.iload_n 2) 1 22 [some (.ref 1099), some (.int x1), some (.int x2)] [.int x2, .ref 1099, .int x1] h rfl rfl rfl ?_
  refine tr_ic 1 1 (by decide) rfl ?_
  refine tr_call (.invokevirtual 74) 74 0 2 8 m_X9_of [.ref 1099, .int x2, .int 1] [.int x1] (some (.int v0)) h1 rfl rfl rfl rfl rfl rfl rfl rfl rfl (tr_cok rfl (Or.inr ⟨_, _, rfl, tr_rc (hh_rd (hh_obj hL (k := 99) rfl).1) (by decide)⟩)) c_0 ?_
  have hL0 := c_0.2
  refine tr_s .iadd 1 27 [some (.ref 1099), some (.int x1), some (.int x2)] [.int (x1 + v0)] h1 rfl rfl rfl ?_
  refine tr_st (.istore_n 1) 1 1 0 (.int (x1 + v0)) rfl rfl rfl rfl rfl rfl rfl ?_
  refine tr_inc 2 1 x2 1 (by decide) rfl rfl rfl ?_
  refine tr_goto (-22) 9 rfl rfl rfl ?_
  exact k
theorem sg_X9_isConsistent_34 {g : tr_g} {d : Nat} {h : ev_AH} {r : ev_O × ev_AH} {x1 : Int32} {w2 : Option Value} {j0 : Nat} (hL : hh_L h) (e0 : 5 = Int32.ofNat j0) (b0 : j0 < 124) (t : x1 ≠ ((hh_a h 100).getD j0 0) → tr_L g d m_X9_isConsistent 48 [some (.ref 1099), some (.int x1), w2] [] h r) (f : x1 = ((hh_a h 100).getD j0 0) → tr_L g d m_X9_isConsistent 44 [some (.ref 1099), some (.int x1), w2] [] h r) : tr_L g d m_X9_isConsistent 34 [some (.ref 1099), some (.int x1), w2] [] h r := by
  refine tr_s (.iload_n 1) 1 35 [some (.ref 1099), some (.int x1), w2] [.int x1] h rfl rfl rfl ?_
  refine tr_s (.aload_n 0) 1 36 [some (.ref 1099), some (.int x1), w2] [.ref 1099, .int x1] h rfl rfl rfl ?_
  refine tl_gr hL 9 99 8 0 100 [1100, 1101, 1102, 1103, 1104, 1105, 0, 0, 0, 0, 0, 0, 0, 0, 0, 0, 0, 0, 0, 0, 0, 1106, 0, 1107, 1108, 0, 0, 0] rfl rfl rfl rfl ?_
  refine tr_ic 5 5 (by decide) rfl ?_
  refine tl_ald hL .iaload 100 0 124 j0 5 rfl (by decide) rfl e0 b0 (by decide) ?_
  exact tr_if2 .ne 7 48 x1 ((hh_a h 100).getD j0 0) rfl rfl rfl (fun hc => t ((tr_ne hc).1 rfl)) (fun hc => f ((tr_ne hc).2 rfl))
theorem sg_X9_isConsistent_44 {g : tr_g} {d : Nat} {h : ev_AH} {r : ev_O × ev_AH} {w0 w1 w2 : Option Value} (hL : hh_L h) (hr : r = (.inl (some (.int 1)), h)) : tr_L g d m_X9_isConsistent 44 [w0, w1, w2] [] h r := by
  refine tr_ic 1 1 (by decide) rfl ?_
  refine tr_goto 4 49 rfl rfl rfl ?_
  exact tl_ret hL .ireturn 1 (some (.int 1)) rfl rfl rfl rfl hr
theorem sg_X9_isConsistent_48 {g : tr_g} {d : Nat} {h : ev_AH} {r : ev_O × ev_AH} {w0 w1 w2 : Option Value} (hL : hh_L h) (hr : r = (.inl (some (.int 0)), h)) : tr_L g d m_X9_isConsistent 48 [w0, w1, w2] [] h r := by
  refine tr_ic 0 0 (by decide) rfl ?_
  exact tl_ret hL .ireturn 1 (some (.int 0)) rfl rfl rfl rfl hr
theorem sg_X9_writeRow_0 {g : tr_g} {d : Nat} {h : ev_AH} {r : ev_O × ev_AH} {x1 v0 : Int32} {h1 : ev_AH} (hL : hh_L h) (c_0 : tr_L g d m_X9_isIn 0 [some (.int x1), some (.int 0), some (.int 4)] [] h (.inl (some (.int v0)), h1)) (t : v0 ≠ 0 → tr_L g (d + 1) m_X9_writeRow 14 [some (.ref 1099), some (.int x1), none] [.ref 1099] h1 r) (f : v0 = 0 → tr_L g (d + 1) m_X9_writeRow 10 [some (.ref 1099), some (.int x1), none] [.ref 1099] h1 r) : tr_L g (d + 1) m_X9_writeRow 0 [some (.ref 1099), some (.int x1), none] [] h r := by
  refine tr_s (.aload_n 0) 1 1 [some (.ref 1099), some (.int x1), none] [.ref 1099] h rfl rfl rfl ?_
  refine tr_s (.iload_n 1) 1 2 [some (.ref 1099), some (.int x1), none] [.int x1, .ref 1099] h rfl rfl rfl ?_
  refine tr_ic 0 0 (by decide) rfl ?_
  refine tr_ic 4 4 (by decide) rfl ?_
  refine tr_call (.invokestatic 70) 70 2 3 0 m_X9_isIn [.int x1, .int 0, .int 4] [.ref 1099] (some (.int v0)) h1 rfl rfl rfl rfl rfl rfl rfl rfl rfl (tr_cok rfl (Or.inl rfl)) c_0 ?_
  have hL0 := c_0.2
  exact tr_if1 .ne 7 14 v0 rfl rfl rfl (fun hc => t ((tr_ne hc).1 rfl)) (fun hc => f ((tr_ne hc).2 rfl))
theorem sg_X9_writeRow_10 {g : tr_g} {d : Nat} {h : ev_AH} {r : ev_O × ev_AH} {x1 v0 : Int32} {w2 : Option Value} {h1 : ev_AH} (hL : hh_L h) (c_0 : tr_L g d m_X9_isThrown 0 [some (.ref 1099), some (.int 1), some (.int 1)] [] h (.inl (some (.int v0)), h1)) (t : v0 = 0 → tr_L g (d + 1) m_X9_writeRow 24 [some (.ref 1099), some (.int x1), w2] [] h1 r) (f : v0 ≠ 0 → tr_L g (d + 1) m_X9_writeRow 22 [some (.ref 1099), some (.int x1), w2] [] h1 r) : tr_L g (d + 1) m_X9_writeRow 10 [some (.ref 1099), some (.int x1), w2] [.ref 1099] h r := by
  refine tr_ic 1 1 (by decide) rfl ?_
  refine tr_goto 4 15 rfl rfl rfl ?_
  refine tr_ic 1 1 (by decide) rfl ?_
  refine tr_call (.invokevirtual 66) 66 0 2 8 m_X9_isThrown [.ref 1099, .int 1, .int 1] [] (some (.int v0)) h1 rfl rfl rfl rfl rfl rfl rfl rfl rfl (tr_cok rfl (Or.inr ⟨_, _, rfl, tr_rc (hh_rd (hh_obj hL (k := 99) rfl).1) (by decide)⟩)) c_0 ?_
  have hL0 := c_0.2
  exact tr_if1 .eq 5 24 v0 rfl rfl rfl (fun hc => t ((tr_eq hc).1 rfl)) (fun hc => f ((tr_eq hc).2 rfl))
theorem sg_X9_writeRow_14 {g : tr_g} {d : Nat} {h : ev_AH} {r : ev_O × ev_AH} {x1 v0 : Int32} {w2 : Option Value} {h1 : ev_AH} (hL : hh_L h) (c_0 : tr_L g d m_X9_isThrown 0 [some (.ref 1099), some (.int 0), some (.int 1)] [] h (.inl (some (.int v0)), h1)) (t : v0 = 0 → tr_L g (d + 1) m_X9_writeRow 24 [some (.ref 1099), some (.int x1), w2] [] h1 r) (f : v0 ≠ 0 → tr_L g (d + 1) m_X9_writeRow 22 [some (.ref 1099), some (.int x1), w2] [] h1 r) : tr_L g (d + 1) m_X9_writeRow 14 [some (.ref 1099), some (.int x1), w2] [.ref 1099] h r := by
  refine tr_ic 0 0 (by decide) rfl ?_
  refine tr_ic 1 1 (by decide) rfl ?_
  refine tr_call (.invokevirtual 66) 66 0 2 8 m_X9_isThrown [.ref 1099, .int 0, .int 1] [] (some (.int v0)) h1 rfl rfl rfl rfl rfl rfl rfl rfl rfl (tr_cok rfl (Or.inr ⟨_, _, rfl, tr_rc (hh_rd (hh_obj hL (k := 99) rfl).1) (by decide)⟩)) c_0 ?_
  have hL0 := c_0.2
  exact tr_if1 .eq 5 24 v0 rfl rfl rfl (fun hc => t ((tr_eq hc).1 rfl)) (fun hc => f ((tr_eq hc).2 rfl))
theorem sg_X9_writeRow_22 {g : tr_g} {d : Nat} {h : ev_AH} {r : ev_O × ev_AH} {w0 w1 w2 : Option Value} (hL : hh_L h) (hr : r = (.inl (some (.int 0)), h)) : tr_L g d m_X9_writeRow 22 [w0, w1, w2] [] h r := by
  refine tr_ic 0 0 (by decide) rfl ?_
  exact tl_ret hL .ireturn 1 (some (.int 0)) rfl rfl rfl rfl hr
theorem sg_X9_writeRow_24 {g : tr_g} {d : Nat} {h : ev_AH} {r : ev_O × ev_AH} {x1 : Int32} {w2 : Option Value} (hL : hh_L h) (k : tr_L g d m_X9_writeRow 34 [some (.ref 1099), some (.int x1), some (.int (7 * x1))] [] (hh_si h 99 8 22 0) r) : tr_L g d m_X9_writeRow 24 [some (.ref 1099), some (.int x1), w2] [] h r := by
  refine tr_s (.aload_n 0) 1 25 [some (.ref 1099), some (.int x1), w2] [.ref 1099] h rfl rfl rfl ?_
  refine tr_ic 0 0 (by decide) rfl ?_
  refine tl_pf hL 244 99 8 22 [1100, 1101, 1102, 1103, 1104, 1105, 0, 0, 0, 0, 0, 0, 0, 0, 0, 0, 0, 0, 0, 0, 0, 1106, 0, 1107, 1108, 0, 0, 0] 0 .int rfl rfl rfl rfl rfl tr_oki ?_
  have hL0 := hh_L_si (sl := 22) (x := 0) hL (show hh_t[99]? = some (.inr (8, [1100, 1101, 1102, 1103, 1104, 1105, 0, 0, 0, 0, 0, 0, 0, 0, 0, 0, 0, 0, 0, 0, 0, 1106, 0, 1107, 1108, 0, 0, 0])) from rfl) rfl
  refine tr_bi 7 7 (by decide) rfl ?_
  refine tr_s (.iload_n 1) 1 32 [some (.ref 1099), some (.int x1), w2] [.int x1, .int 7] (hh_si h 99 8 22 0) rfl rfl rfl ?_
  refine tr_s .imul 1 33 [some (.ref 1099), some (.int x1), w2] [.int (7 * x1)] (hh_si h 99 8 22 0) rfl rfl rfl ?_
  refine tr_st (.istore_n 2) 1 2 0 (.int (7 * x1)) rfl rfl rfl rfl rfl rfl rfl ?_
  exact k
theorem sg_X9_writeRow_34 {g : tr_g} {d : Nat} {h : ev_AH} {r : ev_O × ev_AH} {x1 x2 : Int32} (hL : hh_L h) (t : (7 * (x1 + 1)) ≤ x2 → tr_L g d m_X9_writeRow 78 [some (.ref 1099), some (.int x1), some (.int x2)] [] h r) (f : x2 < (7 * (x1 + 1)) → tr_L g d m_X9_writeRow 44 [some (.ref 1099), some (.int x1), some (.int x2)] [] h r) : tr_L g d m_X9_writeRow 34 [some (.ref 1099), some (.int x1), some (.int x2)] [] h r := by
  refine tr_s (.iload_n 2) 1 35 [some (.ref 1099), some (.int x1), some (.int x2)] [.int x2] h rfl rfl rfl ?_
  refine tr_bi 7 7 (by decide) rfl ?_
  refine tr_s (.iload_n 1) 1 38 [some (.ref 1099), some (.int x1), some (.int x2)] [.int x1, .int 7, .int x2] h rfl rfl rfl ?_
  refine tr_ic 1 1 (by decide) rfl ?_
  refine tr_s .iadd 1 40 [some (.ref 1099), some (.int x1), some (.int x2)] [.int (x1 + 1), .int 7, .int x2] h rfl rfl rfl ?_
  refine tr_s .imul 1 41 [some (.ref 1099), some (.int x1), some (.int x2)] [.int (7 * (x1 + 1)), .int x2] h rfl rfl rfl ?_
  exact tr_if2 .ge 37 78 x2 (7 * (x1 + 1)) rfl rfl rfl (fun hc => t ((tr_ge hc).1 rfl)) (fun hc => f ((tr_ge hc).2 rfl))
theorem sg_X9_writeRow_44 {g : tr_g} {d : Nat} {h : ev_AH} {r : ev_O × ev_AH} {x1 x2 v0 : Int32} {h1 : ev_AH} (hL : hh_L h) (c_0 : tr_L g d m_X9_catOn 0 [some (.ref 1099), some (.int x2), none] [] h (.inl (some (.int v0)), h1)) (t : v0 < 0 → tr_L g (d + 1) m_X9_writeRow 64 [some (.ref 1099), some (.int x1), some (.int x2)] [.ref 1099] h1 r) (f : 0 ≤ v0 → tr_L g (d + 1) m_X9_writeRow 53 [some (.ref 1099), some (.int x1), some (.int x2)] [.ref 1099] h1 r) : tr_L g (d + 1) m_X9_writeRow 44 [some (.ref 1099), some (.int x1), some (.int x2)] [] h r := by
  refine tr_s (.aload_n 0) 1 45 [some (.ref 1099), some (.int x1), some (.int x2)] [.ref 1099] h rfl rfl rfl ?_
  refine tr_s (.aload_n 0) 1 46 [some (.ref 1099), some (.int x1), some (.int x2)] [.ref 1099, .ref 1099] h rfl rfl rfl ?_
  refine tr_s (.iload_n 2) 1 47 [some (.ref 1099), some (.int x1), some (.int x2)] [.int x2, .ref 1099, .ref 1099] h rfl rfl rfl ?_
  refine tr_call (.invokevirtual 92) 92 0 1 8 m_X9_catOn [.ref 1099, .int x2] [.ref 1099] (some (.int v0)) h1 rfl rfl rfl rfl rfl rfl rfl rfl rfl (tr_cok rfl (Or.inr ⟨_, _, rfl, tr_rc (hh_rd (hh_obj hL (k := 99) rfl).1) (by decide)⟩)) c_0 ?_
  have hL0 := c_0.2
  exact tr_if1 .lt 14 64 v0 rfl rfl rfl (fun hc => t ((tr_lt hc).1 rfl)) (fun hc => f ((tr_lt hc).2 rfl))
theorem sg_X9_writeRow_53 {g : tr_g} {d : Nat} {h : ev_AH} {r : ev_O × ev_AH} {x1 x2 v0 : Int32} {h1 h2 : ev_AH} (hL : hh_L h) (c_0 : tr_L g d m_X9_catOn 0 [some (.ref 1099), some (.int x2), none] [] h (.inl (some (.int v0)), h1)) (c_1 : tr_L g d m_X9_puts 0 [some (.ref 1099), some (.int (48 + v0))] [] h1 (.inl none, h2)) (k : tr_L g (d + 1) m_X9_writeRow 34 [some (.ref 1099), some (.int x1), some (.int (x2 + 1))] [] h2 r) : tr_L g (d + 1) m_X9_writeRow 53 [some (.ref 1099), some (.int x1), some (.int x2)] [.ref 1099] h r := by
  refine tr_bi 48 48 (by decide) rfl ?_
  refine tr_s (.aload_n 0) 1 56 [some (.ref 1099), some (.int x1), some (.int x2)] [.ref 1099, .int 48, .ref 1099] h rfl rfl rfl ?_
  refine tr_s (.iload_n 2) 1 57 [some (.ref 1099), some (.int x1), some (.int x2)] [.int x2, .ref 1099, .int 48, .ref 1099] h rfl rfl rfl ?_
  refine tr_call (.invokevirtual 92) 92 0 1 8 m_X9_catOn [.ref 1099, .int x2] [.int 48, .ref 1099] (some (.int v0)) h1 rfl rfl rfl rfl rfl rfl rfl rfl rfl (tr_cok rfl (Or.inr ⟨_, _, rfl, tr_rc (hh_rd (hh_obj hL (k := 99) rfl).1) (by decide)⟩)) c_0 ?_
  have hL0 := c_0.2
  refine tr_s .iadd 1 61 [some (.ref 1099), some (.int x1), some (.int x2)] [.int (48 + v0), .ref 1099] h1 rfl rfl rfl ?_
  refine tr_goto 8 69 rfl rfl rfl ?_
  refine tr_call (.invokevirtual 250) 250 0 1 8 m_X9_puts [.ref 1099, .int (48 + v0)] [] none h2 rfl rfl rfl rfl rfl rfl rfl rfl rfl (tr_cok rfl (Or.inr ⟨_, _, rfl, tr_rc (hh_rd (hh_obj hL0 (k := 99) rfl).1) (by decide)⟩)) c_1 ?_
  have hL1 := c_1.2
  refine tr_inc 2 1 x2 1 (by decide) rfl rfl rfl ?_
  refine tr_goto (-41) 34 rfl rfl rfl ?_
  exact k
theorem sg_X9_writeRow_64 {g : tr_g} {d : Nat} {h : ev_AH} {r : ev_O × ev_AH} {x1 x2 v0 : Int32} {h1 h2 : ev_AH} (hL : hh_L h) (c_0 : tr_L g d m_X9_content 0 [some (.ref 1099), some (.int x2)] [] h (.inl (some (.int v0)), h1)) (c_1 : tr_L g d m_X9_puts 0 [some (.ref 1099), some (.int v0)] [] h1 (.inl none, h2)) (k : tr_L g (d + 1) m_X9_writeRow 34 [some (.ref 1099), some (.int x1), some (.int (x2 + 1))] [] h2 r) : tr_L g (d + 1) m_X9_writeRow 64 [some (.ref 1099), some (.int x1), some (.int x2)] [.ref 1099] h r := by
  refine tr_s (.aload_n 0) 1 65 [some (.ref 1099), some (.int x1), some (.int x2)] [.ref 1099, .ref 1099] h rfl rfl rfl ?_
  refine tr_s (.iload_n 2) 1 66 [some (.ref 1099), some (.int x1), some (.int x2)] [.int x2, .ref 1099, .ref 1099] h rfl rfl rfl ?_
  refine tr_call (.invokevirtual 123) 123 0 1 8 m_X9_content [.ref 1099, .int x2] [.ref 1099] (some (.int v0)) h1 rfl rfl rfl rfl rfl rfl rfl rfl rfl (tr_cok rfl (Or.inr ⟨_, _, rfl, tr_rc (hh_rd (hh_obj hL (k := 99) rfl).1) (by decide)⟩)) c_0 ?_
  have hL0 := c_0.2
  refine tr_call (.invokevirtual 250) 250 0 1 8 m_X9_puts [.ref 1099, .int v0] [] none h2 rfl rfl rfl rfl rfl rfl rfl rfl rfl (tr_cok rfl (Or.inr ⟨_, _, rfl, tr_rc (hh_rd (hh_obj hL0 (k := 99) rfl).1) (by decide)⟩)) c_1 ?_
  have hL1 := c_1.2
  refine tr_inc 2 1 x2 1 (by decide) rfl rfl rfl ?_
  refine tr_goto (-41) 34 rfl rfl rfl ?_
  exact k
theorem sg_X9_writeRow_78 {g : tr_g} {d : Nat} {h : ev_AH} {r : ev_O × ev_AH} {w1 w2 : Option Value} (hL : hh_L h) (hr : r = (.inl (some (.int (hh_i h 99 22))), h)) : tr_L g d m_X9_writeRow 78 [some (.ref 1099), w1, w2] [] h r := by
  refine tr_s (.aload_n 0) 1 79 [some (.ref 1099), w1, w2] [.ref 1099] h rfl rfl rfl ?_
  refine tl_gi hL 244 99 8 22 [1100, 1101, 1102, 1103, 1104, 1105, 0, 0, 0, 0, 0, 0, 0, 0, 0, 0, 0, 0, 0, 0, 0, 1106, 0, 1107, 1108, 0, 0, 0] rfl rfl rfl rfl ?_
  exact tl_ret hL .ireturn 1 (some (.int (hh_i h 99 22))) rfl rfl rfl rfl hr
theorem sg_X9_puts_0 {g : tr_g} {d : Nat} {h : ev_AH} {r : ev_O × ev_AH} {x1 : Int32} {j0 : Nat} (hL : hh_L h) (e0 : hh_i h 99 22 = Int32.ofNat j0) (b0 : j0 < 30) (hr : r = (.inl (none), hh_si (hh_sa h 106 0 ((hh_a h 106).set j0 x1)) 99 8 22 ((hh_i (hh_sa h 106 0 ((hh_a h 106).set j0 x1)) 99 22) + 1))) : tr_L g d m_X9_puts 0 [some (.ref 1099), some (.int x1)] [] h r := by
  refine tr_s (.aload_n 0) 1 1 [some (.ref 1099), some (.int x1)] [.ref 1099] h rfl rfl rfl ?_
  refine tl_gr hL 32 99 8 21 106 [1100, 1101, 1102, 1103, 1104, 1105, 0, 0, 0, 0, 0, 0, 0, 0, 0, 0, 0, 0, 0, 0, 0, 1106, 0, 1107, 1108, 0, 0, 0] rfl rfl rfl rfl ?_
  refine tr_s (.aload_n 0) 1 5 [some (.ref 1099), some (.int x1)] [.ref 1099, .ref 1106] h rfl rfl rfl ?_
  refine tl_gi hL 244 99 8 22 [1100, 1101, 1102, 1103, 1104, 1105, 0, 0, 0, 0, 0, 0, 0, 0, 0, 0, 0, 0, 0, 0, 0, 1106, 0, 1107, 1108, 0, 0, 0] rfl rfl rfl rfl ?_
  refine tr_s (.iload_n 1) 1 9 [some (.ref 1099), some (.int x1)] [.int x1, .int (hh_i h 99 22), .ref 1106] h rfl rfl rfl ?_
  refine tl_ias hL 106 30 j0 (hh_i h 99 22) x1 rfl rfl e0 b0 (by decide) ?_
  have hL0 := hh_L_ss (j := j0) (x := x1) hL (show hh_t[106]? = some (.inl (0, 30)) from rfl)
  refine tr_s (.aload_n 0) 1 11 [some (.ref 1099), some (.int x1)] [.ref 1099] (hh_sa h 106 0 ((hh_a h 106).set j0 x1)) rfl rfl rfl ?_
  refine tr_s .dup 1 12 [some (.ref 1099), some (.int x1)] [.ref 1099, .ref 1099] (hh_sa h 106 0 ((hh_a h 106).set j0 x1)) rfl rfl rfl ?_
  refine tl_gi hL0 244 99 8 22 [1100, 1101, 1102, 1103, 1104, 1105, 0, 0, 0, 0, 0, 0, 0, 0, 0, 0, 0, 0, 0, 0, 0, 1106, 0, 1107, 1108, 0, 0, 0] rfl rfl rfl rfl ?_
  refine tr_ic 1 1 (by decide) rfl ?_
  refine tr_s .iadd 1 17 [some (.ref 1099), some (.int x1)] [.int ((hh_i (hh_sa h 106 0 ((hh_a h 106).set j0 x1)) 99 22) + 1), .ref 1099] (hh_sa h 106 0 ((hh_a h 106).set j0 x1)) rfl rfl rfl ?_
  refine tl_pf hL0 244 99 8 22 [1100, 1101, 1102, 1103, 1104, 1105, 0, 0, 0, 0, 0, 0, 0, 0, 0, 0, 0, 0, 0, 0, 0, 1106, 0, 1107, 1108, 0, 0, 0] ((hh_i (hh_sa h 106 0 ((hh_a h 106).set j0 x1)) 99 22) + 1) .int rfl rfl rfl rfl rfl tr_oki ?_
  have hL1 := hh_L_si (sl := 22) (x := ((hh_i (hh_sa h 106 0 ((hh_a h 106).set j0 x1)) 99 22) + 1)) hL0 (show hh_t[99]? = some (.inr (8, [1100, 1101, 1102, 1103, 1104, 1105, 0, 0, 0, 0, 0, 0, 0, 0, 0, 0, 0, 0, 0, 0, 0, 1106, 0, 1107, 1108, 0, 0, 0])) from rfl) rfl
  exact tl_ret hL1 .return_ 1 none rfl rfl rfl rfl hr
theorem sg_X9_writeCat_0 {g : tr_g} {d : Nat} {h : ev_AH} {r : ev_O × ev_AH} {x1 v0 : Int32} {h1 : ev_AH} (hL : hh_L h) (c_0 : tr_L g d m_X9_isCat 0 [some (.ref 1099), some (.int x1)] [] h (.inl (some (.int v0)), h1)) (t : v0 ≠ 0 → tr_L g (d + 1) m_X9_writeCat 13 [some (.ref 1099), some (.int x1), none] [.ref 1099] h1 r) (f : v0 = 0 → tr_L g (d + 1) m_X9_writeCat 9 [some (.ref 1099), some (.int x1), none] [.ref 1099] h1 r) : tr_L g (d + 1) m_X9_writeCat 0 [some (.ref 1099), some (.int x1), none] [] h r := by
  refine tr_s (.aload_n 0) 1 1 [some (.ref 1099), some (.int x1), none] [.ref 1099] h rfl rfl rfl ?_
  refine tr_s (.aload_n 0) 1 2 [some (.ref 1099), some (.int x1), none] [.ref 1099, .ref 1099] h rfl rfl rfl ?_
  refine tr_s (.iload_n 1) 1 3 [some (.ref 1099), some (.int x1), none] [.int x1, .ref 1099, .ref 1099] h rfl rfl rfl ?_
  refine tr_call (.invokevirtual 120) 120 0 1 8 m_X9_isCat [.ref 1099, .int x1] [.ref 1099] (some (.int v0)) h1 rfl rfl rfl rfl rfl rfl rfl rfl rfl (tr_cok rfl (Or.inr ⟨_, _, rfl, tr_rc (hh_rd (hh_obj hL (k := 99) rfl).1) (by decide)⟩)) c_0 ?_
  have hL0 := c_0.2
  exact tr_if1 .ne 7 13 v0 rfl rfl rfl (fun hc => t ((tr_ne hc).1 rfl)) (fun hc => f ((tr_ne hc).2 rfl))
theorem sg_X9_writeCat_9 {g : tr_g} {d : Nat} {h : ev_AH} {r : ev_O × ev_AH} {x1 v0 : Int32} {w2 : Option Value} {h1 : ev_AH} (hL : hh_L h) (c_0 : tr_L g d m_X9_isThrown 0 [some (.ref 1099), some (.int 1), some (.int 1)] [] h (.inl (some (.int v0)), h1)) (t : v0 = 0 → tr_L g (d + 1) m_X9_writeCat 23 [some (.ref 1099), some (.int x1), w2] [] h1 r) (f : v0 ≠ 0 → tr_L g (d + 1) m_X9_writeCat 21 [some (.ref 1099), some (.int x1), w2] [] h1 r) : tr_L g (d + 1) m_X9_writeCat 9 [some (.ref 1099), some (.int x1), w2] [.ref 1099] h r := by
  refine tr_ic 1 1 (by decide) rfl ?_
  refine tr_goto 4 14 rfl rfl rfl ?_
  refine tr_ic 1 1 (by decide) rfl ?_
  refine tr_call (.invokevirtual 66) 66 0 2 8 m_X9_isThrown [.ref 1099, .int 1, .int 1] [] (some (.int v0)) h1 rfl rfl rfl rfl rfl rfl rfl rfl rfl (tr_cok rfl (Or.inr ⟨_, _, rfl, tr_rc (hh_rd (hh_obj hL (k := 99) rfl).1) (by decide)⟩)) c_0 ?_
  have hL0 := c_0.2
  exact tr_if1 .eq 5 23 v0 rfl rfl rfl (fun hc => t ((tr_eq hc).1 rfl)) (fun hc => f ((tr_eq hc).2 rfl))
theorem sg_X9_writeCat_13 {g : tr_g} {d : Nat} {h : ev_AH} {r : ev_O × ev_AH} {x1 v0 : Int32} {w2 : Option Value} {h1 : ev_AH} (hL : hh_L h) (c_0 : tr_L g d m_X9_isThrown 0 [some (.ref 1099), some (.int 0), some (.int 1)] [] h (.inl (some (.int v0)), h1)) (t : v0 = 0 → tr_L g (d + 1) m_X9_writeCat 23 [some (.ref 1099), some (.int x1), w2] [] h1 r) (f : v0 ≠ 0 → tr_L g (d + 1) m_X9_writeCat 21 [some (.ref 1099), some (.int x1), w2] [] h1 r) : tr_L g (d + 1) m_X9_writeCat 13 [some (.ref 1099), some (.int x1), w2] [.ref 1099] h r := by
  refine tr_ic 0 0 (by decide) rfl ?_
  refine tr_ic 1 1 (by decide) rfl ?_
  refine tr_call (.invokevirtual 66) 66 0 2 8 m_X9_isThrown [.ref 1099, .int 0, .int 1] [] (some (.int v0)) h1 rfl rfl rfl rfl rfl rfl rfl rfl rfl (tr_cok rfl (Or.inr ⟨_, _, rfl, tr_rc (hh_rd (hh_obj hL (k := 99) rfl).1) (by decide)⟩)) c_0 ?_
  have hL0 := c_0.2
  exact tr_if1 .eq 5 23 v0 rfl rfl rfl (fun hc => t ((tr_eq hc).1 rfl)) (fun hc => f ((tr_eq hc).2 rfl))
theorem sg_X9_writeCat_21 {g : tr_g} {d : Nat} {h : ev_AH} {r : ev_O × ev_AH} {w0 w1 w2 : Option Value} (hL : hh_L h) (hr : r = (.inl (some (.int 0)), h)) : tr_L g d m_X9_writeCat 21 [w0, w1, w2] [] h r := by
  refine tr_ic 0 0 (by decide) rfl ?_
  exact tl_ret hL .ireturn 1 (some (.int 0)) rfl rfl rfl rfl hr
theorem sg_X9_writeCat_23 {g : tr_g} {d : Nat} {h : ev_AH} {r : ev_O × ev_AH} {x1 v0 : Int32} {w2 : Option Value} {h1 h2 h3 h4 h5 : ev_AH} (hL : hh_L h) (c_0 : tr_L g d m_X9_number 0 [some (.ref 1099), some (.int x1)] [] (hh_si h 99 8 22 0) (.inl none, h1)) (c_1 : tr_L g d m_X9_puts 0 [some (.ref 1099), some (.int 64)] [] h1 (.inl none, h2)) (c_2 : tr_L g d m_X9_of 0 [some (.ref 1099), some (.int x1), some (.int 0)] [] h2 (.inl (some (.int v0)), h3)) (c_3 : tr_L g d m_X9_number 0 [some (.ref 1099), some (.int v0)] [] h3 (.inl none, h4)) (c_4 : tr_L g d m_X9_puts 0 [some (.ref 1099), some (.int 58)] [] h4 (.inl none, h5)) (k : tr_L g (d + 1) m_X9_writeCat 57 [some (.ref 1099), some (.int x1), some (.int 0)] [] h5 r) : tr_L g (d + 1) m_X9_writeCat 23 [some (.ref 1099), some (.int x1), w2] [] h r := by
  refine tr_s (.aload_n 0) 1 24 [some (.ref 1099), some (.int x1), w2] [.ref 1099] h rfl rfl rfl ?_
  refine tr_ic 0 0 (by decide) rfl ?_
  refine tl_pf hL 244 99 8 22 [1100, 1101, 1102, 1103, 1104, 1105, 0, 0, 0, 0, 0, 0, 0, 0, 0, 0, 0, 0, 0, 0, 0, 1106, 0, 1107, 1108, 0, 0, 0] 0 .int rfl rfl rfl rfl rfl tr_oki ?_
  have hL0 := hh_L_si (sl := 22) (x := 0) hL (show hh_t[99]? = some (.inr (8, [1100, 1101, 1102, 1103, 1104, 1105, 0, 0, 0, 0, 0, 0, 0, 0, 0, 0, 0, 0, 0, 0, 0, 1106, 0, 1107, 1108, 0, 0, 0])) from rfl) rfl
  refine tr_s (.aload_n 0) 1 29 [some (.ref 1099), some (.int x1), w2] [.ref 1099] (hh_si h 99 8 22 0) rfl rfl rfl ?_
  refine tr_s (.iload_n 1) 1 30 [some (.ref 1099), some (.int x1), w2] [.int x1, .ref 1099] (hh_si h 99 8 22 0) rfl rfl rfl ?_
  refine tr_call (.invokevirtual 247) 247 0 1 8 m_X9_number [.ref 1099, .int x1] [] none h1 rfl rfl rfl rfl rfl rfl rfl rfl rfl (tr_cok rfl (Or.inr ⟨_, _, rfl, tr_rc (hh_rd (hh_obj hL0 (k := 99) rfl).1) (by decide)⟩)) c_0 ?_
  have hL1 := c_0.2
  refine tr_s (.aload_n 0) 1 34 [some (.ref 1099), some (.int x1), w2] [.ref 1099] h1 rfl rfl rfl ?_
  refine tr_bi 64 64 (by decide) rfl ?_
  refine tr_call (.invokevirtual 250) 250 0 1 8 m_X9_puts [.ref 1099, .int 64] [] none h2 rfl rfl rfl rfl rfl rfl rfl rfl rfl (tr_cok rfl (Or.inr ⟨_, _, rfl, tr_rc (hh_rd (hh_obj hL1 (k := 99) rfl).1) (by decide)⟩)) c_1 ?_
  have hL2 := c_1.2
  refine tr_s (.aload_n 0) 1 40 [some (.ref 1099), some (.int x1), w2] [.ref 1099] h2 rfl rfl rfl ?_
  refine tr_s (.aload_n 0) 1 41 [some (.ref 1099), some (.int x1), w2] [.ref 1099, .ref 1099] h2 rfl rfl rfl ?_
  refine tr_s (.iload_n 1) 1 42 [some (.ref 1099), some (.int x1), w2] [.int x1, .ref 1099, .ref 1099] h2 rfl rfl rfl ?_
  refine tr_ic 0 0 (by decide) rfl ?_
  refine tr_call (.invokevirtual 74) 74 0 2 8 m_X9_of [.ref 1099, .int x1, .int 0] [.ref 1099] (some (.int v0)) h3 rfl rfl rfl rfl rfl rfl rfl rfl rfl (tr_cok rfl (Or.inr ⟨_, _, rfl, tr_rc (hh_rd (hh_obj hL2 (k := 99) rfl).1) (by decide)⟩)) c_2 ?_
  have hL3 := c_2.2
  refine tr_call (.invokevirtual 247) 247 0 1 8 m_X9_number [.ref 1099, .int v0] [] none h4 rfl rfl rfl rfl rfl rfl rfl rfl rfl (tr_cok rfl (Or.inr ⟨_, _, rfl, tr_rc (hh_rd (hh_obj hL3 (k := 99) rfl).1) (by decide)⟩)) c_3 ?_
  have hL4 := c_3.2
  refine tr_s (.aload_n 0) 1 50 [some (.ref 1099), some (.int x1), w2] [.ref 1099] h4 rfl rfl rfl ?_
  refine tr_bi 58 58 (by decide) rfl ?_
  refine tr_call (.invokevirtual 250) 250 0 1 8 m_X9_puts [.ref 1099, .int 58] [] none h5 rfl rfl rfl rfl rfl rfl rfl rfl rfl (tr_cok rfl (Or.inr ⟨_, _, rfl, tr_rc (hh_rd (hh_obj hL4 (k := 99) rfl).1) (by decide)⟩)) c_4 ?_
  have hL5 := c_4.2
  refine tr_ic 0 0 (by decide) rfl ?_
  refine tr_st (.istore_n 2) 1 2 0 (.int 0) rfl rfl rfl rfl rfl rfl rfl ?_
  exact k
theorem sg_X9_writeCat_57 {g : tr_g} {d : Nat} {h : ev_AH} {r : ev_O × ev_AH} {x1 x2 : Int32} (hL : hh_L h) (t : 4 ≤ x2 → tr_L g d m_X9_writeCat 83 [some (.ref 1099), some (.int x1), some (.int x2)] [] h r) (f : x2 < 4 → tr_L g d m_X9_writeCat 62 [some (.ref 1099), some (.int x1), some (.int x2)] [] h r) : tr_L g d m_X9_writeCat 57 [some (.ref 1099), some (.int x1), some (.int x2)] [] h r := by
  refine tr_s (.iload_n 2) 1 58 [some (.ref 1099), some (.int x1), some (.int x2)] [.int x2] h rfl rfl rfl ?_
  refine tr_ic 4 4 (by decide) rfl ?_
  exact tr_if2 .ge 24 83 x2 4 rfl rfl rfl (fun hc => t ((tr_ge hc).1 rfl)) (fun hc => f ((tr_ge hc).2 rfl))
theorem sg_X9_writeCat_62 {g : tr_g} {d : Nat} {h : ev_AH} {r : ev_O × ev_AH} {x1 x2 v0 : Int32} {h1 h2 : ev_AH} (hL : hh_L h) (c_0 : tr_L g d m_X9_of 0 [some (.ref 1099), some (.int x1), some (.int (2 + x2))] [] h (.inl (some (.int v0)), h1)) (c_1 : tr_L g d m_X9_puts 0 [some (.ref 1099), some (.int (97 + v0))] [] h1 (.inl none, h2)) (k : tr_L g (d + 1) m_X9_writeCat 57 [some (.ref 1099), some (.int x1), some (.int (x2 + 1))] [] h2 r) : tr_L g (d + 1) m_X9_writeCat 62 [some (.ref 1099), some (.int x1), some (.int x2)] [] h r := by
  refine tr_s (.aload_n 0) 1 63 [some (.ref 1099), some (.int x1), some (.int x2)] [.ref 1099] h rfl rfl rfl ?_
  refine tr_bi 97 97 (by decide) rfl ?_
  refine tr_s (.aload_n 0) 1 66 [some (.ref 1099), some (.int x1), some (.int x2)] [.ref 1099, .int 97, .ref 1099] h rfl rfl rfl ?_
  refine tr_s (.iload_n 1) 1 67 [some (.ref 1099), some (.int x1), some (.int x2)] [.int x1, .ref 1099, .int 97, .ref 1099] h rfl rfl rfl ?_
  refine tr_ic 2 2 (by decide) rfl ?_
  refine tr_s (.iload_n 2) 1 69 [some (.ref 1099), some (.int x1), some (.int x2)] [.int x2, .int 2, .int x1, .ref 1099, .int 97, .ref 1099] h rfl rfl rfl ?_
  refine tr_s .iadd 1 70 [some (.ref 1099), some (.int x1), some (.int x2)] [.int (2 + x2), .int x1, .ref 1099, .int 97, .ref 1099] h rfl rfl rfl ?_
  refine tr_call (.invokevirtual 74) 74 0 2 8 m_X9_of [.ref 1099, .int x1, .int (2 + x2)] [.int 97, .ref 1099] (some (.int v0)) h1 rfl rfl rfl rfl rfl rfl rfl rfl rfl (tr_cok rfl (Or.inr ⟨_, _, rfl, tr_rc (hh_rd (hh_obj hL (k := 99) rfl).1) (by decide)⟩)) c_0 ?_
  have hL0 := c_0.2
  refine tr_s .iadd 1 74 [some (.ref 1099), some (.int x1), some (.int x2)] [.int (97 + v0), .ref 1099] h1 rfl rfl rfl ?_
  refine tr_call (.invokevirtual 250) 250 0 1 8 m_X9_puts [.ref 1099, .int (97 + v0)] [] none h2 rfl rfl rfl rfl rfl rfl rfl rfl rfl (tr_cok rfl (Or.inr ⟨_, _, rfl, tr_rc (hh_rd (hh_obj hL0 (k := 99) rfl).1) (by decide)⟩)) c_1 ?_
  have hL1 := c_1.2
  refine tr_inc 2 1 x2 1 (by decide) rfl rfl rfl ?_
  refine tr_goto (-23) 57 rfl rfl rfl ?_
  exact k
theorem sg_X9_writeCat_83 {g : tr_g} {d : Nat} {h : ev_AH} {r : ev_O × ev_AH} {x1 v0 : Int32} {w2 : Option Value} {h1 : ev_AH} (hL : hh_L h) (c_0 : tr_L g d m_X9_of 0 [some (.ref 1099), some (.int x1), some (.int 1)] [] h (.inl (some (.int v0)), h1)) (t : v0 ≤ 0 → tr_L g (d + 1) m_X9_writeCat 108 [some (.ref 1099), some (.int x1), w2] [] h1 r) (f : 0 < v0 → tr_L g (d + 1) m_X9_writeCat 92 [some (.ref 1099), some (.int x1), w2] [] h1 r) : tr_L g (d + 1) m_X9_writeCat 83 [some (.ref 1099), some (.int x1), w2] [] h r := by
  refine tr_s (.aload_n 0) 1 84 [some (.ref 1099), some (.int x1), w2] [.ref 1099] h rfl rfl rfl ?_
  refine tr_s (.iload_n 1) 1 85 [some (.ref 1099), some (.int x1), w2] [.int x1, .ref 1099] h rfl rfl rfl ?_
  refine tr_ic 1 1 (by decide) rfl ?_
  refine tr_call (.invokevirtual 74) 74 0 2 8 m_X9_of [.ref 1099, .int x1, .int 1] [] (some (.int v0)) h1 rfl rfl rfl rfl rfl rfl rfl rfl rfl (tr_cok rfl (Or.inr ⟨_, _, rfl, tr_rc (hh_rd (hh_obj hL (k := 99) rfl).1) (by decide)⟩)) c_0 ?_
  have hL0 := c_0.2
  exact tr_if1 .le 19 108 v0 rfl rfl rfl (fun hc => t ((tr_le hc).1 rfl)) (fun hc => f ((tr_le hc).2 rfl))
theorem sg_X9_writeCat_92 {g : tr_g} {d : Nat} {h : ev_AH} {r : ev_O × ev_AH} {x1 v0 : Int32} {w2 : Option Value} {h1 h2 h3 : ev_AH} (hL : hh_L h) (c_0 : tr_L g d m_X9_puts 0 [some (.ref 1099), some (.int 43)] [] h (.inl none, h1)) (c_1 : tr_L g d m_X9_of 0 [some (.ref 1099), some (.int x1), some (.int 1)] [] h1 (.inl (some (.int v0)), h2)) (c_2 : tr_L g d m_X9_number 0 [some (.ref 1099), some (.int v0)] [] h2 (.inl none, h3)) (hr : r = (.inl (some (.int (hh_i h3 99 22))), h3)) : tr_L g (d + 1) m_X9_writeCat 92 [some (.ref 1099), some (.int x1), w2] [] h r := by
  refine tr_s (.aload_n 0) 1 93 [some (.ref 1099), some (.int x1), w2] [.ref 1099] h rfl rfl rfl ?_
  refine tr_bi 43 43 (by decide) rfl ?_
  refine tr_call (.invokevirtual 250) 250 0 1 8 m_X9_puts [.ref 1099, .int 43] [] none h1 rfl rfl rfl rfl rfl rfl rfl rfl rfl (tr_cok rfl (Or.inr ⟨_, _, rfl, tr_rc (hh_rd (hh_obj hL (k := 99) rfl).1) (by decide)⟩)) c_0 ?_
  have hL0 := c_0.2
  refine tr_s (.aload_n 0) 1 99 [some (.ref 1099), some (.int x1), w2] [.ref 1099] h1 rfl rfl rfl ?_
  refine tr_s (.aload_n 0) 1 100 [some (.ref 1099), some (.int x1), w2] [.ref 1099, .ref 1099] h1 rfl rfl rfl ?_
  refine tr_s (.iload_n 1) 1 101 [some (.ref 1099), some (.int x1), w2] [.int x1, .ref 1099, .ref 1099] h1 rfl rfl rfl ?_
  refine tr_ic 1 1 (by decide) rfl ?_
  refine tr_call (.invokevirtual 74) 74 0 2 8 m_X9_of [.ref 1099, .int x1, .int 1] [.ref 1099] (some (.int v0)) h2 rfl rfl rfl rfl rfl rfl rfl rfl rfl (tr_cok rfl (Or.inr ⟨_, _, rfl, tr_rc (hh_rd (hh_obj hL0 (k := 99) rfl).1) (by decide)⟩)) c_1 ?_
  have hL1 := c_1.2
  refine tr_call (.invokevirtual 247) 247 0 1 8 m_X9_number [.ref 1099, .int v0] [] none h3 rfl rfl rfl rfl rfl rfl rfl rfl rfl (tr_cok rfl (Or.inr ⟨_, _, rfl, tr_rc (hh_rd (hh_obj hL1 (k := 99) rfl).1) (by decide)⟩)) c_2 ?_
  have hL2 := c_2.2
  refine tr_s (.aload_n 0) 1 109 [some (.ref 1099), some (.int x1), w2] [.ref 1099] h3 rfl rfl rfl ?_
  refine tl_gi hL2 244 99 8 22 [1100, 1101, 1102, 1103, 1104, 1105, 0, 0, 0, 0, 0, 0, 0, 0, 0, 0, 0, 0, 0, 0, 0, 1106, 0, 1107, 1108, 0, 0, 0] rfl rfl rfl rfl ?_
  exact tl_ret hL2 .ireturn 1 (some (.int (hh_i h3 99 22))) rfl rfl rfl rfl hr
theorem sg_X9_writeCat_108 {g : tr_g} {d : Nat} {h : ev_AH} {r : ev_O × ev_AH} {w1 w2 : Option Value} (hL : hh_L h) (hr : r = (.inl (some (.int (hh_i h 99 22))), h)) : tr_L g d m_X9_writeCat 108 [some (.ref 1099), w1, w2] [] h r := by
  refine tr_s (.aload_n 0) 1 109 [some (.ref 1099), w1, w2] [.ref 1099] h rfl rfl rfl ?_
  refine tl_gi hL 244 99 8 22 [1100, 1101, 1102, 1103, 1104, 1105, 0, 0, 0, 0, 0, 0, 0, 0, 0, 0, 0, 0, 0, 0, 0, 1106, 0, 1107, 1108, 0, 0, 0] rfl rfl rfl rfl ?_
  exact tl_ret hL .ireturn 1 (some (.int (hh_i h 99 22))) rfl rfl rfl rfl hr
theorem sg_X9_number_0 {g : tr_g} {d : Nat} {h : ev_AH} {r : ev_O × ev_AH} {x1 : Int32} (hL : hh_L h) (t : x1 < 10 → tr_L g d m_X9_number 14 [some (.ref 1099), some (.int x1)] [] h r) (f : 10 ≤ x1 → tr_L g d m_X9_number 6 [some (.ref 1099), some (.int x1)] [] h r) : tr_L g d m_X9_number 0 [some (.ref 1099), some (.int x1)] [] h r := by
  refine tr_s (.iload_n 1) 1 1 [some (.ref 1099), some (.int x1)] [.int x1] h rfl rfl rfl ?_
  refine tr_bi 10 10 (by decide) rfl ?_
  exact tr_if2 .lt 11 14 x1 10 rfl rfl rfl (fun hc => t ((tr_lt hc).1 rfl)) (fun hc => f ((tr_lt hc).2 rfl))
theorem sg_X9_number_6 {g : tr_g} {d : Nat} {h : ev_AH} {r : ev_O × ev_AH} {x1 : Int32} {h1 : ev_AH} (hL : hh_L h) (c_0 : tr_L g d m_X9_number 0 [some (.ref 1099), some (.int (x1 / 10))] [] h (.inl none, h1)) (k : tr_L g (d + 1) m_X9_number 14 [some (.ref 1099), some (.int x1)] [] h1 r) : tr_L g (d + 1) m_X9_number 6 [some (.ref 1099), some (.int x1)] [] h r := by
  refine tr_s (.aload_n 0) 1 7 [some (.ref 1099), some (.int x1)] [.ref 1099] h rfl rfl rfl ?_
  refine tr_s (.iload_n 1) 1 8 [some (.ref 1099), some (.int x1)] [.int x1, .ref 1099] h rfl rfl rfl ?_
  refine tr_bi 10 10 (by decide) rfl ?_
  refine tr_s .idiv 1 11 [some (.ref 1099), some (.int x1)] [.int (x1 / 10), .ref 1099] h rfl rfl rfl ?_
  refine tr_call (.invokevirtual 247) 247 0 1 8 m_X9_number [.ref 1099, .int (x1 / 10)] [] none h1 rfl rfl rfl rfl rfl rfl rfl rfl rfl (tr_cok rfl (Or.inr ⟨_, _, rfl, tr_rc (hh_rd (hh_obj hL (k := 99) rfl).1) (by decide)⟩)) c_0 ?_
  have hL0 := c_0.2
  exact k
theorem sg_X9_number_14 {g : tr_g} {d : Nat} {h : ev_AH} {r : ev_O × ev_AH} {x1 : Int32} {h1 : ev_AH} (hL : hh_L h) (c_0 : tr_L g d m_X9_puts 0 [some (.ref 1099), some (.int (48 + (x1 - x1 / 10 * 10)))] [] h (.inl none, h1)) (hr : r = (.inl (none), h1)) : tr_L g (d + 1) m_X9_number 14 [some (.ref 1099), some (.int x1)] [] h r := by
  refine tr_s (.aload_n 0) 1 15 [some (.ref 1099), some (.int x1)] [.ref 1099] h rfl rfl rfl ?_
  refine tr_bi 48 48 (by decide) rfl ?_
  refine tr_s (.iload_n 1) 1 18 [some (.ref 1099), some (.int x1)] [.int x1, .int 48, .ref 1099] h rfl rfl rfl ?_
  refine tr_bi 10 10 (by decide) rfl ?_
  refine tr_s .irem 1 21 [some (.ref 1099), some (.int x1)] [.int (x1 - x1 / 10 * 10), .int 48, .ref 1099] h rfl rfl rfl ?_
  refine tr_s .iadd 1 22 [some (.ref 1099), some (.int x1)] [.int (48 + (x1 - x1 / 10 * 10)), .ref 1099] h rfl rfl rfl ?_
  refine tr_call (.invokevirtual 250) 250 0 1 8 m_X9_puts [.ref 1099, .int (48 + (x1 - x1 / 10 * 10))] [] none h1 rfl rfl rfl rfl rfl rfl rfl rfl rfl (tr_cok rfl (Or.inr ⟨_, _, rfl, tr_rc (hh_rd (hh_obj hL (k := 99) rfl).1) (by decide)⟩)) c_0 ?_
  have hL0 := c_0.2
  exact tl_ret hL0 .return_ 1 none rfl rfl rfl rfl hr
theorem sg_X9_outputAt_0 {g : tr_g} {d : Nat} {h : ev_AH} {r : ev_O × ev_AH} {x1 v0 : Int32} {h1 : ev_AH} (hL : hh_L h) (c_0 : tr_L g d m_X9_isIn 0 [some (.int x1), some (.int 0), some (.int ((hh_i h 99 22) - 1))] [] h (.inl (some (.int v0)), h1)) (t : v0 ≠ 0 → tr_L g (d + 1) m_X9_outputAt 19 [some (.ref 1099), some (.int x1)] [.ref 1099] h1 r) (f : v0 = 0 → tr_L g (d + 1) m_X9_outputAt 15 [some (.ref 1099), some (.int x1)] [.ref 1099] h1 r) : tr_L g (d + 1) m_X9_outputAt 0 [some (.ref 1099), some (.int x1)] [] h r := by
  refine tr_s (.aload_n 0) 1 1 [some (.ref 1099), some (.int x1)] [.ref 1099] h rfl rfl rfl ?_
  refine tr_s (.iload_n 1) 1 2 [some (.ref 1099), some (.int x1)] [.int x1, .ref 1099] h rfl rfl rfl ?_
  refine tr_ic 0 0 (by decide) rfl ?_
  refine tr_s (.aload_n 0) 1 4 [some (.ref 1099), some (.int x1)] [.ref 1099, .int 0, .int x1, .ref 1099] h rfl rfl rfl ?_
  refine tl_gi hL 244 99 8 22 [1100, 1101, 1102, 1103, 1104, 1105, 0, 0, 0, 0, 0, 0, 0, 0, 0, 0, 0, 0, 0, 0, 0, 1106, 0, 1107, 1108, 0, 0, 0] rfl rfl rfl rfl ?_
  refine tr_ic 1 1 (by decide) rfl ?_
  refine tr_s .isub 1 9 [some (.ref 1099), some (.int x1)] [.int ((hh_i h 99 22) - 1), .int 0, .int x1, .ref 1099] h rfl rfl rfl ?_
  refine tr_call (.invokestatic 70) 70 2 3 0 m_X9_isIn [.int x1, .int 0, .int ((hh_i h 99 22) - 1)] [.ref 1099] (some (.int v0)) h1 rfl rfl rfl rfl rfl rfl rfl rfl rfl (tr_cok rfl (Or.inl rfl)) c_0 ?_
  have hL0 := c_0.2
  exact tr_if1 .ne 7 19 v0 rfl rfl rfl (fun hc => t ((tr_ne hc).1 rfl)) (fun hc => f ((tr_ne hc).2 rfl))
theorem sg_X9_outputAt_15 {g : tr_g} {d : Nat} {h : ev_AH} {r : ev_O × ev_AH} {x1 v0 : Int32} {h1 : ev_AH} (hL : hh_L h) (c_0 : tr_L g d m_X9_isThrown 0 [some (.ref 1099), some (.int 1), some (.int 1)] [] h (.inl (some (.int v0)), h1)) (t : v0 = 0 → tr_L g (d + 1) m_X9_outputAt 31 [some (.ref 1099), some (.int x1)] [] h1 r) (f : v0 ≠ 0 → tr_L g (d + 1) m_X9_outputAt 27 [some (.ref 1099), some (.int x1)] [] h1 r) : tr_L g (d + 1) m_X9_outputAt 15 [some (.ref 1099), some (.int x1)] [.ref 1099] h r := by
  refine tr_ic 1 1 (by decide) rfl ?_
  refine tr_goto 4 20 rfl rfl rfl ?_
  refine tr_ic 1 1 (by decide) rfl ?_
  refine tr_call (.invokevirtual 66) 66 0 2 8 m_X9_isThrown [.ref 1099, .int 1, .int 1] [] (some (.int v0)) h1 rfl rfl rfl rfl rfl rfl rfl rfl rfl (tr_cok rfl (Or.inr ⟨_, _, rfl, tr_rc (hh_rd (hh_obj hL (k := 99) rfl).1) (by decide)⟩)) c_0 ?_
  have hL0 := c_0.2
  exact tr_if1 .eq 7 31 v0 rfl rfl rfl (fun hc => t ((tr_eq hc).1 rfl)) (fun hc => f ((tr_eq hc).2 rfl))
theorem sg_X9_outputAt_19 {g : tr_g} {d : Nat} {h : ev_AH} {r : ev_O × ev_AH} {x1 v0 : Int32} {h1 : ev_AH} (hL : hh_L h) (c_0 : tr_L g d m_X9_isThrown 0 [some (.ref 1099), some (.int 0), some (.int 1)] [] h (.inl (some (.int v0)), h1)) (t : v0 = 0 → tr_L g (d + 1) m_X9_outputAt 31 [some (.ref 1099), some (.int x1)] [] h1 r) (f : v0 ≠ 0 → tr_L g (d + 1) m_X9_outputAt 27 [some (.ref 1099), some (.int x1)] [] h1 r) : tr_L g (d + 1) m_X9_outputAt 19 [some (.ref 1099), some (.int x1)] [.ref 1099] h r := by
  refine tr_ic 0 0 (by decide) rfl ?_
  refine tr_ic 1 1 (by decide) rfl ?_
  refine tr_call (.invokevirtual 66) 66 0 2 8 m_X9_isThrown [.ref 1099, .int 0, .int 1] [] (some (.int v0)) h1 rfl rfl rfl rfl rfl rfl rfl rfl rfl (tr_cok rfl (Or.inr ⟨_, _, rfl, tr_rc (hh_rd (hh_obj hL (k := 99) rfl).1) (by decide)⟩)) c_0 ?_
  have hL0 := c_0.2
  exact tr_if1 .eq 7 31 v0 rfl rfl rfl (fun hc => t ((tr_eq hc).1 rfl)) (fun hc => f ((tr_eq hc).2 rfl))
theorem sg_X9_outputAt_27 {g : tr_g} {d : Nat} {h : ev_AH} {r : ev_O × ev_AH} {w0 w1 : Option Value} (hL : hh_L h) (hr : r = (.inl (some (.int 0)), h)) : tr_L g d m_X9_outputAt 27 [w0, w1] [] h r := by
  refine tr_ic 0 0 (by decide) rfl ?_
  refine tr_goto 10 38 rfl rfl rfl ?_
  exact tl_ret hL .ireturn 1 (some (.int 0)) rfl rfl rfl rfl hr
theorem sg_X9_outputAt_31 {g : tr_g} {d : Nat} {h : ev_AH} {r : ev_O × ev_AH} {x1 : Int32} {j0 : Nat} (hL : hh_L h) (e0 : x1 = Int32.ofNat j0) (b0 : j0 < 30) (hc0 : tr_ch ((((hh_a h 106).getD j0 0).toUInt32 % 65536).toInt32)) (hr : r = (.inl (some (.int ((((hh_a h 106).getD j0 0).toUInt32 % 65536).toInt32))), h)) : tr_L g d m_X9_outputAt 31 [some (.ref 1099), some (.int x1)] [] h r := by
  refine tr_s (.aload_n 0) 1 32 [some (.ref 1099), some (.int x1)] [.ref 1099] h rfl rfl rfl ?_
  refine tl_gr hL 32 99 8 21 106 [1100, 1101, 1102, 1103, 1104, 1105, 0, 0, 0, 0, 0, 0, 0, 0, 0, 0, 0, 0, 0, 0, 0, 1106, 0, 1107, 1108, 0, 0, 0] rfl rfl rfl rfl ?_
  refine tr_s (.iload_n 1) 1 36 [some (.ref 1099), some (.int x1)] [.int x1, .ref 1106] h rfl rfl rfl ?_
  refine tl_ald hL .iaload 106 0 30 j0 x1 rfl (by decide) rfl e0 b0 (by decide) ?_
  refine tr_s .i2c 1 38 [some (.ref 1099), some (.int x1)] [.int ((((hh_a h 106).getD j0 0).toUInt32 % 65536).toInt32)] h rfl rfl rfl ?_
  exact tl_ret hL .ireturn 1 (some (.int ((((hh_a h 106).getD j0 0).toUInt32 % 65536).toInt32))) rfl rfl rfl (tr_ec rfl hc0) hr
theorem sg_X9_appendInput_0 {g : tr_g} {d : Nat} {h : ev_AH} {r : ev_O × ev_AH} {x1 v0 : Int32} {h1 : ev_AH} (hL : hh_L h) (c_0 : tr_L g d m_X9_isIn 0 [some (.int x1), some (.int 32), some (.int 126)] [] h (.inl (some (.int v0)), h1)) (t : v0 ≠ 0 → tr_L g (d + 1) m_X9_appendInput 16 [some (.ref 1099), some (.int x1)] [.ref 1099] h1 r) (f : v0 = 0 → tr_L g (d + 1) m_X9_appendInput 12 [some (.ref 1099), some (.int x1)] [.ref 1099] h1 r) : tr_L g (d + 1) m_X9_appendInput 0 [some (.ref 1099), some (.int x1)] [] h r := by
  refine tr_s (.aload_n 0) 1 1 [some (.ref 1099), some (.int x1)] [.ref 1099] h rfl rfl rfl ?_
  refine tr_s (.iload_n 1) 1 2 [some (.ref 1099), some (.int x1)] [.int x1, .ref 1099] h rfl rfl rfl ?_
  refine tr_bi 32 32 (by decide) rfl ?_
  refine tr_bi 126 126 (by decide) rfl ?_
  refine tr_call (.invokestatic 70) 70 2 3 0 m_X9_isIn [.int x1, .int 32, .int 126] [.ref 1099] (some (.int v0)) h1 rfl rfl rfl rfl rfl rfl rfl rfl rfl (tr_cok rfl (Or.inl rfl)) c_0 ?_
  have hL0 := c_0.2
  exact tr_if1 .ne 7 16 v0 rfl rfl rfl (fun hc => t ((tr_ne hc).1 rfl)) (fun hc => f ((tr_ne hc).2 rfl))
theorem sg_X9_appendInput_12 {g : tr_g} {d : Nat} {h : ev_AH} {r : ev_O × ev_AH} {x1 v0 : Int32} {h1 : ev_AH} (hL : hh_L h) (c_0 : tr_L g d m_X9_isThrown 0 [some (.ref 1099), some (.int 1), some (.int 1)] [] h (.inl (some (.int v0)), h1)) (t : v0 ≠ 0 → tr_L g (d + 1) m_X9_appendInput 46 [some (.ref 1099), some (.int x1)] [] h1 r) (f : v0 = 0 → tr_L g (d + 1) m_X9_appendInput 24 [some (.ref 1099), some (.int x1)] [] h1 r) : tr_L g (d + 1) m_X9_appendInput 12 [some (.ref 1099), some (.int x1)] [.ref 1099] h r := by
  refine tr_ic 1 1 (by decide) rfl ?_
  refine tr_goto 4 17 rfl rfl rfl ?_
  refine tr_ic 1 1 (by decide) rfl ?_
  refine tr_call (.invokevirtual 66) 66 0 2 8 m_X9_isThrown [.ref 1099, .int 1, .int 1] [] (some (.int v0)) h1 rfl rfl rfl rfl rfl rfl rfl rfl rfl (tr_cok rfl (Or.inr ⟨_, _, rfl, tr_rc (hh_rd (hh_obj hL (k := 99) rfl).1) (by decide)⟩)) c_0 ?_
  have hL0 := c_0.2
  exact tr_if1 .ne 25 46 v0 rfl rfl rfl (fun hc => t ((tr_ne hc).1 rfl)) (fun hc => f ((tr_ne hc).2 rfl))
theorem sg_X9_appendInput_16 {g : tr_g} {d : Nat} {h : ev_AH} {r : ev_O × ev_AH} {x1 v0 : Int32} {h1 : ev_AH} (hL : hh_L h) (c_0 : tr_L g d m_X9_isThrown 0 [some (.ref 1099), some (.int 0), some (.int 1)] [] h (.inl (some (.int v0)), h1)) (t : v0 ≠ 0 → tr_L g (d + 1) m_X9_appendInput 46 [some (.ref 1099), some (.int x1)] [] h1 r) (f : v0 = 0 → tr_L g (d + 1) m_X9_appendInput 24 [some (.ref 1099), some (.int x1)] [] h1 r) : tr_L g (d + 1) m_X9_appendInput 16 [some (.ref 1099), some (.int x1)] [.ref 1099] h r := by
  refine tr_ic 0 0 (by decide) rfl ?_
  refine tr_ic 1 1 (by decide) rfl ?_
  refine tr_call (.invokevirtual 66) 66 0 2 8 m_X9_isThrown [.ref 1099, .int 0, .int 1] [] (some (.int v0)) h1 rfl rfl rfl rfl rfl rfl rfl rfl rfl (tr_cok rfl (Or.inr ⟨_, _, rfl, tr_rc (hh_rd (hh_obj hL (k := 99) rfl).1) (by decide)⟩)) c_0 ?_
  have hL0 := c_0.2
  exact tr_if1 .ne 25 46 v0 rfl rfl rfl (fun hc => t ((tr_ne hc).1 rfl)) (fun hc => f ((tr_ne hc).2 rfl))
theorem sg_X9_appendInput_24 {g : tr_g} {d : Nat} {h : ev_AH} {r : ev_O × ev_AH} {x1 : Int32} (hL : hh_L h) (t : (hh_i h 99 25) ≠ 60 → tr_L g d m_X9_appendInput 38 [some (.ref 1099), some (.int x1)] [.ref 1099] h r) (f : (hh_i h 99 25) = 60 → tr_L g d m_X9_appendInput 34 [some (.ref 1099), some (.int x1)] [.ref 1099] h r) : tr_L g d m_X9_appendInput 24 [some (.ref 1099), some (.int x1)] [] h r := by
  refine tr_s (.aload_n 0) 1 25 [some (.ref 1099), some (.int x1)] [.ref 1099] h rfl rfl rfl ?_
  refine tr_s (.aload_n 0) 1 26 [some (.ref 1099), some (.int x1)] [.ref 1099, .ref 1099] h rfl rfl rfl ?_
  refine tl_gi hL 253 99 8 25 [1100, 1101, 1102, 1103, 1104, 1105, 0, 0, 0, 0, 0, 0, 0, 0, 0, 0, 0, 0, 0, 0, 0, 1106, 0, 1107, 1108, 0, 0, 0] rfl rfl rfl rfl ?_
  refine tr_bi 60 60 (by decide) rfl ?_
  exact tr_if2 .ne 7 38 (hh_i h 99 25) 60 rfl rfl rfl (fun hc => t ((tr_ne hc).1 rfl)) (fun hc => f ((tr_ne hc).2 rfl))
theorem sg_X9_appendInput_34 {g : tr_g} {d : Nat} {h : ev_AH} {r : ev_O × ev_AH} {x1 v0 : Int32} {h1 : ev_AH} (hL : hh_L h) (c_0 : tr_L g d m_X9_isThrown 0 [some (.ref 1099), some (.int 1), some (.int 2)] [] h (.inl (some (.int v0)), h1)) (t : v0 = 0 → tr_L g (d + 1) m_X9_appendInput 48 [some (.ref 1099), some (.int x1)] [] h1 r) (f : v0 ≠ 0 → tr_L g (d + 1) m_X9_appendInput 46 [some (.ref 1099), some (.int x1)] [] h1 r) : tr_L g (d + 1) m_X9_appendInput 34 [some (.ref 1099), some (.int x1)] [.ref 1099] h r := by
  refine tr_ic 1 1 (by decide) rfl ?_
  refine tr_goto 4 39 rfl rfl rfl ?_
  refine tr_ic 2 2 (by decide) rfl ?_
  refine tr_call (.invokevirtual 66) 66 0 2 8 m_X9_isThrown [.ref 1099, .int 1, .int 2] [] (some (.int v0)) h1 rfl rfl rfl rfl rfl rfl rfl rfl rfl (tr_cok rfl (Or.inr ⟨_, _, rfl, tr_rc (hh_rd (hh_obj hL (k := 99) rfl).1) (by decide)⟩)) c_0 ?_
  have hL0 := c_0.2
  exact tr_if1 .eq 5 48 v0 rfl rfl rfl (fun hc => t ((tr_eq hc).1 rfl)) (fun hc => f ((tr_eq hc).2 rfl))
theorem sg_X9_appendInput_38 {g : tr_g} {d : Nat} {h : ev_AH} {r : ev_O × ev_AH} {x1 v0 : Int32} {h1 : ev_AH} (hL : hh_L h) (c_0 : tr_L g d m_X9_isThrown 0 [some (.ref 1099), some (.int 0), some (.int 2)] [] h (.inl (some (.int v0)), h1)) (t : v0 = 0 → tr_L g (d + 1) m_X9_appendInput 48 [some (.ref 1099), some (.int x1)] [] h1 r) (f : v0 ≠ 0 → tr_L g (d + 1) m_X9_appendInput 46 [some (.ref 1099), some (.int x1)] [] h1 r) : tr_L g (d + 1) m_X9_appendInput 38 [some (.ref 1099), some (.int x1)] [.ref 1099] h r := by
  refine tr_ic 0 0 (by decide) rfl ?_
  refine tr_ic 2 2 (by decide) rfl ?_
  refine tr_call (.invokevirtual 66) 66 0 2 8 m_X9_isThrown [.ref 1099, .int 0, .int 2] [] (some (.int v0)) h1 rfl rfl rfl rfl rfl rfl rfl rfl rfl (tr_cok rfl (Or.inr ⟨_, _, rfl, tr_rc (hh_rd (hh_obj hL (k := 99) rfl).1) (by decide)⟩)) c_0 ?_
  have hL0 := c_0.2
  exact tr_if1 .eq 5 48 v0 rfl rfl rfl (fun hc => t ((tr_eq hc).1 rfl)) (fun hc => f ((tr_eq hc).2 rfl))
theorem sg_X9_appendInput_46 {g : tr_g} {d : Nat} {h : ev_AH} {r : ev_O × ev_AH} {w0 w1 : Option Value} (hL : hh_L h) (hr : r = (.inl (some (.int 0)), h)) : tr_L g d m_X9_appendInput 46 [w0, w1] [] h r := by
  refine tr_ic 0 0 (by decide) rfl ?_
  exact tl_ret hL .ireturn 1 (some (.int 0)) rfl rfl rfl rfl hr
theorem sg_X9_appendInput_48 {g : tr_g} {d : Nat} {h : ev_AH} {r : ev_O × ev_AH} {x1 : Int32} {j0 : Nat} (hL : hh_L h) (e0 : hh_i h 99 25 = Int32.ofNat j0) (b0 : j0 < 60) (hr : r = (.inl (some (.int (hh_i (hh_si (hh_sa h 107 0 ((hh_a h 107).set j0 x1)) 99 8 25 ((hh_i (hh_sa h 107 0 ((hh_a h 107).set j0 x1)) 99 25) + 1)) 99 25))), hh_si (hh_sa h 107 0 ((hh_a h 107).set j0 x1)) 99 8 25 ((hh_i (hh_sa h 107 0 ((hh_a h 107).set j0 x1)) 99 25) + 1))) : tr_L g d m_X9_appendInput 48 [some (.ref 1099), some (.int x1)] [] h r := by
  refine tr_s (.aload_n 0) 1 49 [some (.ref 1099), some (.int x1)] [.ref 1099] h rfl rfl rfl ?_
  refine tl_gr hL 35 99 8 23 107 [1100, 1101, 1102, 1103, 1104, 1105, 0, 0, 0, 0, 0, 0, 0, 0, 0, 0, 0, 0, 0, 0, 0, 1106, 0, 1107, 1108, 0, 0, 0] rfl rfl rfl rfl ?_
  refine tr_s (.aload_n 0) 1 53 [some (.ref 1099), some (.int x1)] [.ref 1099, .ref 1107] h rfl rfl rfl ?_
  refine tl_gi hL 253 99 8 25 [1100, 1101, 1102, 1103, 1104, 1105, 0, 0, 0, 0, 0, 0, 0, 0, 0, 0, 0, 0, 0, 0, 0, 1106, 0, 1107, 1108, 0, 0, 0] rfl rfl rfl rfl ?_
  refine tr_s (.iload_n 1) 1 57 [some (.ref 1099), some (.int x1)] [.int x1, .int (hh_i h 99 25), .ref 1107] h rfl rfl rfl ?_
  refine tl_ias hL 107 60 j0 (hh_i h 99 25) x1 rfl rfl e0 b0 (by decide) ?_
  have hL0 := hh_L_ss (j := j0) (x := x1) hL (show hh_t[107]? = some (.inl (0, 60)) from rfl)
  refine tr_s (.aload_n 0) 1 59 [some (.ref 1099), some (.int x1)] [.ref 1099] (hh_sa h 107 0 ((hh_a h 107).set j0 x1)) rfl rfl rfl ?_
  refine tr_s .dup 1 60 [some (.ref 1099), some (.int x1)] [.ref 1099, .ref 1099] (hh_sa h 107 0 ((hh_a h 107).set j0 x1)) rfl rfl rfl ?_
  refine tl_gi hL0 253 99 8 25 [1100, 1101, 1102, 1103, 1104, 1105, 0, 0, 0, 0, 0, 0, 0, 0, 0, 0, 0, 0, 0, 0, 0, 1106, 0, 1107, 1108, 0, 0, 0] rfl rfl rfl rfl ?_
  refine tr_ic 1 1 (by decide) rfl ?_
  refine tr_s .iadd 1 65 [some (.ref 1099), some (.int x1)] [.int ((hh_i (hh_sa h 107 0 ((hh_a h 107).set j0 x1)) 99 25) + 1), .ref 1099] (hh_sa h 107 0 ((hh_a h 107).set j0 x1)) rfl rfl rfl ?_
  refine tl_pf hL0 253 99 8 25 [1100, 1101, 1102, 1103, 1104, 1105, 0, 0, 0, 0, 0, 0, 0, 0, 0, 0, 0, 0, 0, 0, 0, 1106, 0, 1107, 1108, 0, 0, 0] ((hh_i (hh_sa h 107 0 ((hh_a h 107).set j0 x1)) 99 25) + 1) .int rfl rfl rfl rfl rfl tr_oki ?_
  have hL1 := hh_L_si (sl := 25) (x := ((hh_i (hh_sa h 107 0 ((hh_a h 107).set j0 x1)) 99 25) + 1)) hL0 (show hh_t[99]? = some (.inr (8, [1100, 1101, 1102, 1103, 1104, 1105, 0, 0, 0, 0, 0, 0, 0, 0, 0, 0, 0, 0, 0, 0, 0, 1106, 0, 1107, 1108, 0, 0, 0])) from rfl) rfl
  refine tr_s (.aload_n 0) 1 69 [some (.ref 1099), some (.int x1)] [.ref 1099] (hh_si (hh_sa h 107 0 ((hh_a h 107).set j0 x1)) 99 8 25 ((hh_i (hh_sa h 107 0 ((hh_a h 107).set j0 x1)) 99 25) + 1)) rfl rfl rfl ?_
  refine tl_gi hL1 253 99 8 25 [1100, 1101, 1102, 1103, 1104, 1105, 0, 0, 0, 0, 0, 0, 0, 0, 0, 0, 0, 0, 0, 0, 0, 1106, 0, 1107, 1108, 0, 0, 0] rfl rfl rfl rfl ?_
  exact tl_ret hL1 .ireturn 1 (some (.int (hh_i (hh_si (hh_sa h 107 0 ((hh_a h 107).set j0 x1)) 99 8 25 ((hh_i (hh_sa h 107 0 ((hh_a h 107).set j0 x1)) 99 25) + 1)) 99 25))) rfl rfl rfl rfl hr
theorem sg_X9_execute_0 {g : tr_g} {d : Nat} {h : ev_AH} {r : ev_O × ev_AH} {h1 : ev_AH} {v0 : Int32} (hL : hh_L h) (c_0 : tr_L g d m_X9_isInput 0 [some (.ref 1099), none] [] h (.inl (some (.int v0)), h1)) (t : v0 ≠ 0 → tr_L g (d + 1) m_X9_execute 19 [some (.ref 1099), some (.int v0), none] [.ref 1099] (hh_si h1 99 8 25 0) r) (f : v0 = 0 → tr_L g (d + 1) m_X9_execute 15 [some (.ref 1099), some (.int v0), none] [.ref 1099] (hh_si h1 99 8 25 0) r) : tr_L g (d + 1) m_X9_execute 0 [some (.ref 1099), none, none] [] h r := by
  refine tr_s (.aload_n 0) 1 1 [some (.ref 1099), none, none] [.ref 1099] h rfl rfl rfl ?_
  refine tr_call (.invokevirtual 314) 314 0 0 8 m_X9_isInput [.ref 1099] [] (some (.int v0)) h1 rfl rfl rfl rfl rfl rfl rfl rfl rfl (tr_cok rfl (Or.inr ⟨_, _, rfl, tr_rc (hh_rd (hh_obj hL (k := 99) rfl).1) (by decide)⟩)) c_0 ?_
  have hL0 := c_0.2
  refine tr_st (.istore_n 1) 1 1 0 (.int v0) rfl rfl rfl rfl rfl rfl rfl ?_
  refine tr_s (.aload_n 0) 1 6 [some (.ref 1099), some (.int v0), none] [.ref 1099] h1 rfl rfl rfl ?_
  refine tr_ic 0 0 (by decide) rfl ?_
  refine tl_pf hL0 253 99 8 25 [1100, 1101, 1102, 1103, 1104, 1105, 0, 0, 0, 0, 0, 0, 0, 0, 0, 0, 0, 0, 0, 0, 0, 1106, 0, 1107, 1108, 0, 0, 0] 0 .int rfl rfl rfl rfl rfl tr_oki ?_
  have hL1 := hh_L_si (sl := 25) (x := 0) hL0 (show hh_t[99]? = some (.inr (8, [1100, 1101, 1102, 1103, 1104, 1105, 0, 0, 0, 0, 0, 0, 0, 0, 0, 0, 0, 0, 0, 0, 0, 1106, 0, 1107, 1108, 0, 0, 0])) from rfl) rfl
  refine tr_s (.aload_n 0) 1 11 [some (.ref 1099), some (.int v0), none] [.ref 1099] (hh_si h1 99 8 25 0) rfl rfl rfl ?_
  refine tr_s (.iload_n 1) 1 12 [some (.ref 1099), some (.int v0), none] [.int v0, .ref 1099] (hh_si h1 99 8 25 0) rfl rfl rfl ?_
  exact tr_if1 .ne 7 19 v0 rfl rfl rfl (fun hc => t ((tr_ne hc).1 rfl)) (fun hc => f ((tr_ne hc).2 rfl))
theorem sg_X9_execute_15 {g : tr_g} {d : Nat} {h : ev_AH} {r : ev_O × ev_AH} {w1 w2 : Option Value} {h1 : ev_AH} {v0 : Int32} (hL : hh_L h) (c_0 : tr_L g d m_X9_isThrown 0 [some (.ref 1099), some (.int 1), some (.int 1)] [] h (.inl (some (.int v0)), h1)) (t : v0 = 0 → tr_L g (d + 1) m_X9_execute 37 [some (.ref 1099), w1, w2] [] h1 r) (f : v0 ≠ 0 → tr_L g (d + 1) m_X9_execute 27 [some (.ref 1099), w1, w2] [] h1 r) : tr_L g (d + 1) m_X9_execute 15 [some (.ref 1099), w1, w2] [.ref 1099] h r := by
  refine tr_ic 1 1 (by decide) rfl ?_
  refine tr_goto 4 20 rfl rfl rfl ?_
  refine tr_ic 1 1 (by decide) rfl ?_
  refine tr_call (.invokevirtual 66) 66 0 2 8 m_X9_isThrown [.ref 1099, .int 1, .int 1] [] (some (.int v0)) h1 rfl rfl rfl rfl rfl rfl rfl rfl rfl (tr_cok rfl (Or.inr ⟨_, _, rfl, tr_rc (hh_rd (hh_obj hL (k := 99) rfl).1) (by decide)⟩)) c_0 ?_
  have hL0 := c_0.2
  exact tr_if1 .eq 13 37 v0 rfl rfl rfl (fun hc => t ((tr_eq hc).1 rfl)) (fun hc => f ((tr_eq hc).2 rfl))
theorem sg_X9_execute_19 {g : tr_g} {d : Nat} {h : ev_AH} {r : ev_O × ev_AH} {w1 w2 : Option Value} {h1 : ev_AH} {v0 : Int32} (hL : hh_L h) (c_0 : tr_L g d m_X9_isThrown 0 [some (.ref 1099), some (.int 0), some (.int 1)] [] h (.inl (some (.int v0)), h1)) (t : v0 = 0 → tr_L g (d + 1) m_X9_execute 37 [some (.ref 1099), w1, w2] [] h1 r) (f : v0 ≠ 0 → tr_L g (d + 1) m_X9_execute 27 [some (.ref 1099), w1, w2] [] h1 r) : tr_L g (d + 1) m_X9_execute 19 [some (.ref 1099), w1, w2] [.ref 1099] h r := by
  refine tr_ic 0 0 (by decide) rfl ?_
  refine tr_ic 1 1 (by decide) rfl ?_
  refine tr_call (.invokevirtual 66) 66 0 2 8 m_X9_isThrown [.ref 1099, .int 0, .int 1] [] (some (.int v0)) h1 rfl rfl rfl rfl rfl rfl rfl rfl rfl (tr_cok rfl (Or.inr ⟨_, _, rfl, tr_rc (hh_rd (hh_obj hL (k := 99) rfl).1) (by decide)⟩)) c_0 ?_
  have hL0 := c_0.2
  exact tr_if1 .eq 13 37 v0 rfl rfl rfl (fun hc => t ((tr_eq hc).1 rfl)) (fun hc => f ((tr_eq hc).2 rfl))
theorem sg_X9_execute_27 {g : tr_g} {d : Nat} {h : ev_AH} {r : ev_O × ev_AH} {w1 w2 : Option Value} (hL : hh_L h) (hr : r = (.inl (some (.int 0)), hh_si h 99 8 8 (hh_i h 99 26))) : tr_L g d m_X9_execute 27 [some (.ref 1099), w1, w2] [] h r := by
  refine tr_s (.aload_n 0) 1 28 [some (.ref 1099), w1, w2] [.ref 1099] h rfl rfl rfl ?_
  refine tr_s (.aload_n 0) 1 29 [some (.ref 1099), w1, w2] [.ref 1099, .ref 1099] h rfl rfl rfl ?_
  refine tl_gi hL 256 99 8 26 [1100, 1101, 1102, 1103, 1104, 1105, 0, 0, 0, 0, 0, 0, 0, 0, 0, 0, 0, 0, 0, 0, 0, 1106, 0, 1107, 1108, 0, 0, 0] rfl rfl rfl rfl ?_
  refine tl_pf hL 28 99 8 8 [1100, 1101, 1102, 1103, 1104, 1105, 0, 0, 0, 0, 0, 0, 0, 0, 0, 0, 0, 0, 0, 0, 0, 1106, 0, 1107, 1108, 0, 0, 0] (hh_i h 99 26) .int rfl rfl rfl rfl rfl tr_oki ?_
  have hL0 := hh_L_si (sl := 8) (x := (hh_i h 99 26)) hL (show hh_t[99]? = some (.inr (8, [1100, 1101, 1102, 1103, 1104, 1105, 0, 0, 0, 0, 0, 0, 0, 0, 0, 0, 0, 0, 0, 0, 0, 1106, 0, 1107, 1108, 0, 0, 0])) from rfl) rfl
  refine tr_ic 0 0 (by decide) rfl ?_
  exact tl_ret hL0 .ireturn 1 (some (.int 0)) rfl rfl rfl rfl hr
theorem sg_X9_execute_37 {g : tr_g} {d : Nat} {h : ev_AH} {r : ev_O × ev_AH} {w1 w2 : Option Value} {h1 : ev_AH} (hL : hh_L h) (c_0 : tr_L g d m_X9_keeps 0 [some (.ref 1099)] [] h (.inl none, h1)) (o1 : tr_ow w1 = true) (k : tr_L g (d + 1) m_X9_execute 43 [some (.ref 1099), w1, some (.int 0)] [] h1 r) : tr_L g (d + 1) m_X9_execute 37 [some (.ref 1099), w1, w2] [] h r := by
  refine tr_s (.aload_n 0) 1 38 [some (.ref 1099), w1, w2] [.ref 1099] h rfl rfl rfl ?_
  refine tr_call (.invokevirtual 100) 100 0 0 8 m_X9_keeps [.ref 1099] [] none h1 rfl rfl rfl rfl rfl rfl rfl rfl rfl (tr_cok rfl (Or.inr ⟨_, _, rfl, tr_rc (hh_rd (hh_obj hL (k := 99) rfl).1) (by decide)⟩)) c_0 ?_
  have hL0 := c_0.2
  refine tr_ic 0 0 (by decide) rfl ?_
  refine tr_st (.istore_n 2) 1 2 0 (.int 0) rfl rfl rfl rfl rfl rfl (tr_sok (Nat.le_of_ble_eq_true rfl) rfl o1) ?_
  exact k
theorem sg_X9_execute_43 {g : tr_g} {d : Nat} {h : ev_AH} {r : ev_O × ev_AH} {w1 : Option Value} {x2 : Int32} (hL : hh_L h) (t : (hh_i h 99 27) ≤ x2 → tr_L g d m_X9_execute 91 [some (.ref 1099), w1, some (.int x2)] [] h r) (f : x2 < (hh_i h 99 27) → tr_L g d m_X9_execute 51 [some (.ref 1099), w1, some (.int x2)] [] h r) : tr_L g d m_X9_execute 43 [some (.ref 1099), w1, some (.int x2)] [] h r := by
  refine tr_s (.iload_n 2) 1 44 [some (.ref 1099), w1, some (.int x2)] [.int x2] h rfl rfl rfl ?_
  refine tr_s (.aload_n 0) 1 45 [some (.ref 1099), w1, some (.int x2)] [.ref 1099, .int x2] h rfl rfl rfl ?_
  refine tl_gi hL 302 99 8 27 [1100, 1101, 1102, 1103, 1104, 1105, 0, 0, 0, 0, 0, 0, 0, 0, 0, 0, 0, 0, 0, 0, 0, 1106, 0, 1107, 1108, 0, 0, 0] rfl rfl rfl rfl ?_
  exact tr_if2 .ge 43 91 x2 (hh_i h 99 27) rfl rfl rfl (fun hc => t ((tr_ge hc).1 rfl)) (fun hc => f ((tr_ge hc).2 rfl))
theorem sg_X9_execute_51 {g : tr_g} {d : Nat} {h : ev_AH} {r : ev_O × ev_AH} {w1 : Option Value} {x2 v0 : Int32} {h1 : ev_AH} (hL : hh_L h) (c_0 : tr_L g d m_X9_does 0 [some (.ref 1099), some (.int (5 * x2)), none, none] [] (hh_si (hh_si h 99 8 7 0) 99 8 12 0) (.inl (some (.int v0)), h1)) (t : (hh_i (hh_si h1 99 8 14 v0) 99 7) = 0 → tr_L g (d + 1) m_X9_execute 85 [some (.ref 1099), w1, some (.int x2)] [] (hh_si h1 99 8 14 v0) r) (f : (hh_i (hh_si h1 99 8 14 v0) 99 7) ≠ 0 → tr_L g (d + 1) m_X9_execute 79 [some (.ref 1099), w1, some (.int x2)] [] (hh_si h1 99 8 14 v0) r) : tr_L g (d + 1) m_X9_execute 51 [some (.ref 1099), w1, some (.int x2)] [] h r := by
  refine tr_s (.aload_n 0) 1 52 [some (.ref 1099), w1, some (.int x2)] [.ref 1099] h rfl rfl rfl ?_
  refine tr_ic 0 0 (by decide) rfl ?_
  refine tl_pf hL 41 99 8 7 [1100, 1101, 1102, 1103, 1104, 1105, 0, 0, 0, 0, 0, 0, 0, 0, 0, 0, 0, 0, 0, 0, 0, 1106, 0, 1107, 1108, 0, 0, 0] 0 .int rfl rfl rfl rfl rfl tr_oki ?_
  have hL0 := hh_L_si (sl := 7) (x := 0) hL (show hh_t[99]? = some (.inr (8, [1100, 1101, 1102, 1103, 1104, 1105, 0, 0, 0, 0, 0, 0, 0, 0, 0, 0, 0, 0, 0, 0, 0, 1106, 0, 1107, 1108, 0, 0, 0])) from rfl) rfl
  refine tr_s (.aload_n 0) 1 57 [some (.ref 1099), w1, some (.int x2)] [.ref 1099] (hh_si h 99 8 7 0) rfl rfl rfl ?_
  refine tr_ic 0 0 (by decide) rfl ?_
  refine tl_pf hL0 48 99 8 12 [1100, 1101, 1102, 1103, 1104, 1105, 0, 0, 0, 0, 0, 0, 0, 0, 0, 0, 0, 0, 0, 0, 0, 1106, 0, 1107, 1108, 0, 0, 0] 0 .int rfl rfl rfl rfl rfl tr_oki ?_
  have hL1 := hh_L_si (sl := 12) (x := 0) hL0 (show hh_t[99]? = some (.inr (8, [1100, 1101, 1102, 1103, 1104, 1105, 0, 0, 0, 0, 0, 0, 0, 0, 0, 0, 0, 0, 0, 0, 0, 1106, 0, 1107, 1108, 0, 0, 0])) from rfl) rfl
  refine tr_s (.aload_n 0) 1 62 [some (.ref 1099), w1, some (.int x2)] [.ref 1099] (hh_si (hh_si h 99 8 7 0) 99 8 12 0) rfl rfl rfl ?_
  refine tr_s (.aload_n 0) 1 63 [some (.ref 1099), w1, some (.int x2)] [.ref 1099, .ref 1099] (hh_si (hh_si h 99 8 7 0) 99 8 12 0) rfl rfl rfl ?_
  refine tr_ic 5 5 (by decide) rfl ?_
  refine tr_s (.iload_n 2) 1 65 [some (.ref 1099), w1, some (.int x2)] [.int x2, .int 5, .ref 1099, .ref 1099] (hh_si (hh_si h 99 8 7 0) 99 8 12 0) rfl rfl rfl ?_
  refine tr_s .imul 1 66 [some (.ref 1099), w1, some (.int x2)] [.int (5 * x2), .ref 1099, .ref 1099] (hh_si (hh_si h 99 8 7 0) 99 8 12 0) rfl rfl rfl ?_
  refine tr_call (.invokevirtual 317) 317 0 1 8 m_X9_does [.ref 1099, .int (5 * x2)] [.ref 1099] (some (.int v0)) h1 rfl rfl rfl rfl rfl rfl rfl rfl rfl (tr_cok rfl (Or.inr ⟨_, _, rfl, tr_rc (hh_rd (hh_obj hL1 (k := 99) rfl).1) (by decide)⟩)) c_0 ?_
  have hL2 := c_0.2
  refine tl_pf hL2 215 99 8 14 [1100, 1101, 1102, 1103, 1104, 1105, 0, 0, 0, 0, 0, 0, 0, 0, 0, 0, 0, 0, 0, 0, 0, 1106, 0, 1107, 1108, 0, 0, 0] v0 .int rfl rfl rfl rfl rfl tr_oki ?_
  have hL3 := hh_L_si (sl := 14) (x := v0) hL2 (show hh_t[99]? = some (.inr (8, [1100, 1101, 1102, 1103, 1104, 1105, 0, 0, 0, 0, 0, 0, 0, 0, 0, 0, 0, 0, 0, 0, 0, 1106, 0, 1107, 1108, 0, 0, 0])) from rfl) rfl
  refine tr_s (.aload_n 0) 1 73 [some (.ref 1099), w1, some (.int x2)] [.ref 1099] (hh_si h1 99 8 14 v0) rfl rfl rfl ?_
  refine tl_gi hL3 41 99 8 7 [1100, 1101, 1102, 1103, 1104, 1105, 0, 0, 0, 0, 0, 0, 0, 0, 0, 0, 0, 0, 0, 0, 0, 1106, 0, 1107, 1108, 0, 0, 0] rfl rfl rfl rfl ?_
  exact tr_if1 .eq 9 85 (hh_i (hh_si h1 99 8 14 v0) 99 7) rfl rfl rfl (fun hc => t ((tr_eq hc).1 rfl)) (fun hc => f ((tr_eq hc).2 rfl))
theorem sg_X9_execute_79 {g : tr_g} {d : Nat} {h : ev_AH} {r : ev_O × ev_AH} {w1 : Option Value} {x2 v0 : Int32} {h1 : ev_AH} (hL : hh_L h) (c_0 : tr_L g d m_X9_fails 0 [some (.ref 1099), some (.int x2)] [] h (.inl (some (.int v0)), h1)) (hr : r = (.inl (some (.int v0)), h1)) : tr_L g (d + 1) m_X9_execute 79 [some (.ref 1099), w1, some (.int x2)] [] h r := by
  refine tr_s (.aload_n 0) 1 80 [some (.ref 1099), w1, some (.int x2)] [.ref 1099] h rfl rfl rfl ?_
  refine tr_s (.iload_n 2) 1 81 [some (.ref 1099), w1, some (.int x2)] [.int x2, .ref 1099] h rfl rfl rfl ?_
  refine tr_call (.invokevirtual 320) 320 0 1 8 m_X9_fails [.ref 1099, .int x2] [] (some (.int v0)) h1 rfl rfl rfl rfl rfl rfl rfl rfl rfl (tr_cok rfl (Or.inr ⟨_, _, rfl, tr_rc (hh_rd (hh_obj hL (k := 99) rfl).1) (by decide)⟩)) c_0 ?_
  have hL0 := c_0.2
  exact tl_ret hL0 .ireturn 1 (some (.int v0)) rfl rfl rfl rfl hr
theorem sg_X9_execute_85 {g : tr_g} {d : Nat} {h : ev_AH} {r : ev_O × ev_AH} {w1 : Option Value} {x2 : Int32} (hL : hh_L h) (o1 : tr_ow w1 = true) (k : tr_L g d m_X9_execute 43 [some (.ref 1099), w1, some (.int (x2 + 1))] [] h r) : tr_L g d m_X9_execute 85 [some (.ref 1099), w1, some (.int x2)] [] h r := by
  refine tr_inc 2 1 x2 1 (by decide) rfl rfl (tr_sok (Nat.le_of_ble_eq_true rfl) rfl o1) ?_
  refine tr_goto (-45) 43 rfl rfl rfl ?_
  exact k
theorem sg_X9_execute_91 {g : tr_g} {d : Nat} {h : ev_AH} {r : ev_O × ev_AH} {w1 w2 : Option Value} {h1 : ev_AH} {v0 : Int32} (hL : hh_L h) (c_0 : tr_L g d m_X9_ends 0 [some (.ref 1099), some (.int (hh_i h 99 27)), none] [] h (.inl (some (.int v0)), h1)) (hr : r = (.inl (some (.int v0)), h1)) : tr_L g (d + 1) m_X9_execute 91 [some (.ref 1099), w1, w2] [] h r := by
  refine tr_s (.aload_n 0) 1 92 [some (.ref 1099), w1, w2] [.ref 1099] h rfl rfl rfl ?_
  refine tr_s (.aload_n 0) 1 93 [some (.ref 1099), w1, w2] [.ref 1099, .ref 1099] h rfl rfl rfl ?_
  refine tl_gi hL 302 99 8 27 [1100, 1101, 1102, 1103, 1104, 1105, 0, 0, 0, 0, 0, 0, 0, 0, 0, 0, 0, 0, 0, 0, 0, 1106, 0, 1107, 1108, 0, 0, 0] rfl rfl rfl rfl ?_
  refine tr_call (.invokevirtual 107) 107 0 1 8 m_X9_ends [.ref 1099, .int (hh_i h 99 27)] [] (some (.int v0)) h1 rfl rfl rfl rfl rfl rfl rfl rfl rfl (tr_cok rfl (Or.inr ⟨_, _, rfl, tr_rc (hh_rd (hh_obj hL (k := 99) rfl).1) (by decide)⟩)) c_0 ?_
  have hL0 := c_0.2
  exact tl_ret hL0 .ireturn 1 (some (.int v0)) rfl rfl rfl rfl hr
theorem sg_X9_isInput_0 {g : tr_g} {d : Nat} {h : ev_AH} {r : ev_O × ev_AH} {h1 : ev_AH} {v0 : Int32} (hL : hh_L h) (c_0 : tr_L g d m_X9_readsCommand 0 [some (.ref 1099), none, none] [] (hh_si (hh_si h 99 8 26 0) 99 8 27 0) (.inl (some (.int v0)), h1)) (k : tr_L g (d + 1) m_X9_isInput 15 [some (.ref 1099), some (.int v0)] [] h1 r) : tr_L g (d + 1) m_X9_isInput 0 [some (.ref 1099), none] [] h r := by
  refine tr_s (.aload_n 0) 1 1 [some (.ref 1099), none] [.ref 1099] h rfl rfl rfl ?_
  refine tr_ic 0 0 (by decide) rfl ?_
  refine tl_pf hL 256 99 8 26 [1100, 1101, 1102, 1103, 1104, 1105, 0, 0, 0, 0, 0, 0, 0, 0, 0, 0, 0, 0, 0, 0, 0, 1106, 0, 1107, 1108, 0, 0, 0] 0 .int rfl rfl rfl rfl rfl tr_oki ?_
  have hL0 := hh_L_si (sl := 26) (x := 0) hL (show hh_t[99]? = some (.inr (8, [1100, 1101, 1102, 1103, 1104, 1105, 0, 0, 0, 0, 0, 0, 0, 0, 0, 0, 0, 0, 0, 0, 0, 1106, 0, 1107, 1108, 0, 0, 0])) from rfl) rfl
  refine tr_s (.aload_n 0) 1 6 [some (.ref 1099), none] [.ref 1099] (hh_si h 99 8 26 0) rfl rfl rfl ?_
  refine tr_ic 0 0 (by decide) rfl ?_
  refine tl_pf hL0 302 99 8 27 [1100, 1101, 1102, 1103, 1104, 1105, 0, 0, 0, 0, 0, 0, 0, 0, 0, 0, 0, 0, 0, 0, 0, 1106, 0, 1107, 1108, 0, 0, 0] 0 .int rfl rfl rfl rfl rfl tr_oki ?_
  have hL1 := hh_L_si (sl := 27) (x := 0) hL0 (show hh_t[99]? = some (.inr (8, [1100, 1101, 1102, 1103, 1104, 1105, 0, 0, 0, 0, 0, 0, 0, 0, 0, 0, 0, 0, 0, 0, 0, 1106, 0, 1107, 1108, 0, 0, 0])) from rfl) rfl
  refine tr_s (.aload_n 0) 1 11 [some (.ref 1099), none] [.ref 1099] (hh_si (hh_si h 99 8 26 0) 99 8 27 0) rfl rfl rfl ?_
  refine tr_call (.invokevirtual 311) 311 0 0 8 m_X9_readsCommand [.ref 1099] [] (some (.int v0)) h1 rfl rfl rfl rfl rfl rfl rfl rfl rfl (tr_cok rfl (Or.inr ⟨_, _, rfl, tr_rc (hh_rd (hh_obj hL1 (k := 99) rfl).1) (by decide)⟩)) c_0 ?_
  have hL2 := c_0.2
  refine tr_st (.istore_n 1) 1 1 0 (.int v0) rfl rfl rfl rfl rfl rfl rfl ?_
  exact k
theorem sg_X9_isInput_15 {g : tr_g} {d : Nat} {h : ev_AH} {r : ev_O × ev_AH} {x1 : Int32} (hL : hh_L h) (t : x1 = 0 → tr_L g d m_X9_isInput 36 [some (.ref 1099), some (.int x1)] [] h r) (f : x1 ≠ 0 → tr_L g d m_X9_isInput 19 [some (.ref 1099), some (.int x1)] [] h r) : tr_L g d m_X9_isInput 15 [some (.ref 1099), some (.int x1)] [] h r := by
  refine tr_s (.iload_n 1) 1 16 [some (.ref 1099), some (.int x1)] [.int x1] h rfl rfl rfl ?_
  exact tr_if1 .eq 20 36 x1 rfl rfl rfl (fun hc => t ((tr_eq hc).1 rfl)) (fun hc => f ((tr_eq hc).2 rfl))
theorem sg_X9_isInput_19 {g : tr_g} {d : Nat} {h : ev_AH} {r : ev_O × ev_AH} {x1 v0 : Int32} {h1 : ev_AH} (hL : hh_L h) (c_0 : tr_L g d m_X9_isSign 0 [some (.ref 1099), some (.int 59), none] [] h (.inl (some (.int v0)), h1)) (t : v0 = 0 → tr_L g (d + 1) m_X9_isInput 36 [some (.ref 1099), some (.int x1)] [] h1 r) (f : v0 ≠ 0 → tr_L g (d + 1) m_X9_isInput 28 [some (.ref 1099), some (.int x1)] [] h1 r) : tr_L g (d + 1) m_X9_isInput 19 [some (.ref 1099), some (.int x1)] [] h r := by
  refine tr_s (.aload_n 0) 1 20 [some (.ref 1099), some (.int x1)] [.ref 1099] h rfl rfl rfl ?_
  refine tr_bi 59 59 (by decide) rfl ?_
  refine tr_call (.invokevirtual 271) 271 0 1 8 m_X9_isSign [.ref 1099, .int 59] [] (some (.int v0)) h1 rfl rfl rfl rfl rfl rfl rfl rfl rfl (tr_cok rfl (Or.inr ⟨_, _, rfl, tr_rc (hh_rd (hh_obj hL (k := 99) rfl).1) (by decide)⟩)) c_0 ?_
  have hL0 := c_0.2
  exact tr_if1 .eq 11 36 v0 rfl rfl rfl (fun hc => t ((tr_eq hc).1 rfl)) (fun hc => f ((tr_eq hc).2 rfl))
theorem sg_X9_isInput_28 {g : tr_g} {d : Nat} {h : ev_AH} {r : ev_O × ev_AH} {w1 : Option Value} {h1 : ev_AH} {v0 : Int32} (hL : hh_L h) (c_0 : tr_L g d m_X9_readsCommand 0 [some (.ref 1099), none, none] [] h (.inl (some (.int v0)), h1)) (k : tr_L g (d + 1) m_X9_isInput 15 [some (.ref 1099), some (.int v0)] [] h1 r) : tr_L g (d + 1) m_X9_isInput 28 [some (.ref 1099), w1] [] h r := by
  refine tr_s (.aload_n 0) 1 29 [some (.ref 1099), w1] [.ref 1099] h rfl rfl rfl ?_
  refine tr_call (.invokevirtual 311) 311 0 0 8 m_X9_readsCommand [.ref 1099] [] (some (.int v0)) h1 rfl rfl rfl rfl rfl rfl rfl rfl rfl (tr_cok rfl (Or.inr ⟨_, _, rfl, tr_rc (hh_rd (hh_obj hL (k := 99) rfl).1) (by decide)⟩)) c_0 ?_
  have hL0 := c_0.2
  refine tr_st (.istore_n 1) 1 1 0 (.int v0) rfl rfl rfl rfl rfl rfl rfl ?_
  refine tr_goto (-18) 15 rfl rfl rfl ?_
  exact k
theorem sg_X9_isInput_36 {g : tr_g} {d : Nat} {h : ev_AH} {r : ev_O × ev_AH} {x1 : Int32} (hL : hh_L h) (t : x1 = 0 → tr_L g d m_X9_isInput 55 [some (.ref 1099), some (.int x1)] [] h r) (f : x1 ≠ 0 → tr_L g d m_X9_isInput 40 [some (.ref 1099), some (.int x1)] [] h r) : tr_L g d m_X9_isInput 36 [some (.ref 1099), some (.int x1)] [] h r := by
  refine tr_s (.iload_n 1) 1 37 [some (.ref 1099), some (.int x1)] [.int x1] h rfl rfl rfl ?_
  exact tr_if1 .eq 18 55 x1 rfl rfl rfl (fun hc => t ((tr_eq hc).1 rfl)) (fun hc => f ((tr_eq hc).2 rfl))
theorem sg_X9_isInput_40 {g : tr_g} {d : Nat} {h : ev_AH} {r : ev_O × ev_AH} {w1 : Option Value} (hL : hh_L h) (t : (hh_i h 99 26) ≠ (hh_i h 99 25) → tr_L g d m_X9_isInput 55 [some (.ref 1099), w1] [] h r) (f : (hh_i h 99 26) = (hh_i h 99 25) → tr_L g d m_X9_isInput 51 [some (.ref 1099), w1] [] h r) : tr_L g d m_X9_isInput 40 [some (.ref 1099), w1] [] h r := by
  refine tr_s (.aload_n 0) 1 41 [some (.ref 1099), w1] [.ref 1099] h rfl rfl rfl ?_
  refine tl_gi hL 256 99 8 26 [1100, 1101, 1102, 1103, 1104, 1105, 0, 0, 0, 0, 0, 0, 0, 0, 0, 0, 0, 0, 0, 0, 0, 1106, 0, 1107, 1108, 0, 0, 0] rfl rfl rfl rfl ?_
  refine tr_s (.aload_n 0) 1 45 [some (.ref 1099), w1] [.ref 1099, .int (hh_i h 99 26)] h rfl rfl rfl ?_
  refine tl_gi hL 253 99 8 25 [1100, 1101, 1102, 1103, 1104, 1105, 0, 0, 0, 0, 0, 0, 0, 0, 0, 0, 0, 0, 0, 0, 0, 1106, 0, 1107, 1108, 0, 0, 0] rfl rfl rfl rfl ?_
  exact tr_if2 .ne 7 55 (hh_i h 99 26) (hh_i h 99 25) rfl rfl rfl (fun hc => t ((tr_ne hc).1 rfl)) (fun hc => f ((tr_ne hc).2 rfl))
theorem sg_X9_isInput_51 {g : tr_g} {d : Nat} {h : ev_AH} {r : ev_O × ev_AH} {w0 w1 : Option Value} (hL : hh_L h) (hr : r = (.inl (some (.int 1)), h)) : tr_L g d m_X9_isInput 51 [w0, w1] [] h r := by
  refine tr_ic 1 1 (by decide) rfl ?_
  refine tr_goto 4 56 rfl rfl rfl ?_
  exact tl_ret hL .ireturn 1 (some (.int 1)) rfl rfl rfl rfl hr
theorem sg_X9_isInput_55 {g : tr_g} {d : Nat} {h : ev_AH} {r : ev_O × ev_AH} {w0 w1 : Option Value} (hL : hh_L h) (hr : r = (.inl (some (.int 0)), h)) : tr_L g d m_X9_isInput 55 [w0, w1] [] h r := by
  refine tr_ic 0 0 (by decide) rfl ?_
  exact tl_ret hL .ireturn 1 (some (.int 0)) rfl rfl rfl rfl hr
theorem sg_X9_readsCommand_0 {g : tr_g} {d : Nat} {h : ev_AH} {r : ev_O × ev_AH} {h1 h2 : ev_AH} {v0 v1 : Int32} (hL : hh_L h) (c_0 : tr_L g d m_X9_now 0 [some (.ref 1099)] [] h (.inl (some (.int v0)), h1)) (c_1 : tr_L g d m_X9_isFirst 0 [some (.int v0)] [] h1 (.inl (some (.int v1)), h2)) (t : v1 ≠ 0 → tr_L g (d + 1) m_X9_readsCommand 21 [some (.ref 1099), some (.int (5 * (hh_i h 99 27))), some (.int v0)] [] h2 r) (f : v1 = 0 → tr_L g (d + 1) m_X9_readsCommand 19 [some (.ref 1099), some (.int (5 * (hh_i h 99 27))), some (.int v0)] [] h2 r) : tr_L g (d + 1) m_X9_readsCommand 0 [some (.ref 1099), none, none] [] h r := by
  refine tr_ic 5 5 (by decide) rfl ?_
  refine tr_s (.aload_n 0) 1 2 [some (.ref 1099), none, none] [.ref 1099, .int 5] h rfl rfl rfl ?_
  refine tl_gi hL 302 99 8 27 [1100, 1101, 1102, 1103, 1104, 1105, 0, 0, 0, 0, 0, 0, 0, 0, 0, 0, 0, 0, 0, 0, 0, 1106, 0, 1107, 1108, 0, 0, 0] rfl rfl rfl rfl ?_
  refine tr_s .imul 1 6 [some (.ref 1099), none, none] [.int (5 * (hh_i h 99 27))] h rfl rfl rfl ?_
  refine tr_st (.istore_n 1) 1 1 0 (.int (5 * (hh_i h 99 27))) rfl rfl rfl rfl rfl rfl rfl ?_
  refine tr_s (.aload_n 0) 1 8 [some (.ref 1099), some (.int (5 * (hh_i h 99 27))), none] [.ref 1099] h rfl rfl rfl ?_
  refine tr_call (.invokevirtual 259) 259 0 0 8 m_X9_now [.ref 1099] [] (some (.int v0)) h1 rfl rfl rfl rfl rfl rfl rfl rfl rfl (tr_cok rfl (Or.inr ⟨_, _, rfl, tr_rc (hh_rd (hh_obj hL (k := 99) rfl).1) (by decide)⟩)) c_0 ?_
  have hL0 := c_0.2
  refine tr_st (.istore_n 2) 1 2 0 (.int v0) rfl rfl rfl rfl rfl rfl rfl ?_
  refine tr_s (.iload_n 2) 1 13 [some (.ref 1099), some (.int (5 * (hh_i h 99 27))), some (.int v0)] [.int v0] h1 rfl rfl rfl ?_
  refine tr_call (.invokestatic 305) 305 2 1 0 m_X9_isFirst [.int v0] [] (some (.int v1)) h2 rfl rfl rfl rfl rfl rfl rfl rfl rfl (tr_cok rfl (Or.inl rfl)) c_1 ?_
  have hL1 := c_1.2
  exact tr_if1 .ne 5 21 v1 rfl rfl rfl (fun hc => t ((tr_ne hc).1 rfl)) (fun hc => f ((tr_ne hc).2 rfl))
theorem sg_X9_readsCommand_19 {g : tr_g} {d : Nat} {h : ev_AH} {r : ev_O × ev_AH} {w0 w1 w2 : Option Value} (hL : hh_L h) (hr : r = (.inl (some (.int 0)), h)) : tr_L g d m_X9_readsCommand 19 [w0, w1, w2] [] h r := by
  refine tr_ic 0 0 (by decide) rfl ?_
  exact tl_ret hL .ireturn 1 (some (.int 0)) rfl rfl rfl rfl hr
theorem sg_X9_readsCommand_21 {g : tr_g} {d : Nat} {h : ev_AH} {r : ev_O × ev_AH} {x1 x2 v0 : Int32} {j0 : Nat} {h1 : ev_AH} (hL : hh_L h) (e0 : x1 = Int32.ofNat j0) (b0 : j0 < 155) (c_0 : tr_L g d m_X9_readsRest 0 [some (.ref 1099), some (.int x2), some (.int x1)] [] (hh_si (hh_si (hh_sa h 108 0 ((hh_a h 108).set j0 x2)) 99 8 26 ((hh_i (hh_sa h 108 0 ((hh_a h 108).set j0 x2)) 99 26) + 1)) 99 8 27 ((hh_i (hh_si (hh_sa h 108 0 ((hh_a h 108).set j0 x2)) 99 8 26 ((hh_i (hh_sa h 108 0 ((hh_a h 108).set j0 x2)) 99 26) + 1)) 99 27) + 1)) (.inl (some (.int v0)), h1)) (hb0 : v0 = 0 ∨ v0 = 1) (hr : r = (.inl (some (.int v0)), h1)) : tr_L g (d + 1) m_X9_readsCommand 21 [some (.ref 1099), some (.int x1), some (.int x2)] [] h r := by
  refine tr_s (.aload_n 0) 1 22 [some (.ref 1099), some (.int x1), some (.int x2)] [.ref 1099] h rfl rfl rfl ?_
  refine tl_gr hL 38 99 8 24 108 [1100, 1101, 1102, 1103, 1104, 1105, 0, 0, 0, 0, 0, 0, 0, 0, 0, 0, 0, 0, 0, 0, 0, 1106, 0, 1107, 1108, 0, 0, 0] rfl rfl rfl rfl ?_
  refine tr_s (.iload_n 1) 1 26 [some (.ref 1099), some (.int x1), some (.int x2)] [.int x1, .ref 1108] h rfl rfl rfl ?_
  refine tr_s (.iload_n 2) 1 27 [some (.ref 1099), some (.int x1), some (.int x2)] [.int x2, .int x1, .ref 1108] h rfl rfl rfl ?_
  refine tl_ias hL 108 155 j0 x1 x2 rfl rfl e0 b0 (by decide) ?_
  have hL0 := hh_L_ss (j := j0) (x := x2) hL (show hh_t[108]? = some (.inl (0, 155)) from rfl)
  refine tr_s (.aload_n 0) 1 29 [some (.ref 1099), some (.int x1), some (.int x2)] [.ref 1099] (hh_sa h 108 0 ((hh_a h 108).set j0 x2)) rfl rfl rfl ?_
  refine tr_s .dup 1 30 [some (.ref 1099), some (.int x1), some (.int x2)] [.ref 1099, .ref 1099] (hh_sa h 108 0 ((hh_a h 108).set j0 x2)) rfl rfl rfl ?_
  refine tl_gi hL0 256 99 8 26 [1100, 1101, 1102, 1103, 1104, 1105, 0, 0, 0, 0, 0, 0, 0, 0, 0, 0, 0, 0, 0, 0, 0, 1106, 0, 1107, 1108, 0, 0, 0] rfl rfl rfl rfl ?_
  refine tr_ic 1 1 (by decide) rfl ?_
  refine tr_s .iadd 1 35 [some (.ref 1099), some (.int x1), some (.int x2)] [.int ((hh_i (hh_sa h 108 0 ((hh_a h 108).set j0 x2)) 99 26) + 1), .ref 1099] (hh_sa h 108 0 ((hh_a h 108).set j0 x2)) rfl rfl rfl ?_
  refine tl_pf hL0 256 99 8 26 [1100, 1101, 1102, 1103, 1104, 1105, 0, 0, 0, 0, 0, 0, 0, 0, 0, 0, 0, 0, 0, 0, 0, 1106, 0, 1107, 1108, 0, 0, 0] ((hh_i (hh_sa h 108 0 ((hh_a h 108).set j0 x2)) 99 26) + 1) .int rfl rfl rfl rfl rfl tr_oki ?_
  have hL1 := hh_L_si (sl := 26) (x := ((hh_i (hh_sa h 108 0 ((hh_a h 108).set j0 x2)) 99 26) + 1)) hL0 (show hh_t[99]? = some (.inr (8, [1100, 1101, 1102, 1103, 1104, 1105, 0, 0, 0, 0, 0, 0, 0, 0, 0, 0, 0, 0, 0, 0, 0, 1106, 0, 1107, 1108, 0, 0, 0])) from rfl) rfl
  refine tr_s (.aload_n 0) 1 39 [some (.ref 1099), some (.int x1), some (.int x2)] [.ref 1099] (hh_si (hh_sa h 108 0 ((hh_a h 108).set j0 x2)) 99 8 26 ((hh_i (hh_sa h 108 0 ((hh_a h 108).set j0 x2)) 99 26) + 1)) rfl rfl rfl ?_
  refine tr_s .dup 1 40 [some (.ref 1099), some (.int x1), some (.int x2)] [.ref 1099, .ref 1099] (hh_si (hh_sa h 108 0 ((hh_a h 108).set j0 x2)) 99 8 26 ((hh_i (hh_sa h 108 0 ((hh_a h 108).set j0 x2)) 99 26) + 1)) rfl rfl rfl ?_
  refine tl_gi hL1 302 99 8 27 [1100, 1101, 1102, 1103, 1104, 1105, 0, 0, 0, 0, 0, 0, 0, 0, 0, 0, 0, 0, 0, 0, 0, 1106, 0, 1107, 1108, 0, 0, 0] rfl rfl rfl rfl ?_
  refine tr_ic 1 1 (by decide) rfl ?_
  refine tr_s .iadd 1 45 [some (.ref 1099), some (.int x1), some (.int x2)] [.int ((hh_i (hh_si (hh_sa h 108 0 ((hh_a h 108).set j0 x2)) 99 8 26 ((hh_i (hh_sa h 108 0 ((hh_a h 108).set j0 x2)) 99 26) + 1)) 99 27) + 1), .ref 1099] (hh_si (hh_sa h 108 0 ((hh_a h 108).set j0 x2)) 99 8 26 ((hh_i (hh_sa h 108 0 ((hh_a h 108).set j0 x2)) 99 26) + 1)) rfl rfl rfl ?_
  refine tl_pf hL1 302 99 8 27 [1100, 1101, 1102, 1103, 1104, 1105, 0, 0, 0, 0, 0, 0, 0, 0, 0, 0, 0, 0, 0, 0, 0, 1106, 0, 1107, 1108, 0, 0, 0] ((hh_i (hh_si (hh_sa h 108 0 ((hh_a h 108).set j0 x2)) 99 8 26 ((hh_i (hh_sa h 108 0 ((hh_a h 108).set j0 x2)) 99 26) + 1)) 99 27) + 1) .int rfl rfl rfl rfl rfl tr_oki ?_
  have hL2 := hh_L_si (sl := 27) (x := ((hh_i (hh_si (hh_sa h 108 0 ((hh_a h 108).set j0 x2)) 99 8 26 ((hh_i (hh_sa h 108 0 ((hh_a h 108).set j0 x2)) 99 26) + 1)) 99 27) + 1)) hL1 (show hh_t[99]? = some (.inr (8, [1100, 1101, 1102, 1103, 1104, 1105, 0, 0, 0, 0, 0, 0, 0, 0, 0, 0, 0, 0, 0, 0, 0, 1106, 0, 1107, 1108, 0, 0, 0])) from rfl) rfl
  refine tr_s (.aload_n 0) 1 49 [some (.ref 1099), some (.int x1), some (.int x2)] [.ref 1099] (hh_si (hh_si (hh_sa h 108 0 ((hh_a h 108).set j0 x2)) 99 8 26 ((hh_i (hh_sa h 108 0 ((hh_a h 108).set j0 x2)) 99 26) + 1)) 99 8 27 ((hh_i (hh_si (hh_sa h 108 0 ((hh_a h 108).set j0 x2)) 99 8 26 ((hh_i (hh_sa h 108 0 ((hh_a h 108).set j0 x2)) 99 26) + 1)) 99 27) + 1)) rfl rfl rfl ?_
  refine tr_s (.iload_n 2) 1 50 [some (.ref 1099), some (.int x1), some (.int x2)] [.int x2, .ref 1099] (hh_si (hh_si (hh_sa h 108 0 ((hh_a h 108).set j0 x2)) 99 8 26 ((hh_i (hh_sa h 108 0 ((hh_a h 108).set j0 x2)) 99 26) + 1)) 99 8 27 ((hh_i (hh_si (hh_sa h 108 0 ((hh_a h 108).set j0 x2)) 99 8 26 ((hh_i (hh_sa h 108 0 ((hh_a h 108).set j0 x2)) 99 26) + 1)) 99 27) + 1)) rfl rfl rfl ?_
  refine tr_s (.iload_n 1) 1 51 [some (.ref 1099), some (.int x1), some (.int x2)] [.int x1, .int x2, .ref 1099] (hh_si (hh_si (hh_sa h 108 0 ((hh_a h 108).set j0 x2)) 99 8 26 ((hh_i (hh_sa h 108 0 ((hh_a h 108).set j0 x2)) 99 26) + 1)) 99 8 27 ((hh_i (hh_si (hh_sa h 108 0 ((hh_a h 108).set j0 x2)) 99 8 26 ((hh_i (hh_sa h 108 0 ((hh_a h 108).set j0 x2)) 99 26) + 1)) 99 27) + 1)) rfl rfl rfl ?_
  refine tr_call (.invokevirtual 308) 308 0 2 8 m_X9_readsRest [.ref 1099, .int x2, .int x1] [] (some (.int v0)) h1 rfl rfl rfl rfl rfl rfl rfl rfl rfl (tr_cok rfl (Or.inr ⟨_, _, rfl, tr_rc (hh_rd (hh_obj hL2 (k := 99) rfl).1) (by decide)⟩)) c_0 ?_
  have hL3 := c_0.2
  exact tl_ret hL3 .ireturn 1 (some (.int v0)) rfl rfl rfl (tr_eb rfl hb0) hr
theorem sg_X9_now_0 {g : tr_g} {d : Nat} {h : ev_AH} {r : ev_O × ev_AH} (hL : hh_L h) (t : (hh_i h 99 25) ≤ (hh_i h 99 26) → tr_L g d m_X9_now 23 [some (.ref 1099)] [] h r) (f : (hh_i h 99 26) < (hh_i h 99 25) → tr_L g d m_X9_now 11 [some (.ref 1099)] [] h r) : tr_L g d m_X9_now 0 [some (.ref 1099)] [] h r := by
  refine tr_s (.aload_n 0) 1 1 [some (.ref 1099)] [.ref 1099] h rfl rfl rfl ?_
  refine tl_gi hL 256 99 8 26 [1100, 1101, 1102, 1103, 1104, 1105, 0, 0, 0, 0, 0, 0, 0, 0, 0, 0, 0, 0, 0, 0, 0, 1106, 0, 1107, 1108, 0, 0, 0] rfl rfl rfl rfl ?_
  refine tr_s (.aload_n 0) 1 5 [some (.ref 1099)] [.ref 1099, .int (hh_i h 99 26)] h rfl rfl rfl ?_
  refine tl_gi hL 253 99 8 25 [1100, 1101, 1102, 1103, 1104, 1105, 0, 0, 0, 0, 0, 0, 0, 0, 0, 0, 0, 0, 0, 0, 0, 1106, 0, 1107, 1108, 0, 0, 0] rfl rfl rfl rfl ?_
  exact tr_if2 .ge 15 23 (hh_i h 99 26) (hh_i h 99 25) rfl rfl rfl (fun hc => t ((tr_ge hc).1 rfl)) (fun hc => f ((tr_ge hc).2 rfl))
theorem sg_X9_now_11 {g : tr_g} {d : Nat} {h : ev_AH} {r : ev_O × ev_AH} {j0 : Nat} (hL : hh_L h) (e0 : hh_i h 99 26 = Int32.ofNat j0) (b0 : j0 < 60) (hr : r = (.inl (some (.int ((hh_a h 107).getD j0 0))), h)) : tr_L g d m_X9_now 11 [some (.ref 1099)] [] h r := by
  refine tr_s (.aload_n 0) 1 12 [some (.ref 1099)] [.ref 1099] h rfl rfl rfl ?_
  refine tl_gr hL 35 99 8 23 107 [1100, 1101, 1102, 1103, 1104, 1105, 0, 0, 0, 0, 0, 0, 0, 0, 0, 0, 0, 0, 0, 0, 0, 1106, 0, 1107, 1108, 0, 0, 0] rfl rfl rfl rfl ?_
  refine tr_s (.aload_n 0) 1 16 [some (.ref 1099)] [.ref 1099, .ref 1107] h rfl rfl rfl ?_
  refine tl_gi hL 256 99 8 26 [1100, 1101, 1102, 1103, 1104, 1105, 0, 0, 0, 0, 0, 0, 0, 0, 0, 0, 0, 0, 0, 0, 0, 1106, 0, 1107, 1108, 0, 0, 0] rfl rfl rfl rfl ?_
  refine tl_ald hL .iaload 107 0 60 j0 (hh_i h 99 26) rfl (by decide) rfl e0 b0 (by decide) ?_
  refine tr_goto 4 24 rfl rfl rfl ?_
  exact tl_ret hL .ireturn 1 (some (.int ((hh_a h 107).getD j0 0))) rfl rfl rfl rfl hr
theorem sg_X9_now_23 {g : tr_g} {d : Nat} {h : ev_AH} {r : ev_O × ev_AH} {w0 : Option Value} (hL : hh_L h) (hr : r = (.inl (some (.int (-1))), h)) : tr_L g d m_X9_now 23 [w0] [] h r := by
  refine tr_ic (-1) (-1) (by decide) rfl ?_
  exact tl_ret hL .ireturn 1 (some (.int (-1))) rfl rfl rfl rfl hr
theorem sg_X9_isFirst_0 {g : tr_g} {d : Nat} {h : ev_AH} {r : ev_O × ev_AH} {x0 : Int32} (hL : hh_L h) (t : x0 = 99 → tr_L g d m_X9_isFirst 30 [some (.int x0)] [] h r) (f : x0 ≠ 99 → tr_L g d m_X9_isFirst 6 [some (.int x0)] [] h r) : tr_L g d m_X9_isFirst 0 [some (.int x0)] [] h r := by
  refine tr_s (.iload_n 0) 1 1 [some (.int x0)] [.int x0] h rfl rfl rfl ?_
  refine tr_bi 99 99 (by decide) rfl ?_
  exact tr_if2 .eq 27 30 x0 99 rfl rfl rfl (fun hc => t ((tr_eq hc).1 rfl)) (fun hc => f ((tr_eq hc).2 rfl))
theorem sg_X9_isFirst_6 {g : tr_g} {d : Nat} {h : ev_AH} {r : ev_O × ev_AH} {x0 : Int32} (hL : hh_L h) (t : x0 = 109 → tr_L g d m_X9_isFirst 30 [some (.int x0)] [] h r) (f : x0 ≠ 109 → tr_L g d m_X9_isFirst 12 [some (.int x0)] [] h r) : tr_L g d m_X9_isFirst 6 [some (.int x0)] [] h r := by
  refine tr_s (.iload_n 0) 1 7 [some (.int x0)] [.int x0] h rfl rfl rfl ?_
  refine tr_bi 109 109 (by decide) rfl ?_
  exact tr_if2 .eq 21 30 x0 109 rfl rfl rfl (fun hc => t ((tr_eq hc).1 rfl)) (fun hc => f ((tr_eq hc).2 rfl))
theorem sg_X9_isFirst_12 {g : tr_g} {d : Nat} {h : ev_AH} {r : ev_O × ev_AH} {x0 : Int32} (hL : hh_L h) (t : x0 = 115 → tr_L g d m_X9_isFirst 30 [some (.int x0)] [] h r) (f : x0 ≠ 115 → tr_L g d m_X9_isFirst 18 [some (.int x0)] [] h r) : tr_L g d m_X9_isFirst 12 [some (.int x0)] [] h r := by
  refine tr_s (.iload_n 0) 1 13 [some (.int x0)] [.int x0] h rfl rfl rfl ?_
  refine tr_bi 115 115 (by decide) rfl ?_
  exact tr_if2 .eq 15 30 x0 115 rfl rfl rfl (fun hc => t ((tr_eq hc).1 rfl)) (fun hc => f ((tr_eq hc).2 rfl))
theorem sg_X9_isFirst_18 {g : tr_g} {d : Nat} {h : ev_AH} {r : ev_O × ev_AH} {x0 : Int32} (hL : hh_L h) (t : x0 = 118 → tr_L g d m_X9_isFirst 30 [some (.int x0)] [] h r) (f : x0 ≠ 118 → tr_L g d m_X9_isFirst 24 [some (.int x0)] [] h r) : tr_L g d m_X9_isFirst 18 [some (.int x0)] [] h r := by
  refine tr_s (.iload_n 0) 1 19 [some (.int x0)] [.int x0] h rfl rfl rfl ?_
  refine tr_bi 118 118 (by decide) rfl ?_
  exact tr_if2 .eq 9 30 x0 118 rfl rfl rfl (fun hc => t ((tr_eq hc).1 rfl)) (fun hc => f ((tr_eq hc).2 rfl))
theorem sg_X9_isFirst_24 {g : tr_g} {d : Nat} {h : ev_AH} {r : ev_O × ev_AH} {x0 : Int32} (hL : hh_L h) (t : x0 ≠ 114 → tr_L g d m_X9_isFirst 34 [some (.int x0)] [] h r) (f : x0 = 114 → tr_L g d m_X9_isFirst 30 [some (.int x0)] [] h r) : tr_L g d m_X9_isFirst 24 [some (.int x0)] [] h r := by
  refine tr_s (.iload_n 0) 1 25 [some (.int x0)] [.int x0] h rfl rfl rfl ?_
  refine tr_bi 114 114 (by decide) rfl ?_
  exact tr_if2 .ne 7 34 x0 114 rfl rfl rfl (fun hc => t ((tr_ne hc).1 rfl)) (fun hc => f ((tr_ne hc).2 rfl))
theorem sg_X9_isFirst_30 {g : tr_g} {d : Nat} {h : ev_AH} {r : ev_O × ev_AH} {w0 : Option Value} (hL : hh_L h) (hr : r = (.inl (some (.int 1)), h)) : tr_L g d m_X9_isFirst 30 [w0] [] h r := by
  refine tr_ic 1 1 (by decide) rfl ?_
  refine tr_goto 4 35 rfl rfl rfl ?_
  exact tl_ret hL .ireturn 1 (some (.int 1)) rfl rfl rfl rfl hr
theorem sg_X9_isFirst_34 {g : tr_g} {d : Nat} {h : ev_AH} {r : ev_O × ev_AH} {w0 : Option Value} (hL : hh_L h) (hr : r = (.inl (some (.int 0)), h)) : tr_L g d m_X9_isFirst 34 [w0] [] h r := by
  refine tr_ic 0 0 (by decide) rfl ?_
  exact tl_ret hL .ireturn 1 (some (.int 0)) rfl rfl rfl rfl hr
theorem sg_X9_readsRest_0_t99 {g : tr_g} {d : Nat} {h : ev_AH} {r : ev_O × ev_AH} {x1 x2 : Int32} (hL : hh_L h) (e : x1 = 99) (k : tr_L g d m_X9_readsRest 44 [some (.ref 1099), some (.int x1), some (.int x2)] [] h r) : tr_L g d m_X9_readsRest 0 [some (.ref 1099), some (.int x1), some (.int x2)] [] h r := by
  refine tr_s (.iload_n 1) 1 1 [some (.ref 1099), some (.int x1), some (.int x2)] [.int x1] h rfl rfl rfl ?_
  exact tr_s (.lookupswitch 115 #[(99, 43), (109, 49), (115, 55), (118, 107)]) 43 44 [some (.ref 1099), some (.int x1), some (.int x2)] [] h rfl rfl (by rw [e]; rfl) k
theorem sg_X9_readsRest_0_t109 {g : tr_g} {d : Nat} {h : ev_AH} {r : ev_O × ev_AH} {x1 x2 : Int32} (hL : hh_L h) (e : x1 = 109) (k : tr_L g d m_X9_readsRest 50 [some (.ref 1099), some (.int x1), some (.int x2)] [] h r) : tr_L g d m_X9_readsRest 0 [some (.ref 1099), some (.int x1), some (.int x2)] [] h r := by
  refine tr_s (.iload_n 1) 1 1 [some (.ref 1099), some (.int x1), some (.int x2)] [.int x1] h rfl rfl rfl ?_
  exact tr_s (.lookupswitch 115 #[(99, 43), (109, 49), (115, 55), (118, 107)]) 43 50 [some (.ref 1099), some (.int x1), some (.int x2)] [] h rfl rfl (by rw [e]; rfl) k
theorem sg_X9_readsRest_0_t115 {g : tr_g} {d : Nat} {h : ev_AH} {r : ev_O × ev_AH} {x1 x2 : Int32} (hL : hh_L h) (e : x1 = 115) (k : tr_L g d m_X9_readsRest 56 [some (.ref 1099), some (.int x1), some (.int x2)] [] h r) : tr_L g d m_X9_readsRest 0 [some (.ref 1099), some (.int x1), some (.int x2)] [] h r := by
  refine tr_s (.iload_n 1) 1 1 [some (.ref 1099), some (.int x1), some (.int x2)] [.int x1] h rfl rfl rfl ?_
  exact tr_s (.lookupswitch 115 #[(99, 43), (109, 49), (115, 55), (118, 107)]) 43 56 [some (.ref 1099), some (.int x1), some (.int x2)] [] h rfl rfl (by rw [e]; rfl) k
theorem sg_X9_readsRest_0_t118 {g : tr_g} {d : Nat} {h : ev_AH} {r : ev_O × ev_AH} {x1 x2 : Int32} (hL : hh_L h) (e : x1 = 118) (k : tr_L g d m_X9_readsRest 108 [some (.ref 1099), some (.int x1), some (.int x2)] [] h r) : tr_L g d m_X9_readsRest 0 [some (.ref 1099), some (.int x1), some (.int x2)] [] h r := by
  refine tr_s (.iload_n 1) 1 1 [some (.ref 1099), some (.int x1), some (.int x2)] [.int x1] h rfl rfl rfl ?_
  exact tr_s (.lookupswitch 115 #[(99, 43), (109, 49), (115, 55), (118, 107)]) 43 108 [some (.ref 1099), some (.int x1), some (.int x2)] [] h rfl rfl (by rw [e]; rfl) k
theorem sg_X9_readsRest_0_td {g : tr_g} {d : Nat} {h : ev_AH} {r : ev_O × ev_AH} {x1 x2 : Int32} (hL : hh_L h) (e : Op.lookupswitch.offset [(99, 43), (109, 49), (115, 55), (118, 107)] 115 x1.toInt = 115) (k : tr_L g d m_X9_readsRest 116 [some (.ref 1099), some (.int x1), some (.int x2)] [] h r) : tr_L g d m_X9_readsRest 0 [some (.ref 1099), some (.int x1), some (.int x2)] [] h r := by
  refine tr_s (.iload_n 1) 1 1 [some (.ref 1099), some (.int x1), some (.int x2)] [.int x1] h rfl rfl rfl ?_
  exact tr_s (.lookupswitch 115 #[(99, 43), (109, 49), (115, 55), (118, 107)]) 43 116 [some (.ref 1099), some (.int x1), some (.int x2)] [] h rfl rfl (tr_lsd rfl e rfl) k
theorem sg_X9_readsRest_44 {g : tr_g} {d : Nat} {h : ev_AH} {r : ev_O × ev_AH} {w1 : Option Value} {x2 v0 : Int32} {h1 : ev_AH} (hL : hh_L h) (c_0 : tr_L g d m_X9_readsCat 0 [some (.ref 1099), some (.int x2)] [] h (.inl (some (.int v0)), h1)) (hb0 : v0 = 0 ∨ v0 = 1) (hr : r = (.inl (some (.int v0)), h1)) : tr_L g (d + 1) m_X9_readsRest 44 [some (.ref 1099), w1, some (.int x2)] [] h r := by
  refine tr_s (.aload_n 0) 1 45 [some (.ref 1099), w1, some (.int x2)] [.ref 1099] h rfl rfl rfl ?_
  refine tr_s (.iload_n 2) 1 46 [some (.ref 1099), w1, some (.int x2)] [.int x2, .ref 1099] h rfl rfl rfl ?_
  refine tr_call (.invokevirtual 290) 290 0 1 8 m_X9_readsCat [.ref 1099, .int x2] [] (some (.int v0)) h1 rfl rfl rfl rfl rfl rfl rfl rfl rfl (tr_cok rfl (Or.inr ⟨_, _, rfl, tr_rc (hh_rd (hh_obj hL (k := 99) rfl).1) (by decide)⟩)) c_0 ?_
  have hL0 := c_0.2
  exact tl_ret hL0 .ireturn 1 (some (.int v0)) rfl rfl rfl (tr_eb rfl hb0) hr
theorem sg_X9_readsRest_50 {g : tr_g} {d : Nat} {h : ev_AH} {r : ev_O × ev_AH} {w1 : Option Value} {x2 v0 : Int32} {h1 : ev_AH} (hL : hh_L h) (c_0 : tr_L g d m_X9_readsM 0 [some (.ref 1099), some (.int x2)] [] h (.inl (some (.int v0)), h1)) (hb0 : v0 = 0 ∨ v0 = 1) (hr : r = (.inl (some (.int v0)), h1)) : tr_L g (d + 1) m_X9_readsRest 50 [some (.ref 1099), w1, some (.int x2)] [] h r := by
  refine tr_s (.aload_n 0) 1 51 [some (.ref 1099), w1, some (.int x2)] [.ref 1099] h rfl rfl rfl ?_
  refine tr_s (.iload_n 2) 1 52 [some (.ref 1099), w1, some (.int x2)] [.int x2, .ref 1099] h rfl rfl rfl ?_
  refine tr_call (.invokevirtual 293) 293 0 1 8 m_X9_readsM [.ref 1099, .int x2] [] (some (.int v0)) h1 rfl rfl rfl rfl rfl rfl rfl rfl rfl (tr_cok rfl (Or.inr ⟨_, _, rfl, tr_rc (hh_rd (hh_obj hL (k := 99) rfl).1) (by decide)⟩)) c_0 ?_
  have hL0 := c_0.2
  exact tl_ret hL0 .ireturn 1 (some (.int v0)) rfl rfl rfl (tr_eb rfl hb0) hr
theorem sg_X9_readsRest_56 {g : tr_g} {d : Nat} {h : ev_AH} {r : ev_O × ev_AH} {w1 : Option Value} {x2 v0 : Int32} {h1 : ev_AH} (hL : hh_L h) (c_0 : tr_L g d m_X9_isWord 0 [some (.ref 1099), some (.ref 31), none] [] h (.inl (some (.int v0)), h1)) (t : v0 = 0 → tr_L g (d + 1) m_X9_readsRest 106 [some (.ref 1099), w1, some (.int x2)] [] h1 r) (f : v0 ≠ 0 → tr_L g (d + 1) m_X9_readsRest 66 [some (.ref 1099), w1, some (.int x2)] [] h1 r) : tr_L g (d + 1) m_X9_readsRest 56 [some (.ref 1099), w1, some (.int x2)] [] h r := by
  refine tr_s (.aload_n 0) 1 57 [some (.ref 1099), w1, some (.int x2)] [.ref 1099] h rfl rfl rfl ?_
  refine tr_s (.ldc_w 296) 3 60 [some (.ref 1099), w1, some (.int x2)] [.ref 31, .ref 1099] h rfl rfl rfl ?_
  refine tr_call (.invokevirtual 276) 276 0 1 8 m_X9_isWord [.ref 1099, .ref 31] [] (some (.int v0)) h1 rfl rfl rfl rfl rfl rfl rfl rfl rfl (tr_cok rfl (Or.inr ⟨_, _, rfl, tr_rc (hh_rd (hh_obj hL (k := 99) rfl).1) (by decide)⟩)) c_0 ?_
  have hL0 := c_0.2
  exact tr_if1 .eq 43 106 v0 rfl rfl rfl (fun hc => t ((tr_eq hc).1 rfl)) (fun hc => f ((tr_eq hc).2 rfl))
theorem sg_X9_readsRest_66 {g : tr_g} {d : Nat} {h : ev_AH} {r : ev_O × ev_AH} {w1 : Option Value} {x2 v0 : Int32} {h1 : ev_AH} (hL : hh_L h) (c_0 : tr_L g d m_X9_isNumber 0 [some (.ref 1099), some (.int (x2 + 1)), none, none] [] h (.inl (some (.int v0)), h1)) (t : v0 = 0 → tr_L g (d + 1) m_X9_readsRest 106 [some (.ref 1099), w1, some (.int x2)] [] h1 r) (f : v0 ≠ 0 → tr_L g (d + 1) m_X9_readsRest 76 [some (.ref 1099), w1, some (.int x2)] [] h1 r) : tr_L g (d + 1) m_X9_readsRest 66 [some (.ref 1099), w1, some (.int x2)] [] h r := by
  refine tr_s (.aload_n 0) 1 67 [some (.ref 1099), w1, some (.int x2)] [.ref 1099] h rfl rfl rfl ?_
  refine tr_s (.iload_n 2) 1 68 [some (.ref 1099), w1, some (.int x2)] [.int x2, .ref 1099] h rfl rfl rfl ?_
  refine tr_ic 1 1 (by decide) rfl ?_
  refine tr_s .iadd 1 70 [some (.ref 1099), w1, some (.int x2)] [.int (x2 + 1), .ref 1099] h rfl rfl rfl ?_
  refine tr_call (.invokevirtual 280) 280 0 1 8 m_X9_isNumber [.ref 1099, .int (x2 + 1)] [] (some (.int v0)) h1 rfl rfl rfl rfl rfl rfl rfl rfl rfl (tr_cok rfl (Or.inr ⟨_, _, rfl, tr_rc (hh_rd (hh_obj hL (k := 99) rfl).1) (by decide)⟩)) c_0 ?_
  have hL0 := c_0.2
  exact tr_if1 .eq 33 106 v0 rfl rfl rfl (fun hc => t ((tr_eq hc).1 rfl)) (fun hc => f ((tr_eq hc).2 rfl))
theorem sg_X9_readsRest_76 {g : tr_g} {d : Nat} {h : ev_AH} {r : ev_O × ev_AH} {w1 : Option Value} {x2 v0 : Int32} {h1 : ev_AH} (hL : hh_L h) (c_0 : tr_L g d m_X9_isSign 0 [some (.ref 1099), some (.int 32), none] [] h (.inl (some (.int v0)), h1)) (t : v0 = 0 → tr_L g (d + 1) m_X9_readsRest 106 [some (.ref 1099), w1, some (.int x2)] [] h1 r) (f : v0 ≠ 0 → tr_L g (d + 1) m_X9_readsRest 85 [some (.ref 1099), w1, some (.int x2)] [] h1 r) : tr_L g (d + 1) m_X9_readsRest 76 [some (.ref 1099), w1, some (.int x2)] [] h r := by
  refine tr_s (.aload_n 0) 1 77 [some (.ref 1099), w1, some (.int x2)] [.ref 1099] h rfl rfl rfl ?_
  refine tr_bi 32 32 (by decide) rfl ?_
  refine tr_call (.invokevirtual 271) 271 0 1 8 m_X9_isSign [.ref 1099, .int 32] [] (some (.int v0)) h1 rfl rfl rfl rfl rfl rfl rfl rfl rfl (tr_cok rfl (Or.inr ⟨_, _, rfl, tr_rc (hh_rd (hh_obj hL (k := 99) rfl).1) (by decide)⟩)) c_0 ?_
  have hL0 := c_0.2
  exact tr_if1 .eq 24 106 v0 rfl rfl rfl (fun hc => t ((tr_eq hc).1 rfl)) (fun hc => f ((tr_eq hc).2 rfl))
theorem sg_X9_readsRest_85 {g : tr_g} {d : Nat} {h : ev_AH} {r : ev_O × ev_AH} {w1 : Option Value} {x2 v0 v1 v2 : Int32} {h1 h2 h3 : ev_AH} (hL : hh_L h) (c_0 : tr_L g d m_X9_now 0 [some (.ref 1099)] [] h (.inl (some (.int v0)), h1)) (c_1 : tr_L g d m_X9_isOption 0 [some (.int v0)] [] h1 (.inl (some (.int v1)), h2)) (c_2 : tr_L g d m_X9_takes 0 [some (.ref 1099), some (.int v1), some (.int (x2 + 2))] [] h2 (.inl (some (.int v2)), h3)) (t : v2 = 0 → tr_L g (d + 1) m_X9_readsRest 106 [some (.ref 1099), w1, some (.int x2)] [] h3 r) (f : v2 ≠ 0 → tr_L g (d + 1) m_X9_readsRest 102 [some (.ref 1099), w1, some (.int x2)] [] h3 r) : tr_L g (d + 1) m_X9_readsRest 85 [some (.ref 1099), w1, some (.int x2)] [] h r := by
  refine tr_s (.aload_n 0) 1 86 [some (.ref 1099), w1, some (.int x2)] [.ref 1099] h rfl rfl rfl ?_
  refine tr_s (.aload_n 0) 1 87 [some (.ref 1099), w1, some (.int x2)] [.ref 1099, .ref 1099] h rfl rfl rfl ?_
  refine tr_call (.invokevirtual 259) 259 0 0 8 m_X9_now [.ref 1099] [.ref 1099] (some (.int v0)) h1 rfl rfl rfl rfl rfl rfl rfl rfl rfl (tr_cok rfl (Or.inr ⟨_, _, rfl, tr_rc (hh_rd (hh_obj hL (k := 99) rfl).1) (by decide)⟩)) c_0 ?_
  have hL0 := c_0.2
  refine tr_call (.invokestatic 78) 78 2 1 0 m_X9_isOption [.int v0] [.ref 1099] (some (.int v1)) h2 rfl rfl rfl rfl rfl rfl rfl rfl rfl (tr_cok rfl (Or.inl rfl)) c_1 ?_
  have hL1 := c_1.2
  refine tr_s (.iload_n 2) 1 94 [some (.ref 1099), w1, some (.int x2)] [.int x2, .int v1, .ref 1099] h2 rfl rfl rfl ?_
  refine tr_ic 2 2 (by decide) rfl ?_
  refine tr_s .iadd 1 96 [some (.ref 1099), w1, some (.int x2)] [.int (x2 + 2), .int v1, .ref 1099] h2 rfl rfl rfl ?_
  refine tr_call (.invokevirtual 283) 283 0 2 8 m_X9_takes [.ref 1099, .int v1, .int (x2 + 2)] [] (some (.int v2)) h3 rfl rfl rfl rfl rfl rfl rfl rfl rfl (tr_cok rfl (Or.inr ⟨_, _, rfl, tr_rc (hh_rd (hh_obj hL1 (k := 99) rfl).1) (by decide)⟩)) c_2 ?_
  have hL2 := c_2.2
  exact tr_if1 .eq 7 106 v2 rfl rfl rfl (fun hc => t ((tr_eq hc).1 rfl)) (fun hc => f ((tr_eq hc).2 rfl))
theorem sg_X9_readsRest_102 {g : tr_g} {d : Nat} {h : ev_AH} {r : ev_O × ev_AH} {w0 w1 w2 : Option Value} (hL : hh_L h) (hr : r = (.inl (some (.int 1)), h)) : tr_L g d m_X9_readsRest 102 [w0, w1, w2] [] h r := by
  refine tr_ic 1 1 (by decide) rfl ?_
  refine tr_goto 4 107 rfl rfl rfl ?_
  exact tl_ret hL .ireturn 1 (some (.int 1)) rfl rfl rfl rfl hr
theorem sg_X9_readsRest_106 {g : tr_g} {d : Nat} {h : ev_AH} {r : ev_O × ev_AH} {w0 w1 w2 : Option Value} (hL : hh_L h) (hr : r = (.inl (some (.int 0)), h)) : tr_L g d m_X9_readsRest 106 [w0, w1, w2] [] h r := by
  refine tr_ic 0 0 (by decide) rfl ?_
  exact tl_ret hL .ireturn 1 (some (.int 0)) rfl rfl rfl rfl hr
theorem sg_X9_readsRest_108 {g : tr_g} {d : Nat} {h : ev_AH} {r : ev_O × ev_AH} {w1 w2 : Option Value} {h1 : ev_AH} {v0 : Int32} (hL : hh_L h) (c_0 : tr_L g d m_X9_isWord 0 [some (.ref 1099), some (.ref 33), none] [] h (.inl (some (.int v0)), h1)) (hb0 : v0 = 0 ∨ v0 = 1) (hr : r = (.inl (some (.int v0)), h1)) : tr_L g (d + 1) m_X9_readsRest 108 [some (.ref 1099), w1, w2] [] h r := by
  refine tr_s (.aload_n 0) 1 109 [some (.ref 1099), w1, w2] [.ref 1099] h rfl rfl rfl ?_
  refine tr_s (.ldc_w 298) 3 112 [some (.ref 1099), w1, w2] [.ref 33, .ref 1099] h rfl rfl rfl ?_
  refine tr_call (.invokevirtual 276) 276 0 1 8 m_X9_isWord [.ref 1099, .ref 33] [] (some (.int v0)) h1 rfl rfl rfl rfl rfl rfl rfl rfl rfl (tr_cok rfl (Or.inr ⟨_, _, rfl, tr_rc (hh_rd (hh_obj hL (k := 99) rfl).1) (by decide)⟩)) c_0 ?_
  have hL0 := c_0.2
  exact tl_ret hL0 .ireturn 1 (some (.int v0)) rfl rfl rfl (tr_eb rfl hb0) hr
theorem sg_X9_readsRest_116 {g : tr_g} {d : Nat} {h : ev_AH} {r : ev_O × ev_AH} {w1 w2 : Option Value} {h1 : ev_AH} {v0 : Int32} (hL : hh_L h) (c_0 : tr_L g d m_X9_isWord 0 [some (.ref 1099), some (.ref 35), none] [] h (.inl (some (.int v0)), h1)) (hb0 : v0 = 0 ∨ v0 = 1) (hr : r = (.inl (some (.int v0)), h1)) : tr_L g (d + 1) m_X9_readsRest 116 [some (.ref 1099), w1, w2] [] h r := by
  refine tr_s (.aload_n 0) 1 117 [some (.ref 1099), w1, w2] [.ref 1099] h rfl rfl rfl ?_
  refine tr_s (.ldc_w 300) 3 120 [some (.ref 1099), w1, w2] [.ref 35, .ref 1099] h rfl rfl rfl ?_
  refine tr_call (.invokevirtual 276) 276 0 1 8 m_X9_isWord [.ref 1099, .ref 35] [] (some (.int v0)) h1 rfl rfl rfl rfl rfl rfl rfl rfl rfl (tr_cok rfl (Or.inr ⟨_, _, rfl, tr_rc (hh_rd (hh_obj hL (k := 99) rfl).1) (by decide)⟩)) c_0 ?_
  have hL0 := c_0.2
  exact tl_ret hL0 .ireturn 1 (some (.int v0)) rfl rfl rfl (tr_eb rfl hb0) hr
theorem sg_X9_readsCat_0 {g : tr_g} {d : Nat} {h : ev_AH} {r : ev_O × ev_AH} {x1 v0 : Int32} {h1 : ev_AH} (hL : hh_L h) (c_0 : tr_L g d m_X9_isWord 0 [some (.ref 1099), some (.ref 25), none] [] h (.inl (some (.int v0)), h1)) (t : v0 = 0 → tr_L g (d + 1) m_X9_readsCat 29 [some (.ref 1099), some (.int x1)] [] h1 r) (f : v0 ≠ 0 → tr_L g (d + 1) m_X9_readsCat 10 [some (.ref 1099), some (.int x1)] [] h1 r) : tr_L g (d + 1) m_X9_readsCat 0 [some (.ref 1099), some (.int x1)] [] h r := by
  refine tr_s (.aload_n 0) 1 1 [some (.ref 1099), some (.int x1)] [.ref 1099] h rfl rfl rfl ?_
  refine tr_s (.ldc_w 274) 3 4 [some (.ref 1099), some (.int x1)] [.ref 25, .ref 1099] h rfl rfl rfl ?_
  refine tr_call (.invokevirtual 276) 276 0 1 8 m_X9_isWord [.ref 1099, .ref 25] [] (some (.int v0)) h1 rfl rfl rfl rfl rfl rfl rfl rfl rfl (tr_cok rfl (Or.inr ⟨_, _, rfl, tr_rc (hh_rd (hh_obj hL (k := 99) rfl).1) (by decide)⟩)) c_0 ?_
  have hL0 := c_0.2
  exact tr_if1 .eq 22 29 v0 rfl rfl rfl (fun hc => t ((tr_eq hc).1 rfl)) (fun hc => f ((tr_eq hc).2 rfl))
theorem sg_X9_readsCat_10 {g : tr_g} {d : Nat} {h : ev_AH} {r : ev_O × ev_AH} {x1 v0 : Int32} {h1 : ev_AH} (hL : hh_L h) (c_0 : tr_L g d m_X9_isNumber 0 [some (.ref 1099), some (.int (x1 + 1)), none, none] [] h (.inl (some (.int v0)), h1)) (t : v0 = 0 → tr_L g (d + 1) m_X9_readsCat 29 [some (.ref 1099), some (.int x1)] [] h1 r) (f : v0 ≠ 0 → tr_L g (d + 1) m_X9_readsCat 20 [some (.ref 1099), some (.int x1)] [] h1 r) : tr_L g (d + 1) m_X9_readsCat 10 [some (.ref 1099), some (.int x1)] [] h r := by
  refine tr_s (.aload_n 0) 1 11 [some (.ref 1099), some (.int x1)] [.ref 1099] h rfl rfl rfl ?_
  refine tr_s (.iload_n 1) 1 12 [some (.ref 1099), some (.int x1)] [.int x1, .ref 1099] h rfl rfl rfl ?_
  refine tr_ic 1 1 (by decide) rfl ?_
  refine tr_s .iadd 1 14 [some (.ref 1099), some (.int x1)] [.int (x1 + 1), .ref 1099] h rfl rfl rfl ?_
  refine tr_call (.invokevirtual 280) 280 0 1 8 m_X9_isNumber [.ref 1099, .int (x1 + 1)] [] (some (.int v0)) h1 rfl rfl rfl rfl rfl rfl rfl rfl rfl (tr_cok rfl (Or.inr ⟨_, _, rfl, tr_rc (hh_rd (hh_obj hL (k := 99) rfl).1) (by decide)⟩)) c_0 ?_
  have hL0 := c_0.2
  exact tr_if1 .eq 12 29 v0 rfl rfl rfl (fun hc => t ((tr_eq hc).1 rfl)) (fun hc => f ((tr_eq hc).2 rfl))
theorem sg_X9_readsCat_20 {g : tr_g} {d : Nat} {h : ev_AH} {r : ev_O × ev_AH} {x1 v0 : Int32} {h1 : ev_AH} (hL : hh_L h) (c_0 : tr_L g d m_X9_isSign 0 [some (.ref 1099), some (.int 32), none] [] h (.inl (some (.int v0)), h1)) (t : v0 ≠ 0 → tr_L g (d + 1) m_X9_readsCat 31 [some (.ref 1099), some (.int x1)] [] h1 r) (f : v0 = 0 → tr_L g (d + 1) m_X9_readsCat 29 [some (.ref 1099), some (.int x1)] [] h1 r) : tr_L g (d + 1) m_X9_readsCat 20 [some (.ref 1099), some (.int x1)] [] h r := by
  refine tr_s (.aload_n 0) 1 21 [some (.ref 1099), some (.int x1)] [.ref 1099] h rfl rfl rfl ?_
  refine tr_bi 32 32 (by decide) rfl ?_
  refine tr_call (.invokevirtual 271) 271 0 1 8 m_X9_isSign [.ref 1099, .int 32] [] (some (.int v0)) h1 rfl rfl rfl rfl rfl rfl rfl rfl rfl (tr_cok rfl (Or.inr ⟨_, _, rfl, tr_rc (hh_rd (hh_obj hL (k := 99) rfl).1) (by decide)⟩)) c_0 ?_
  have hL0 := c_0.2
  exact tr_if1 .ne 5 31 v0 rfl rfl rfl (fun hc => t ((tr_ne hc).1 rfl)) (fun hc => f ((tr_ne hc).2 rfl))
theorem sg_X9_readsCat_29 {g : tr_g} {d : Nat} {h : ev_AH} {r : ev_O × ev_AH} {w0 w1 : Option Value} (hL : hh_L h) (hr : r = (.inl (some (.int 0)), h)) : tr_L g d m_X9_readsCat 29 [w0, w1] [] h r := by
  refine tr_ic 0 0 (by decide) rfl ?_
  exact tl_ret hL .ireturn 1 (some (.int 0)) rfl rfl rfl rfl hr
theorem sg_X9_readsCat_31 {g : tr_g} {d : Nat} {h : ev_AH} {r : ev_O × ev_AH} {x1 v0 v1 v2 : Int32} {h1 h2 h3 : ev_AH} (hL : hh_L h) (c_0 : tr_L g d m_X9_now 0 [some (.ref 1099)] [] h (.inl (some (.int v0)), h1)) (c_1 : tr_L g d m_X9_isOption 0 [some (.int v0)] [] h1 (.inl (some (.int v1)), h2)) (c_2 : tr_L g d m_X9_takes 0 [some (.ref 1099), some (.int v1), some (.int (x1 + 2))] [] h2 (.inl (some (.int v2)), h3)) (t : v2 = 0 → tr_L g (d + 1) m_X9_readsCat 86 [some (.ref 1099), some (.int x1)] [] h3 r) (f : v2 ≠ 0 → tr_L g (d + 1) m_X9_readsCat 48 [some (.ref 1099), some (.int x1)] [] h3 r) : tr_L g (d + 1) m_X9_readsCat 31 [some (.ref 1099), some (.int x1)] [] h r := by
  refine tr_s (.aload_n 0) 1 32 [some (.ref 1099), some (.int x1)] [.ref 1099] h rfl rfl rfl ?_
  refine tr_s (.aload_n 0) 1 33 [some (.ref 1099), some (.int x1)] [.ref 1099, .ref 1099] h rfl rfl rfl ?_
  refine tr_call (.invokevirtual 259) 259 0 0 8 m_X9_now [.ref 1099] [.ref 1099] (some (.int v0)) h1 rfl rfl rfl rfl rfl rfl rfl rfl rfl (tr_cok rfl (Or.inr ⟨_, _, rfl, tr_rc (hh_rd (hh_obj hL (k := 99) rfl).1) (by decide)⟩)) c_0 ?_
  have hL0 := c_0.2
  refine tr_call (.invokestatic 78) 78 2 1 0 m_X9_isOption [.int v0] [.ref 1099] (some (.int v1)) h2 rfl rfl rfl rfl rfl rfl rfl rfl rfl (tr_cok rfl (Or.inl rfl)) c_1 ?_
  have hL1 := c_1.2
  refine tr_s (.iload_n 1) 1 40 [some (.ref 1099), some (.int x1)] [.int x1, .int v1, .ref 1099] h2 rfl rfl rfl ?_
  refine tr_ic 2 2 (by decide) rfl ?_
  refine tr_s .iadd 1 42 [some (.ref 1099), some (.int x1)] [.int (x1 + 2), .int v1, .ref 1099] h2 rfl rfl rfl ?_
  refine tr_call (.invokevirtual 283) 283 0 2 8 m_X9_takes [.ref 1099, .int v1, .int (x1 + 2)] [] (some (.int v2)) h3 rfl rfl rfl rfl rfl rfl rfl rfl rfl (tr_cok rfl (Or.inr ⟨_, _, rfl, tr_rc (hh_rd (hh_obj hL1 (k := 99) rfl).1) (by decide)⟩)) c_2 ?_
  have hL2 := c_2.2
  exact tr_if1 .eq 41 86 v2 rfl rfl rfl (fun hc => t ((tr_eq hc).1 rfl)) (fun hc => f ((tr_eq hc).2 rfl))
theorem sg_X9_readsCat_48 {g : tr_g} {d : Nat} {h : ev_AH} {r : ev_O × ev_AH} {x1 v0 v1 v2 : Int32} {h1 h2 h3 : ev_AH} (hL : hh_L h) (c_0 : tr_L g d m_X9_now 0 [some (.ref 1099)] [] h (.inl (some (.int v0)), h1)) (c_1 : tr_L g d m_X9_isOption 0 [some (.int v0)] [] h1 (.inl (some (.int v1)), h2)) (c_2 : tr_L g d m_X9_takes 0 [some (.ref 1099), some (.int v1), some (.int (x1 + 3))] [] h2 (.inl (some (.int v2)), h3)) (t : v2 = 0 → tr_L g (d + 1) m_X9_readsCat 86 [some (.ref 1099), some (.int x1)] [] h3 r) (f : v2 ≠ 0 → tr_L g (d + 1) m_X9_readsCat 65 [some (.ref 1099), some (.int x1)] [] h3 r) : tr_L g (d + 1) m_X9_readsCat 48 [some (.ref 1099), some (.int x1)] [] h r := by
  refine tr_s (.aload_n 0) 1 49 [some (.ref 1099), some (.int x1)] [.ref 1099] h rfl rfl rfl ?_
  refine tr_s (.aload_n 0) 1 50 [some (.ref 1099), some (.int x1)] [.ref 1099, .ref 1099] h rfl rfl rfl ?_
  refine tr_call (.invokevirtual 259) 259 0 0 8 m_X9_now [.ref 1099] [.ref 1099] (some (.int v0)) h1 rfl rfl rfl rfl rfl rfl rfl rfl rfl (tr_cok rfl (Or.inr ⟨_, _, rfl, tr_rc (hh_rd (hh_obj hL (k := 99) rfl).1) (by decide)⟩)) c_0 ?_
  have hL0 := c_0.2
  refine tr_call (.invokestatic 78) 78 2 1 0 m_X9_isOption [.int v0] [.ref 1099] (some (.int v1)) h2 rfl rfl rfl rfl rfl rfl rfl rfl rfl (tr_cok rfl (Or.inl rfl)) c_1 ?_
  have hL1 := c_1.2
  refine tr_s (.iload_n 1) 1 57 [some (.ref 1099), some (.int x1)] [.int x1, .int v1, .ref 1099] h2 rfl rfl rfl ?_
  refine tr_ic 3 3 (by decide) rfl ?_
  refine tr_s .iadd 1 59 [some (.ref 1099), some (.int x1)] [.int (x1 + 3), .int v1, .ref 1099] h2 rfl rfl rfl ?_
  refine tr_call (.invokevirtual 283) 283 0 2 8 m_X9_takes [.ref 1099, .int v1, .int (x1 + 3)] [] (some (.int v2)) h3 rfl rfl rfl rfl rfl rfl rfl rfl rfl (tr_cok rfl (Or.inr ⟨_, _, rfl, tr_rc (hh_rd (hh_obj hL1 (k := 99) rfl).1) (by decide)⟩)) c_2 ?_
  have hL2 := c_2.2
  exact tr_if1 .eq 24 86 v2 rfl rfl rfl (fun hc => t ((tr_eq hc).1 rfl)) (fun hc => f ((tr_eq hc).2 rfl))
theorem sg_X9_readsCat_65 {g : tr_g} {d : Nat} {h : ev_AH} {r : ev_O × ev_AH} {x1 v0 v1 v2 : Int32} {h1 h2 h3 : ev_AH} (hL : hh_L h) (c_0 : tr_L g d m_X9_now 0 [some (.ref 1099)] [] h (.inl (some (.int v0)), h1)) (c_1 : tr_L g d m_X9_isOption 0 [some (.int v0)] [] h1 (.inl (some (.int v1)), h2)) (c_2 : tr_L g d m_X9_takes 0 [some (.ref 1099), some (.int v1), some (.int (x1 + 4))] [] h2 (.inl (some (.int v2)), h3)) (t : v2 = 0 → tr_L g (d + 1) m_X9_readsCat 86 [some (.ref 1099), some (.int x1)] [] h3 r) (f : v2 ≠ 0 → tr_L g (d + 1) m_X9_readsCat 82 [some (.ref 1099), some (.int x1)] [] h3 r) : tr_L g (d + 1) m_X9_readsCat 65 [some (.ref 1099), some (.int x1)] [] h r := by
  refine tr_s (.aload_n 0) 1 66 [some (.ref 1099), some (.int x1)] [.ref 1099] h rfl rfl rfl ?_
  refine tr_s (.aload_n 0) 1 67 [some (.ref 1099), some (.int x1)] [.ref 1099, .ref 1099] h rfl rfl rfl ?_
  refine tr_call (.invokevirtual 259) 259 0 0 8 m_X9_now [.ref 1099] [.ref 1099] (some (.int v0)) h1 rfl rfl rfl rfl rfl rfl rfl rfl rfl (tr_cok rfl (Or.inr ⟨_, _, rfl, tr_rc (hh_rd (hh_obj hL (k := 99) rfl).1) (by decide)⟩)) c_0 ?_
  have hL0 := c_0.2
  refine tr_call (.invokestatic 78) 78 2 1 0 m_X9_isOption [.int v0] [.ref 1099] (some (.int v1)) h2 rfl rfl rfl rfl rfl rfl rfl rfl rfl (tr_cok rfl (Or.inl rfl)) c_1 ?_
  have hL1 := c_1.2
  refine tr_s (.iload_n 1) 1 74 [some (.ref 1099), some (.int x1)] [.int x1, .int v1, .ref 1099] h2 rfl rfl rfl ?_
  refine tr_ic 4 4 (by decide) rfl ?_
  refine tr_s .iadd 1 76 [some (.ref 1099), some (.int x1)] [.int (x1 + 4), .int v1, .ref 1099] h2 rfl rfl rfl ?_
  refine tr_call (.invokevirtual 283) 283 0 2 8 m_X9_takes [.ref 1099, .int v1, .int (x1 + 4)] [] (some (.int v2)) h3 rfl rfl rfl rfl rfl rfl rfl rfl rfl (tr_cok rfl (Or.inr ⟨_, _, rfl, tr_rc (hh_rd (hh_obj hL1 (k := 99) rfl).1) (by decide)⟩)) c_2 ?_
  have hL2 := c_2.2
  exact tr_if1 .eq 7 86 v2 rfl rfl rfl (fun hc => t ((tr_eq hc).1 rfl)) (fun hc => f ((tr_eq hc).2 rfl))
theorem sg_X9_readsCat_82 {g : tr_g} {d : Nat} {h : ev_AH} {r : ev_O × ev_AH} {w0 w1 : Option Value} (hL : hh_L h) (hr : r = (.inl (some (.int 1)), h)) : tr_L g d m_X9_readsCat 82 [w0, w1] [] h r := by
  refine tr_ic 1 1 (by decide) rfl ?_
  refine tr_goto 4 87 rfl rfl rfl ?_
  exact tl_ret hL .ireturn 1 (some (.int 1)) rfl rfl rfl rfl hr
theorem sg_X9_readsCat_86 {g : tr_g} {d : Nat} {h : ev_AH} {r : ev_O × ev_AH} {w0 w1 : Option Value} (hL : hh_L h) (hr : r = (.inl (some (.int 0)), h)) : tr_L g d m_X9_readsCat 86 [w0, w1] [] h r := by
  refine tr_ic 0 0 (by decide) rfl ?_
  exact tl_ret hL .ireturn 1 (some (.int 0)) rfl rfl rfl rfl hr
theorem sg_X9_isWord_0 {g : tr_g} {d : Nat} {h : ev_AH} {r : ev_O × ev_AH} {a1 : Nat} (hL : hh_L h) (k : tr_L g d m_X9_isWord 2 [some (.ref 1099), some (.ref a1), some (.int 0)] [] h r) : tr_L g d m_X9_isWord 0 [some (.ref 1099), some (.ref a1), none] [] h r := by
  refine tr_ic 0 0 (by decide) rfl ?_
  refine tr_st (.istore_n 2) 1 2 0 (.int 0) rfl rfl rfl rfl rfl rfl rfl ?_
  exact k
theorem sg_X9_isWord_2 {g : tr_g} {d : Nat} {h : ev_AH} {r : ev_O × ev_AH} {a1 : Nat} {x2 v0 : Int32} {h1 : ev_AH} {vs0 : List Value} (hL : hh_L h) (m0 : ev_rd (tr_G g) h a1 = some (.inr (50, vs0))) (c_0 : tr_L g d m_J0_length_8abf5 0 [some (.ref a1)] [] h (.inl (some (.int v0)), h1)) (t : v0 ≤ x2 → tr_L g (d + 1) m_X9_isWord 30 [some (.ref 1099), some (.ref a1), some (.int x2)] [] h1 r) (f : x2 < v0 → tr_L g (d + 1) m_X9_isWord 10 [some (.ref 1099), some (.ref a1), some (.int x2)] [] h1 r) : tr_L g (d + 1) m_X9_isWord 2 [some (.ref 1099), some (.ref a1), some (.int x2)] [] h r := by
  refine tr_s (.iload_n 2) 1 3 [some (.ref 1099), some (.ref a1), some (.int x2)] [.int x2] h rfl rfl rfl ?_
  refine tr_s (.aload_n 1) 1 4 [some (.ref 1099), some (.ref a1), some (.int x2)] [.ref a1, .int x2] h rfl rfl rfl ?_
  refine tr_call (.invokevirtual 262) 262 0 0 50 m_J0_length_8abf5 [.ref a1] [.int x2] (some (.int v0)) h1 rfl rfl rfl rfl rfl rfl rfl rfl rfl (tr_cok rfl (Or.inr ⟨_, _, rfl, tr_rc m0 (by decide)⟩)) c_0 ?_
  have hL0 := c_0.2
  exact tr_if2 .ge 23 30 x2 v0 rfl rfl rfl (fun hc => t ((tr_ge hc).1 rfl)) (fun hc => f ((tr_ge hc).2 rfl))
theorem sg_X9_isWord_10 {g : tr_g} {d : Nat} {h : ev_AH} {r : ev_O × ev_AH} {a1 : Nat} {x2 v0 v1 : Int32} {h1 h2 : ev_AH} {vs0 : List Value} (hL : hh_L h) (m0 : ev_rd (tr_G g) h a1 = some (.inr (50, vs0))) (c_0 : tr_L g d m_J0_charAt_5068e 0 [some (.ref a1), some (.int x2)] [] h (.inl (some (.int v0)), h1)) (c_1 : tr_L g d m_X9_isSign 0 [some (.ref 1099), some (.int v0), none] [] h1 (.inl (some (.int v1)), h2)) (t : v1 ≠ 0 → tr_L g (d + 1) m_X9_isWord 24 [some (.ref 1099), some (.ref a1), some (.int x2)] [] h2 r) (f : v1 = 0 → tr_L g (d + 1) m_X9_isWord 22 [some (.ref 1099), some (.ref a1), some (.int x2)] [] h2 r) : tr_L g (d + 1) m_X9_isWord 10 [some (.ref 1099), some (.ref a1), some (.int x2)] [] h r := by
  refine tr_s (.aload_n 0) 1 11 [some (.ref 1099), some (.ref a1), some (.int x2)] [.ref 1099] h rfl rfl rfl ?_
  refine tr_s (.aload_n 1) 1 12 [some (.ref 1099), some (.ref a1), some (.int x2)] [.ref a1, .ref 1099] h rfl rfl rfl ?_
  refine tr_s (.iload_n 2) 1 13 [some (.ref 1099), some (.ref a1), some (.int x2)] [.int x2, .ref a1, .ref 1099] h rfl rfl rfl ?_
  refine tr_call (.invokevirtual 267) 267 0 1 50 m_J0_charAt_5068e [.ref a1, .int x2] [.ref 1099] (some (.int v0)) h1 rfl rfl rfl rfl rfl rfl rfl rfl rfl (tr_cok rfl (Or.inr ⟨_, _, rfl, tr_rc m0 (by decide)⟩)) c_0 ?_
  have hL0 := c_0.2
  refine tr_call (.invokevirtual 271) 271 0 1 8 m_X9_isSign [.ref 1099, .int v0] [] (some (.int v1)) h2 rfl rfl rfl rfl rfl rfl rfl rfl rfl (tr_cok rfl (Or.inr ⟨_, _, rfl, tr_rc (hh_rd (hh_obj hL0 (k := 99) rfl).1) (by decide)⟩)) c_1 ?_
  have hL1 := c_1.2
  exact tr_if1 .ne 5 24 v1 rfl rfl rfl (fun hc => t ((tr_ne hc).1 rfl)) (fun hc => f ((tr_ne hc).2 rfl))
theorem sg_X9_isWord_22 {g : tr_g} {d : Nat} {h : ev_AH} {r : ev_O × ev_AH} {w0 w1 w2 : Option Value} (hL : hh_L h) (hr : r = (.inl (some (.int 0)), h)) : tr_L g d m_X9_isWord 22 [w0, w1, w2] [] h r := by
  refine tr_ic 0 0 (by decide) rfl ?_
  exact tl_ret hL .ireturn 1 (some (.int 0)) rfl rfl rfl rfl hr
theorem sg_X9_isWord_24 {g : tr_g} {d : Nat} {h : ev_AH} {r : ev_O × ev_AH} {a1 : Nat} {x2 : Int32} (hL : hh_L h) (k : tr_L g d m_X9_isWord 2 [some (.ref 1099), some (.ref a1), some (.int (x2 + 1))] [] h r) : tr_L g d m_X9_isWord 24 [some (.ref 1099), some (.ref a1), some (.int x2)] [] h r := by
  refine tr_inc 2 1 x2 1 (by decide) rfl rfl rfl ?_
  refine tr_goto (-25) 2 rfl rfl rfl ?_
  exact k
theorem sg_X9_isWord_30 {g : tr_g} {d : Nat} {h : ev_AH} {r : ev_O × ev_AH} {w0 w1 w2 : Option Value} (hL : hh_L h) (hr : r = (.inl (some (.int 1)), h)) : tr_L g d m_X9_isWord 30 [w0, w1, w2] [] h r := by
  refine tr_ic 1 1 (by decide) rfl ?_
  exact tl_ret hL .ireturn 1 (some (.int 1)) rfl rfl rfl rfl hr
theorem sg_X9_isSign_0 {g : tr_g} {d : Nat} {h : ev_AH} {r : ev_O × ev_AH} {x1 v0 : Int32} {h1 : ev_AH} (hL : hh_L h) (c_0 : tr_L g d m_X9_now 0 [some (.ref 1099)] [] h (.inl (some (.int v0)), h1)) (t : v0 ≠ x1 → tr_L g (d + 1) m_X9_isSign 12 [some (.ref 1099), some (.int x1), none] [] h1 r) (f : v0 = x1 → tr_L g (d + 1) m_X9_isSign 8 [some (.ref 1099), some (.int x1), none] [] h1 r) : tr_L g (d + 1) m_X9_isSign 0 [some (.ref 1099), some (.int x1), none] [] h r := by
  refine tr_s (.aload_n 0) 1 1 [some (.ref 1099), some (.int x1), none] [.ref 1099] h rfl rfl rfl ?_
  refine tr_call (.invokevirtual 259) 259 0 0 8 m_X9_now [.ref 1099] [] (some (.int v0)) h1 rfl rfl rfl rfl rfl rfl rfl rfl rfl (tr_cok rfl (Or.inr ⟨_, _, rfl, tr_rc (hh_rd (hh_obj hL (k := 99) rfl).1) (by decide)⟩)) c_0 ?_
  have hL0 := c_0.2
  refine tr_s (.iload_n 1) 1 5 [some (.ref 1099), some (.int x1), none] [.int x1, .int v0] h1 rfl rfl rfl ?_
  exact tr_if2 .ne 7 12 v0 x1 rfl rfl rfl (fun hc => t ((tr_ne hc).1 rfl)) (fun hc => f ((tr_ne hc).2 rfl))
theorem sg_X9_isSign_8 {g : tr_g} {d : Nat} {h : ev_AH} {r : ev_O × ev_AH} {w1 w2 : Option Value} (hL : hh_L h) (o1 : tr_ow w1 = true) (t : (1 : Int32) = 0 → tr_L g d m_X9_isSign 27 [some (.ref 1099), w1, some (.int 1)] [.int (hh_i h 99 26), .ref 1099] h r) (f : (1 : Int32) ≠ 0 → tr_L g d m_X9_isSign 23 [some (.ref 1099), w1, some (.int 1)] [.int (hh_i h 99 26), .ref 1099] h r) : tr_L g d m_X9_isSign 8 [some (.ref 1099), w1, w2] [] h r := by
  refine tr_ic 1 1 (by decide) rfl ?_
  refine tr_goto 4 13 rfl rfl rfl ?_
  refine tr_st (.istore_n 2) 1 2 0 (.int 1) rfl rfl rfl rfl rfl rfl (tr_sok (Nat.le_of_ble_eq_true rfl) rfl o1) ?_
  refine tr_s (.aload_n 0) 1 15 [some (.ref 1099), w1, some (.int 1)] [.ref 1099] h rfl rfl rfl ?_
  refine tr_s .dup 1 16 [some (.ref 1099), w1, some (.int 1)] [.ref 1099, .ref 1099] h rfl rfl rfl ?_
  refine tl_gi hL 256 99 8 26 [1100, 1101, 1102, 1103, 1104, 1105, 0, 0, 0, 0, 0, 0, 0, 0, 0, 0, 0, 0, 0, 0, 0, 1106, 0, 1107, 1108, 0, 0, 0] rfl rfl rfl rfl ?_
  refine tr_s (.iload_n 2) 1 20 [some (.ref 1099), w1, some (.int 1)] [.int 1, .int (hh_i h 99 26), .ref 1099] h rfl rfl rfl ?_
  exact tr_if1 .eq 7 27 1 rfl rfl rfl (fun hc => t ((tr_eq hc).1 rfl)) (fun hc => f ((tr_eq hc).2 rfl))
theorem sg_X9_isSign_12 {g : tr_g} {d : Nat} {h : ev_AH} {r : ev_O × ev_AH} {w1 w2 : Option Value} (hL : hh_L h) (o1 : tr_ow w1 = true) (t : (0 : Int32) = 0 → tr_L g d m_X9_isSign 27 [some (.ref 1099), w1, some (.int 0)] [.int (hh_i h 99 26), .ref 1099] h r) (f : (0 : Int32) ≠ 0 → tr_L g d m_X9_isSign 23 [some (.ref 1099), w1, some (.int 0)] [.int (hh_i h 99 26), .ref 1099] h r) : tr_L g d m_X9_isSign 12 [some (.ref 1099), w1, w2] [] h r := by
  refine tr_ic 0 0 (by decide) rfl ?_
  refine tr_st (.istore_n 2) 1 2 0 (.int 0) rfl rfl rfl rfl rfl rfl (tr_sok (Nat.le_of_ble_eq_true rfl) rfl o1) ?_
  refine tr_s (.aload_n 0) 1 15 [some (.ref 1099), w1, some (.int 0)] [.ref 1099] h rfl rfl rfl ?_
  refine tr_s .dup 1 16 [some (.ref 1099), w1, some (.int 0)] [.ref 1099, .ref 1099] h rfl rfl rfl ?_
  refine tl_gi hL 256 99 8 26 [1100, 1101, 1102, 1103, 1104, 1105, 0, 0, 0, 0, 0, 0, 0, 0, 0, 0, 0, 0, 0, 0, 0, 1106, 0, 1107, 1108, 0, 0, 0] rfl rfl rfl rfl ?_
  refine tr_s (.iload_n 2) 1 20 [some (.ref 1099), w1, some (.int 0)] [.int 0, .int (hh_i h 99 26), .ref 1099] h rfl rfl rfl ?_
  exact tr_if1 .eq 7 27 0 rfl rfl rfl (fun hc => t ((tr_eq hc).1 rfl)) (fun hc => f ((tr_eq hc).2 rfl))
theorem sg_X9_isSign_23 {g : tr_g} {d : Nat} {h : ev_AH} {r : ev_O × ev_AH} {w0 w1 : Option Value} {x2 s1 : Int32} (hL : hh_L h) (hb0 : x2 = 0 ∨ x2 = 1) (hr : r = (.inl (some (.int x2)), hh_si h 99 8 26 (s1 + 1))) : tr_L g d m_X9_isSign 23 [w0, w1, some (.int x2)] [.int s1, .ref 1099] h r := by
  refine tr_ic 1 1 (by decide) rfl ?_
  refine tr_goto 4 28 rfl rfl rfl ?_
  refine tr_s .iadd 1 29 [w0, w1, some (.int x2)] [.int (s1 + 1), .ref 1099] h rfl rfl rfl ?_
  refine tl_pf hL 256 99 8 26 [1100, 1101, 1102, 1103, 1104, 1105, 0, 0, 0, 0, 0, 0, 0, 0, 0, 0, 0, 0, 0, 0, 0, 1106, 0, 1107, 1108, 0, 0, 0] (s1 + 1) .int rfl rfl rfl rfl rfl tr_oki ?_
  have hL0 := hh_L_si (sl := 26) (x := (s1 + 1)) hL (show hh_t[99]? = some (.inr (8, [1100, 1101, 1102, 1103, 1104, 1105, 0, 0, 0, 0, 0, 0, 0, 0, 0, 0, 0, 0, 0, 0, 0, 1106, 0, 1107, 1108, 0, 0, 0])) from rfl) rfl
  refine tr_s (.iload_n 2) 1 33 [w0, w1, some (.int x2)] [.int x2] (hh_si h 99 8 26 (s1 + 1)) rfl rfl rfl ?_
  exact tl_ret hL0 .ireturn 1 (some (.int x2)) rfl rfl rfl (tr_eb rfl hb0) hr
theorem sg_X9_isSign_27 {g : tr_g} {d : Nat} {h : ev_AH} {r : ev_O × ev_AH} {w0 w1 : Option Value} {x2 s1 : Int32} (hL : hh_L h) (hb0 : x2 = 0 ∨ x2 = 1) (hr : r = (.inl (some (.int x2)), hh_si h 99 8 26 (s1 + 0))) : tr_L g d m_X9_isSign 27 [w0, w1, some (.int x2)] [.int s1, .ref 1099] h r := by
  refine tr_ic 0 0 (by decide) rfl ?_
  refine tr_s .iadd 1 29 [w0, w1, some (.int x2)] [.int (s1 + 0), .ref 1099] h rfl rfl rfl ?_
  refine tl_pf hL 256 99 8 26 [1100, 1101, 1102, 1103, 1104, 1105, 0, 0, 0, 0, 0, 0, 0, 0, 0, 0, 0, 0, 0, 0, 0, 1106, 0, 1107, 1108, 0, 0, 0] (s1 + 0) .int rfl rfl rfl rfl rfl tr_oki ?_
  have hL0 := hh_L_si (sl := 26) (x := (s1 + 0)) hL (show hh_t[99]? = some (.inr (8, [1100, 1101, 1102, 1103, 1104, 1105, 0, 0, 0, 0, 0, 0, 0, 0, 0, 0, 0, 0, 0, 0, 0, 1106, 0, 1107, 1108, 0, 0, 0])) from rfl) rfl
  refine tr_s (.iload_n 2) 1 33 [w0, w1, some (.int x2)] [.int x2] (hh_si h 99 8 26 (s1 + 0)) rfl rfl rfl ?_
  exact tl_ret hL0 .ireturn 1 (some (.int x2)) rfl rfl rfl (tr_eb rfl hb0) hr
theorem sg_X9_isNumber_0 {g : tr_g} {d : Nat} {h : ev_AH} {r : ev_O × ev_AH} {x1 : Int32} (hL : hh_L h) (k : tr_L g d m_X9_isNumber 4 [some (.ref 1099), some (.int x1), some (.int 0), some (.int 0)] [] h r) : tr_L g d m_X9_isNumber 0 [some (.ref 1099), some (.int x1), none, none] [] h r := by
  refine tr_ic 0 0 (by decide) rfl ?_
  refine tr_st (.istore_n 2) 1 2 0 (.int 0) rfl rfl rfl rfl rfl rfl rfl ?_
  refine tr_ic 0 0 (by decide) rfl ?_
  refine tr_st (.istore_n 3) 1 3 0 (.int 0) rfl rfl rfl rfl rfl rfl rfl ?_
  exact k
theorem sg_X9_isNumber_4 {g : tr_g} {d : Nat} {h : ev_AH} {r : ev_O × ev_AH} {x1 x2 x3 : Int32} (hL : hh_L h) (t : 2 ≤ x3 → tr_L g d m_X9_isNumber 52 [some (.ref 1099), some (.int x1), some (.int x2), some (.int x3)] [] h r) (f : x3 < 2 → tr_L g d m_X9_isNumber 9 [some (.ref 1099), some (.int x1), some (.int x2), some (.int x3)] [] h r) : tr_L g d m_X9_isNumber 4 [some (.ref 1099), some (.int x1), some (.int x2), some (.int x3)] [] h r := by
  refine tr_s (.iload_n 3) 1 5 [some (.ref 1099), some (.int x1), some (.int x2), some (.int x3)] [.int x3] h rfl rfl rfl ?_
  refine tr_ic 2 2 (by decide) rfl ?_
  exact tr_if2 .ge 46 52 x3 2 rfl rfl rfl (fun hc => t ((tr_ge hc).1 rfl)) (fun hc => f ((tr_ge hc).2 rfl))
theorem sg_X9_isNumber_9 {g : tr_g} {d : Nat} {h : ev_AH} {r : ev_O × ev_AH} {x1 x2 x3 v0 v1 : Int32} {h1 h2 : ev_AH} (hL : hh_L h) (c_0 : tr_L g d m_X9_now 0 [some (.ref 1099)] [] h (.inl (some (.int v0)), h1)) (c_1 : tr_L g d m_X9_isIn 0 [some (.int v0), some (.int 48), some (.int 57)] [] h1 (.inl (some (.int v1)), h2)) (t : v1 = 0 → tr_L g (d + 1) m_X9_isNumber 52 [some (.ref 1099), some (.int x1), some (.int x2), some (.int x3)] [] h2 r) (f : v1 ≠ 0 → tr_L g (d + 1) m_X9_isNumber 23 [some (.ref 1099), some (.int x1), some (.int x2), some (.int x3)] [] h2 r) : tr_L g (d + 1) m_X9_isNumber 9 [some (.ref 1099), some (.int x1), some (.int x2), some (.int x3)] [] h r := by
  refine tr_s (.aload_n 0) 1 10 [some (.ref 1099), some (.int x1), some (.int x2), some (.int x3)] [.ref 1099] h rfl rfl rfl ?_
  refine tr_call (.invokevirtual 259) 259 0 0 8 m_X9_now [.ref 1099] [] (some (.int v0)) h1 rfl rfl rfl rfl rfl rfl rfl rfl rfl (tr_cok rfl (Or.inr ⟨_, _, rfl, tr_rc (hh_rd (hh_obj hL (k := 99) rfl).1) (by decide)⟩)) c_0 ?_
  have hL0 := c_0.2
  refine tr_bi 48 48 (by decide) rfl ?_
  refine tr_bi 57 57 (by decide) rfl ?_
  refine tr_call (.invokestatic 70) 70 2 3 0 m_X9_isIn [.int v0, .int 48, .int 57] [] (some (.int v1)) h2 rfl rfl rfl rfl rfl rfl rfl rfl rfl (tr_cok rfl (Or.inl rfl)) c_1 ?_
  have hL1 := c_1.2
  exact tr_if1 .eq 32 52 v1 rfl rfl rfl (fun hc => t ((tr_eq hc).1 rfl)) (fun hc => f ((tr_eq hc).2 rfl))
theorem sg_X9_isNumber_23 {g : tr_g} {d : Nat} {h : ev_AH} {r : ev_O × ev_AH} {x1 x2 x3 v0 : Int32} {h1 : ev_AH} (hL : hh_L h) (c_0 : tr_L g d m_X9_now 0 [some (.ref 1099)] [] h (.inl (some (.int v0)), h1)) (k : tr_L g (d + 1) m_X9_isNumber 4 [some (.ref 1099), some (.int x1), some (.int (((10 * x2) + v0) - 48)), some (.int (x3 + 1))] [] (hh_si h1 99 8 26 ((hh_i h1 99 26) + 1)) r) : tr_L g (d + 1) m_X9_isNumber 23 [some (.ref 1099), some (.int x1), some (.int x2), some (.int x3)] [] h r := by
  refine tr_bi 10 10 (by decide) rfl ?_
  refine tr_s (.iload_n 2) 1 26 [some (.ref 1099), some (.int x1), some (.int x2), some (.int x3)] [.int x2, .int 10] h rfl rfl rfl ?_
  refine tr_s .imul 1 27 [some (.ref 1099), some (.int x1), some (.int x2), some (.int x3)] [.int (10 * x2)] h rfl rfl rfl ?_
  refine tr_s (.aload_n 0) 1 28 [some (.ref 1099), some (.int x1), some (.int x2), some (.int x3)] [.ref 1099, .int (10 * x2)] h rfl rfl rfl ?_
  refine tr_call (.invokevirtual 259) 259 0 0 8 m_X9_now [.ref 1099] [.int (10 * x2)] (some (.int v0)) h1 rfl rfl rfl rfl rfl rfl rfl rfl rfl (tr_cok rfl (Or.inr ⟨_, _, rfl, tr_rc (hh_rd (hh_obj hL (k := 99) rfl).1) (by decide)⟩)) c_0 ?_
  have hL0 := c_0.2
  refine tr_s .iadd 1 32 [some (.ref 1099), some (.int x1), some (.int x2), some (.int x3)] [.int ((10 * x2) + v0)] h1 rfl rfl rfl ?_
  refine tr_bi 48 48 (by decide) rfl ?_
  refine tr_s .isub 1 35 [some (.ref 1099), some (.int x1), some (.int x2), some (.int x3)] [.int (((10 * x2) + v0) - 48)] h1 rfl rfl rfl ?_
  refine tr_st (.istore_n 2) 1 2 0 (.int (((10 * x2) + v0) - 48)) rfl rfl rfl rfl rfl rfl rfl ?_
  refine tr_s (.aload_n 0) 1 37 [some (.ref 1099), some (.int x1), some (.int (((10 * x2) + v0) - 48)), some (.int x3)] [.ref 1099] h1 rfl rfl rfl ?_
  refine tr_s .dup 1 38 [some (.ref 1099), some (.int x1), some (.int (((10 * x2) + v0) - 48)), some (.int x3)] [.ref 1099, .ref 1099] h1 rfl rfl rfl ?_
  refine tl_gi hL0 256 99 8 26 [1100, 1101, 1102, 1103, 1104, 1105, 0, 0, 0, 0, 0, 0, 0, 0, 0, 0, 0, 0, 0, 0, 0, 1106, 0, 1107, 1108, 0, 0, 0] rfl rfl rfl rfl ?_
  refine tr_ic 1 1 (by decide) rfl ?_
  refine tr_s .iadd 1 43 [some (.ref 1099), some (.int x1), some (.int (((10 * x2) + v0) - 48)), some (.int x3)] [.int ((hh_i h1 99 26) + 1), .ref 1099] h1 rfl rfl rfl ?_
  refine tl_pf hL0 256 99 8 26 [1100, 1101, 1102, 1103, 1104, 1105, 0, 0, 0, 0, 0, 0, 0, 0, 0, 0, 0, 0, 0, 0, 0, 1106, 0, 1107, 1108, 0, 0, 0] ((hh_i h1 99 26) + 1) .int rfl rfl rfl rfl rfl tr_oki ?_
  have hL1 := hh_L_si (sl := 26) (x := ((hh_i h1 99 26) + 1)) hL0 (show hh_t[99]? = some (.inr (8, [1100, 1101, 1102, 1103, 1104, 1105, 0, 0, 0, 0, 0, 0, 0, 0, 0, 0, 0, 0, 0, 0, 0, 1106, 0, 1107, 1108, 0, 0, 0])) from rfl) rfl
  refine tr_inc 3 1 x3 1 (by decide) rfl rfl rfl ?_
  refine tr_goto (-45) 4 rfl rfl rfl ?_
  exact k
theorem sg_X9_isNumber_52 {g : tr_g} {d : Nat} {h : ev_AH} {r : ev_O × ev_AH} {x1 x2 x3 : Int32} {j0 : Nat} (hL : hh_L h) (e0 : x1 = Int32.ofNat j0) (b0 : j0 < 155) (t : x3 ≤ 0 → tr_L g d m_X9_isNumber 67 [some (.ref 1099), some (.int x1), some (.int x2), some (.int x3)] [] (hh_sa h 108 0 ((hh_a h 108).set j0 x2)) r) (f : 0 < x3 → tr_L g d m_X9_isNumber 63 [some (.ref 1099), some (.int x1), some (.int x2), some (.int x3)] [] (hh_sa h 108 0 ((hh_a h 108).set j0 x2)) r) : tr_L g d m_X9_isNumber 52 [some (.ref 1099), some (.int x1), some (.int x2), some (.int x3)] [] h r := by
  refine tr_s (.aload_n 0) 1 53 [some (.ref 1099), some (.int x1), some (.int x2), some (.int x3)] [.ref 1099] h rfl rfl rfl ?_
  refine tl_gr hL 38 99 8 24 108 [1100, 1101, 1102, 1103, 1104, 1105, 0, 0, 0, 0, 0, 0, 0, 0, 0, 0, 0, 0, 0, 0, 0, 1106, 0, 1107, 1108, 0, 0, 0] rfl rfl rfl rfl ?_
  refine tr_s (.iload_n 1) 1 57 [some (.ref 1099), some (.int x1), some (.int x2), some (.int x3)] [.int x1, .ref 1108] h rfl rfl rfl ?_
  refine tr_s (.iload_n 2) 1 58 [some (.ref 1099), some (.int x1), some (.int x2), some (.int x3)] [.int x2, .int x1, .ref 1108] h rfl rfl rfl ?_
  refine tl_ias hL 108 155 j0 x1 x2 rfl rfl e0 b0 (by decide) ?_
  have hL0 := hh_L_ss (j := j0) (x := x2) hL (show hh_t[108]? = some (.inl (0, 155)) from rfl)
  refine tr_s (.iload_n 3) 1 60 [some (.ref 1099), some (.int x1), some (.int x2), some (.int x3)] [.int x3] (hh_sa h 108 0 ((hh_a h 108).set j0 x2)) rfl rfl rfl ?_
  exact tr_if1 .le 7 67 x3 rfl rfl rfl (fun hc => t ((tr_le hc).1 rfl)) (fun hc => f ((tr_le hc).2 rfl))
theorem sg_X9_isNumber_63 {g : tr_g} {d : Nat} {h : ev_AH} {r : ev_O × ev_AH} {w0 w1 w2 w3 : Option Value} (hL : hh_L h) (hr : r = (.inl (some (.int 1)), h)) : tr_L g d m_X9_isNumber 63 [w0, w1, w2, w3] [] h r := by
  refine tr_ic 1 1 (by decide) rfl ?_
  refine tr_goto 4 68 rfl rfl rfl ?_
  exact tl_ret hL .ireturn 1 (some (.int 1)) rfl rfl rfl rfl hr
theorem sg_X9_isNumber_67 {g : tr_g} {d : Nat} {h : ev_AH} {r : ev_O × ev_AH} {w0 w1 w2 w3 : Option Value} (hL : hh_L h) (hr : r = (.inl (some (.int 0)), h)) : tr_L g d m_X9_isNumber 67 [w0, w1, w2, w3] [] h r := by
  refine tr_ic 0 0 (by decide) rfl ?_
  exact tl_ret hL .ireturn 1 (some (.int 0)) rfl rfl rfl rfl hr
theorem sg_X9_takes_0 {g : tr_g} {d : Nat} {h : ev_AH} {r : ev_O × ev_AH} {x1 x2 v0 : Int32} {h1 : ev_AH} {j0 : Nat} (hL : hh_L h) (c_0 : tr_L g d m_X9_now 0 [some (.ref 1099)] [] h (.inl (some (.int v0)), h1)) (e0 : x2 = Int32.ofNat j0) (b0 : j0 < 155) (t : x1 = 0 → tr_L g (d + 1) m_X9_takes 23 [some (.ref 1099), some (.int x1), some (.int x2)] [.int (hh_i (hh_sa h1 108 0 ((hh_a h1 108).set j0 v0)) 99 26), .ref 1099] (hh_sa h1 108 0 ((hh_a h1 108).set j0 v0)) r) (f : x1 ≠ 0 → tr_L g (d + 1) m_X9_takes 19 [some (.ref 1099), some (.int x1), some (.int x2)] [.int (hh_i (hh_sa h1 108 0 ((hh_a h1 108).set j0 v0)) 99 26), .ref 1099] (hh_sa h1 108 0 ((hh_a h1 108).set j0 v0)) r) : tr_L g (d + 1) m_X9_takes 0 [some (.ref 1099), some (.int x1), some (.int x2)] [] h r := by
  refine tr_s (.aload_n 0) 1 1 [some (.ref 1099), some (.int x1), some (.int x2)] [.ref 1099] h rfl rfl rfl ?_
  refine tl_gr hL 38 99 8 24 108 [1100, 1101, 1102, 1103, 1104, 1105, 0, 0, 0, 0, 0, 0, 0, 0, 0, 0, 0, 0, 0, 0, 0, 1106, 0, 1107, 1108, 0, 0, 0] rfl rfl rfl rfl ?_
  refine tr_s (.iload_n 2) 1 5 [some (.ref 1099), some (.int x1), some (.int x2)] [.int x2, .ref 1108] h rfl rfl rfl ?_
  refine tr_s (.aload_n 0) 1 6 [some (.ref 1099), some (.int x1), some (.int x2)] [.ref 1099, .int x2, .ref 1108] h rfl rfl rfl ?_
  refine tr_call (.invokevirtual 259) 259 0 0 8 m_X9_now [.ref 1099] [.int x2, .ref 1108] (some (.int v0)) h1 rfl rfl rfl rfl rfl rfl rfl rfl rfl (tr_cok rfl (Or.inr ⟨_, _, rfl, tr_rc (hh_rd (hh_obj hL (k := 99) rfl).1) (by decide)⟩)) c_0 ?_
  have hL0 := c_0.2
  refine tl_ias hL0 108 155 j0 x2 v0 rfl rfl e0 b0 (by decide) ?_
  have hL1 := hh_L_ss (j := j0) (x := v0) hL0 (show hh_t[108]? = some (.inl (0, 155)) from rfl)
  refine tr_s (.aload_n 0) 1 11 [some (.ref 1099), some (.int x1), some (.int x2)] [.ref 1099] (hh_sa h1 108 0 ((hh_a h1 108).set j0 v0)) rfl rfl rfl ?_
  refine tr_s .dup 1 12 [some (.ref 1099), some (.int x1), some (.int x2)] [.ref 1099, .ref 1099] (hh_sa h1 108 0 ((hh_a h1 108).set j0 v0)) rfl rfl rfl ?_
  refine tl_gi hL1 256 99 8 26 [1100, 1101, 1102, 1103, 1104, 1105, 0, 0, 0, 0, 0, 0, 0, 0, 0, 0, 0, 0, 0, 0, 0, 1106, 0, 1107, 1108, 0, 0, 0] rfl rfl rfl rfl ?_
  refine tr_s (.iload_n 1) 1 16 [some (.ref 1099), some (.int x1), some (.int x2)] [.int x1, .int (hh_i (hh_sa h1 108 0 ((hh_a h1 108).set j0 v0)) 99 26), .ref 1099] (hh_sa h1 108 0 ((hh_a h1 108).set j0 v0)) rfl rfl rfl ?_
  exact tr_if1 .eq 7 23 x1 rfl rfl rfl (fun hc => t ((tr_eq hc).1 rfl)) (fun hc => f ((tr_eq hc).2 rfl))
theorem sg_X9_takes_19 {g : tr_g} {d : Nat} {h : ev_AH} {r : ev_O × ev_AH} {w0 w2 : Option Value} {x1 s1 : Int32} (hL : hh_L h) (hb0 : x1 = 0 ∨ x1 = 1) (hr : r = (.inl (some (.int x1)), hh_si h 99 8 26 (s1 + 1))) : tr_L g d m_X9_takes 19 [w0, some (.int x1), w2] [.int s1, .ref 1099] h r := by
  refine tr_ic 1 1 (by decide) rfl ?_
  refine tr_goto 4 24 rfl rfl rfl ?_
  refine tr_s .iadd 1 25 [w0, some (.int x1), w2] [.int (s1 + 1), .ref 1099] h rfl rfl rfl ?_
  refine tl_pf hL 256 99 8 26 [1100, 1101, 1102, 1103, 1104, 1105, 0, 0, 0, 0, 0, 0, 0, 0, 0, 0, 0, 0, 0, 0, 0, 1106, 0, 1107, 1108, 0, 0, 0] (s1 + 1) .int rfl rfl rfl rfl rfl tr_oki ?_
  have hL0 := hh_L_si (sl := 26) (x := (s1 + 1)) hL (show hh_t[99]? = some (.inr (8, [1100, 1101, 1102, 1103, 1104, 1105, 0, 0, 0, 0, 0, 0, 0, 0, 0, 0, 0, 0, 0, 0, 0, 1106, 0, 1107, 1108, 0, 0, 0])) from rfl) rfl
  refine tr_s (.iload_n 1) 1 29 [w0, some (.int x1), w2] [.int x1] (hh_si h 99 8 26 (s1 + 1)) rfl rfl rfl ?_
  exact tl_ret hL0 .ireturn 1 (some (.int x1)) rfl rfl rfl (tr_eb rfl hb0) hr
theorem sg_X9_takes_23 {g : tr_g} {d : Nat} {h : ev_AH} {r : ev_O × ev_AH} {w0 w2 : Option Value} {x1 s1 : Int32} (hL : hh_L h) (hb0 : x1 = 0 ∨ x1 = 1) (hr : r = (.inl (some (.int x1)), hh_si h 99 8 26 (s1 + 0))) : tr_L g d m_X9_takes 23 [w0, some (.int x1), w2] [.int s1, .ref 1099] h r := by
  refine tr_ic 0 0 (by decide) rfl ?_
  refine tr_s .iadd 1 25 [w0, some (.int x1), w2] [.int (s1 + 0), .ref 1099] h rfl rfl rfl ?_
  refine tl_pf hL 256 99 8 26 [1100, 1101, 1102, 1103, 1104, 1105, 0, 0, 0, 0, 0, 0, 0, 0, 0, 0, 0, 0, 0, 0, 0, 1106, 0, 1107, 1108, 0, 0, 0] (s1 + 0) .int rfl rfl rfl rfl rfl tr_oki ?_
  have hL0 := hh_L_si (sl := 26) (x := (s1 + 0)) hL (show hh_t[99]? = some (.inr (8, [1100, 1101, 1102, 1103, 1104, 1105, 0, 0, 0, 0, 0, 0, 0, 0, 0, 0, 0, 0, 0, 0, 0, 1106, 0, 1107, 1108, 0, 0, 0])) from rfl) rfl
  refine tr_s (.iload_n 1) 1 29 [w0, some (.int x1), w2] [.int x1] (hh_si h 99 8 26 (s1 + 0)) rfl rfl rfl ?_
  exact tl_ret hL0 .ireturn 1 (some (.int x1)) rfl rfl rfl (tr_eb rfl hb0) hr
theorem sg_X9_readsM_0 {g : tr_g} {d : Nat} {h : ev_AH} {r : ev_O × ev_AH} {x1 v0 : Int32} {h1 : ev_AH} (hL : hh_L h) (c_0 : tr_L g d m_X9_isSign 0 [some (.ref 1099), some (.int 105), none] [] h (.inl (some (.int v0)), h1)) (t : v0 = 0 → tr_L g (d + 1) m_X9_readsM 61 [some (.ref 1099), some (.int x1)] [] h1 r) (f : v0 ≠ 0 → tr_L g (d + 1) m_X9_readsM 9 [some (.ref 1099), some (.int x1)] [] h1 r) : tr_L g (d + 1) m_X9_readsM 0 [some (.ref 1099), some (.int x1)] [] h r := by
  refine tr_s (.aload_n 0) 1 1 [some (.ref 1099), some (.int x1)] [.ref 1099] h rfl rfl rfl ?_
  refine tr_bi 105 105 (by decide) rfl ?_
  refine tr_call (.invokevirtual 271) 271 0 1 8 m_X9_isSign [.ref 1099, .int 105] [] (some (.int v0)) h1 rfl rfl rfl rfl rfl rfl rfl rfl rfl (tr_cok rfl (Or.inr ⟨_, _, rfl, tr_rc (hh_rd (hh_obj hL (k := 99) rfl).1) (by decide)⟩)) c_0 ?_
  have hL0 := c_0.2
  exact tr_if1 .eq 55 61 v0 rfl rfl rfl (fun hc => t ((tr_eq hc).1 rfl)) (fun hc => f ((tr_eq hc).2 rfl))
theorem sg_X9_readsM_9 {g : tr_g} {d : Nat} {h : ev_AH} {r : ev_O × ev_AH} {x1 v0 : Int32} {h1 : ev_AH} (hL : hh_L h) (c_0 : tr_L g d m_X9_isWord 0 [some (.ref 1099), some (.ref 27), none] [] h (.inl (some (.int v0)), h1)) (t : v0 = 0 → tr_L g (d + 1) m_X9_readsM 59 [some (.ref 1099), some (.int x1)] [] h1 r) (f : v0 ≠ 0 → tr_L g (d + 1) m_X9_readsM 19 [some (.ref 1099), some (.int x1)] [] h1 r) : tr_L g (d + 1) m_X9_readsM 9 [some (.ref 1099), some (.int x1)] [] h r := by
  refine tr_s (.aload_n 0) 1 10 [some (.ref 1099), some (.int x1)] [.ref 1099] h rfl rfl rfl ?_
  refine tr_s (.ldc_w 286) 3 13 [some (.ref 1099), some (.int x1)] [.ref 27, .ref 1099] h rfl rfl rfl ?_
  refine tr_call (.invokevirtual 276) 276 0 1 8 m_X9_isWord [.ref 1099, .ref 27] [] (some (.int v0)) h1 rfl rfl rfl rfl rfl rfl rfl rfl rfl (tr_cok rfl (Or.inr ⟨_, _, rfl, tr_rc (hh_rd (hh_obj hL (k := 99) rfl).1) (by decide)⟩)) c_0 ?_
  have hL0 := c_0.2
  exact tr_if1 .eq 43 59 v0 rfl rfl rfl (fun hc => t ((tr_eq hc).1 rfl)) (fun hc => f ((tr_eq hc).2 rfl))
theorem sg_X9_readsM_19 {g : tr_g} {d : Nat} {h : ev_AH} {r : ev_O × ev_AH} {x1 v0 : Int32} {h1 : ev_AH} (hL : hh_L h) (c_0 : tr_L g d m_X9_isNumber 0 [some (.ref 1099), some (.int (x1 + 1)), none, none] [] h (.inl (some (.int v0)), h1)) (t : v0 = 0 → tr_L g (d + 1) m_X9_readsM 59 [some (.ref 1099), some (.int x1)] [] h1 r) (f : v0 ≠ 0 → tr_L g (d + 1) m_X9_readsM 29 [some (.ref 1099), some (.int x1)] [] h1 r) : tr_L g (d + 1) m_X9_readsM 19 [some (.ref 1099), some (.int x1)] [] h r := by
  refine tr_s (.aload_n 0) 1 20 [some (.ref 1099), some (.int x1)] [.ref 1099] h rfl rfl rfl ?_
  refine tr_s (.iload_n 1) 1 21 [some (.ref 1099), some (.int x1)] [.int x1, .ref 1099] h rfl rfl rfl ?_
  refine tr_ic 1 1 (by decide) rfl ?_
  refine tr_s .iadd 1 23 [some (.ref 1099), some (.int x1)] [.int (x1 + 1), .ref 1099] h rfl rfl rfl ?_
  refine tr_call (.invokevirtual 280) 280 0 1 8 m_X9_isNumber [.ref 1099, .int (x1 + 1)] [] (some (.int v0)) h1 rfl rfl rfl rfl rfl rfl rfl rfl rfl (tr_cok rfl (Or.inr ⟨_, _, rfl, tr_rc (hh_rd (hh_obj hL (k := 99) rfl).1) (by decide)⟩)) c_0 ?_
  have hL0 := c_0.2
  exact tr_if1 .eq 33 59 v0 rfl rfl rfl (fun hc => t ((tr_eq hc).1 rfl)) (fun hc => f ((tr_eq hc).2 rfl))
theorem sg_X9_readsM_29 {g : tr_g} {d : Nat} {h : ev_AH} {r : ev_O × ev_AH} {x1 v0 : Int32} {h1 : ev_AH} (hL : hh_L h) (c_0 : tr_L g d m_X9_isSign 0 [some (.ref 1099), some (.int 32), none] [] h (.inl (some (.int v0)), h1)) (t : v0 = 0 → tr_L g (d + 1) m_X9_readsM 59 [some (.ref 1099), some (.int x1)] [] h1 r) (f : v0 ≠ 0 → tr_L g (d + 1) m_X9_readsM 38 [some (.ref 1099), some (.int x1)] [] h1 r) : tr_L g (d + 1) m_X9_readsM 29 [some (.ref 1099), some (.int x1)] [] h r := by
  refine tr_s (.aload_n 0) 1 30 [some (.ref 1099), some (.int x1)] [.ref 1099] h rfl rfl rfl ?_
  refine tr_bi 32 32 (by decide) rfl ?_
  refine tr_call (.invokevirtual 271) 271 0 1 8 m_X9_isSign [.ref 1099, .int 32] [] (some (.int v0)) h1 rfl rfl rfl rfl rfl rfl rfl rfl rfl (tr_cok rfl (Or.inr ⟨_, _, rfl, tr_rc (hh_rd (hh_obj hL (k := 99) rfl).1) (by decide)⟩)) c_0 ?_
  have hL0 := c_0.2
  exact tr_if1 .eq 24 59 v0 rfl rfl rfl (fun hc => t ((tr_eq hc).1 rfl)) (fun hc => f ((tr_eq hc).2 rfl))
theorem sg_X9_readsM_38 {g : tr_g} {d : Nat} {h : ev_AH} {r : ev_O × ev_AH} {x1 v0 v1 v2 : Int32} {h1 h2 h3 : ev_AH} (hL : hh_L h) (c_0 : tr_L g d m_X9_now 0 [some (.ref 1099)] [] h (.inl (some (.int v0)), h1)) (c_1 : tr_L g d m_X9_isContent 0 [some (.int v0)] [] h1 (.inl (some (.int v1)), h2)) (c_2 : tr_L g d m_X9_takes 0 [some (.ref 1099), some (.int v1), some (.int (x1 + 2))] [] h2 (.inl (some (.int v2)), h3)) (t : v2 = 0 → tr_L g (d + 1) m_X9_readsM 59 [some (.ref 1099), some (.int x1)] [] h3 r) (f : v2 ≠ 0 → tr_L g (d + 1) m_X9_readsM 55 [some (.ref 1099), some (.int x1)] [] h3 r) : tr_L g (d + 1) m_X9_readsM 38 [some (.ref 1099), some (.int x1)] [] h r := by
  refine tr_s (.aload_n 0) 1 39 [some (.ref 1099), some (.int x1)] [.ref 1099] h rfl rfl rfl ?_
  refine tr_s (.aload_n 0) 1 40 [some (.ref 1099), some (.int x1)] [.ref 1099, .ref 1099] h rfl rfl rfl ?_
  refine tr_call (.invokevirtual 259) 259 0 0 8 m_X9_now [.ref 1099] [.ref 1099] (some (.int v0)) h1 rfl rfl rfl rfl rfl rfl rfl rfl rfl (tr_cok rfl (Or.inr ⟨_, _, rfl, tr_rc (hh_rd (hh_obj hL (k := 99) rfl).1) (by decide)⟩)) c_0 ?_
  have hL0 := c_0.2
  refine tr_call (.invokestatic 110) 110 2 1 0 m_X9_isContent [.int v0] [.ref 1099] (some (.int v1)) h2 rfl rfl rfl rfl rfl rfl rfl rfl rfl (tr_cok rfl (Or.inl rfl)) c_1 ?_
  have hL1 := c_1.2
  refine tr_s (.iload_n 1) 1 47 [some (.ref 1099), some (.int x1)] [.int x1, .int v1, .ref 1099] h2 rfl rfl rfl ?_
  refine tr_ic 2 2 (by decide) rfl ?_
  refine tr_s .iadd 1 49 [some (.ref 1099), some (.int x1)] [.int (x1 + 2), .int v1, .ref 1099] h2 rfl rfl rfl ?_
  refine tr_call (.invokevirtual 283) 283 0 2 8 m_X9_takes [.ref 1099, .int v1, .int (x1 + 2)] [] (some (.int v2)) h3 rfl rfl rfl rfl rfl rfl rfl rfl rfl (tr_cok rfl (Or.inr ⟨_, _, rfl, tr_rc (hh_rd (hh_obj hL1 (k := 99) rfl).1) (by decide)⟩)) c_2 ?_
  have hL2 := c_2.2
  exact tr_if1 .eq 7 59 v2 rfl rfl rfl (fun hc => t ((tr_eq hc).1 rfl)) (fun hc => f ((tr_eq hc).2 rfl))
theorem sg_X9_readsM_55 {g : tr_g} {d : Nat} {h : ev_AH} {r : ev_O × ev_AH} {w0 w1 : Option Value} (hL : hh_L h) (hr : r = (.inl (some (.int 1)), h)) : tr_L g d m_X9_readsM 55 [w0, w1] [] h r := by
  refine tr_ic 1 1 (by decide) rfl ?_
  refine tr_goto 4 60 rfl rfl rfl ?_
  exact tl_ret hL .ireturn 1 (some (.int 1)) rfl rfl rfl rfl hr
theorem sg_X9_readsM_59 {g : tr_g} {d : Nat} {h : ev_AH} {r : ev_O × ev_AH} {w0 w1 : Option Value} (hL : hh_L h) (hr : r = (.inl (some (.int 0)), h)) : tr_L g d m_X9_readsM 59 [w0, w1] [] h r := by
  refine tr_ic 0 0 (by decide) rfl ?_
  exact tl_ret hL .ireturn 1 (some (.int 0)) rfl rfl rfl rfl hr
theorem sg_X9_readsM_61 {g : tr_g} {d : Nat} {h : ev_AH} {r : ev_O × ev_AH} {x1 v0 : Int32} {j0 : Nat} {h1 : ev_AH} (hL : hh_L h) (e0 : x1 = Int32.ofNat j0) (b0 : j0 < 155) (c_0 : tr_L g d m_X9_isWord 0 [some (.ref 1099), some (.ref 29), none] [] (hh_sa h 108 0 ((hh_a h 108).set j0 101)) (.inl (some (.int v0)), h1)) (t : v0 = 0 → tr_L g (d + 1) m_X9_readsM 125 [some (.ref 1099), some (.int x1)] [] h1 r) (f : v0 ≠ 0 → tr_L g (d + 1) m_X9_readsM 79 [some (.ref 1099), some (.int x1)] [] h1 r) : tr_L g (d + 1) m_X9_readsM 61 [some (.ref 1099), some (.int x1)] [] h r := by
  refine tr_s (.aload_n 0) 1 62 [some (.ref 1099), some (.int x1)] [.ref 1099] h rfl rfl rfl ?_
  refine tl_gr hL 38 99 8 24 108 [1100, 1101, 1102, 1103, 1104, 1105, 0, 0, 0, 0, 0, 0, 0, 0, 0, 0, 0, 0, 0, 0, 0, 1106, 0, 1107, 1108, 0, 0, 0] rfl rfl rfl rfl ?_
  refine tr_s (.iload_n 1) 1 66 [some (.ref 1099), some (.int x1)] [.int x1, .ref 1108] h rfl rfl rfl ?_
  refine tr_bi 101 101 (by decide) rfl ?_
  refine tl_ias hL 108 155 j0 x1 101 rfl rfl e0 b0 (by decide) ?_
  have hL0 := hh_L_ss (j := j0) (x := 101) hL (show hh_t[108]? = some (.inl (0, 155)) from rfl)
  refine tr_s (.aload_n 0) 1 70 [some (.ref 1099), some (.int x1)] [.ref 1099] (hh_sa h 108 0 ((hh_a h 108).set j0 101)) rfl rfl rfl ?_
  refine tr_s (.ldc_w 288) 3 73 [some (.ref 1099), some (.int x1)] [.ref 29, .ref 1099] (hh_sa h 108 0 ((hh_a h 108).set j0 101)) rfl rfl rfl ?_
  refine tr_call (.invokevirtual 276) 276 0 1 8 m_X9_isWord [.ref 1099, .ref 29] [] (some (.int v0)) h1 rfl rfl rfl rfl rfl rfl rfl rfl rfl (tr_cok rfl (Or.inr ⟨_, _, rfl, tr_rc (hh_rd (hh_obj hL0 (k := 99) rfl).1) (by decide)⟩)) c_0 ?_
  have hL1 := c_0.2
  exact tr_if1 .eq 49 125 v0 rfl rfl rfl (fun hc => t ((tr_eq hc).1 rfl)) (fun hc => f ((tr_eq hc).2 rfl))
theorem sg_X9_readsM_79 {g : tr_g} {d : Nat} {h : ev_AH} {r : ev_O × ev_AH} {x1 v0 : Int32} {h1 : ev_AH} (hL : hh_L h) (c_0 : tr_L g d m_X9_now 0 [some (.ref 1099)] [] h (.inl (some (.int v0)), h1)) (t : v0 = 112 → tr_L g (d + 1) m_X9_readsM 107 [some (.ref 1099), some (.int x1)] [.ref 1099] h1 r) (f : v0 ≠ 112 → tr_L g (d + 1) m_X9_readsM 89 [some (.ref 1099), some (.int x1)] [.ref 1099] h1 r) : tr_L g (d + 1) m_X9_readsM 79 [some (.ref 1099), some (.int x1)] [] h r := by
  refine tr_s (.aload_n 0) 1 80 [some (.ref 1099), some (.int x1)] [.ref 1099] h rfl rfl rfl ?_
  refine tr_s (.aload_n 0) 1 81 [some (.ref 1099), some (.int x1)] [.ref 1099, .ref 1099] h rfl rfl rfl ?_
  refine tr_call (.invokevirtual 259) 259 0 0 8 m_X9_now [.ref 1099] [.ref 1099] (some (.int v0)) h1 rfl rfl rfl rfl rfl rfl rfl rfl rfl (tr_cok rfl (Or.inr ⟨_, _, rfl, tr_rc (hh_rd (hh_obj hL (k := 99) rfl).1) (by decide)⟩)) c_0 ?_
  have hL0 := c_0.2
  refine tr_bi 112 112 (by decide) rfl ?_
  exact tr_if2 .eq 21 107 v0 112 rfl rfl rfl (fun hc => t ((tr_eq hc).1 rfl)) (fun hc => f ((tr_eq hc).2 rfl))
theorem sg_X9_readsM_89 {g : tr_g} {d : Nat} {h : ev_AH} {r : ev_O × ev_AH} {x1 v0 : Int32} {h1 : ev_AH} (hL : hh_L h) (c_0 : tr_L g d m_X9_now 0 [some (.ref 1099)] [] h (.inl (some (.int v0)), h1)) (t : v0 = 114 → tr_L g (d + 1) m_X9_readsM 107 [some (.ref 1099), some (.int x1)] [.ref 1099] h1 r) (f : v0 ≠ 114 → tr_L g (d + 1) m_X9_readsM 98 [some (.ref 1099), some (.int x1)] [.ref 1099] h1 r) : tr_L g (d + 1) m_X9_readsM 89 [some (.ref 1099), some (.int x1)] [.ref 1099] h r := by
  refine tr_s (.aload_n 0) 1 90 [some (.ref 1099), some (.int x1)] [.ref 1099, .ref 1099] h rfl rfl rfl ?_
  refine tr_call (.invokevirtual 259) 259 0 0 8 m_X9_now [.ref 1099] [.ref 1099] (some (.int v0)) h1 rfl rfl rfl rfl rfl rfl rfl rfl rfl (tr_cok rfl (Or.inr ⟨_, _, rfl, tr_rc (hh_rd (hh_obj hL (k := 99) rfl).1) (by decide)⟩)) c_0 ?_
  have hL0 := c_0.2
  refine tr_bi 114 114 (by decide) rfl ?_
  exact tr_if2 .eq 12 107 v0 114 rfl rfl rfl (fun hc => t ((tr_eq hc).1 rfl)) (fun hc => f ((tr_eq hc).2 rfl))
theorem sg_X9_readsM_98 {g : tr_g} {d : Nat} {h : ev_AH} {r : ev_O × ev_AH} {x1 v0 : Int32} {h1 : ev_AH} (hL : hh_L h) (c_0 : tr_L g d m_X9_now 0 [some (.ref 1099)] [] h (.inl (some (.int v0)), h1)) (t : v0 ≠ 115 → tr_L g (d + 1) m_X9_readsM 111 [some (.ref 1099), some (.int x1)] [.ref 1099] h1 r) (f : v0 = 115 → tr_L g (d + 1) m_X9_readsM 107 [some (.ref 1099), some (.int x1)] [.ref 1099] h1 r) : tr_L g (d + 1) m_X9_readsM 98 [some (.ref 1099), some (.int x1)] [.ref 1099] h r := by
  refine tr_s (.aload_n 0) 1 99 [some (.ref 1099), some (.int x1)] [.ref 1099, .ref 1099] h rfl rfl rfl ?_
  refine tr_call (.invokevirtual 259) 259 0 0 8 m_X9_now [.ref 1099] [.ref 1099] (some (.int v0)) h1 rfl rfl rfl rfl rfl rfl rfl rfl rfl (tr_cok rfl (Or.inr ⟨_, _, rfl, tr_rc (hh_rd (hh_obj hL (k := 99) rfl).1) (by decide)⟩)) c_0 ?_
  have hL0 := c_0.2
  refine tr_bi 115 115 (by decide) rfl ?_
  exact tr_if2 .ne 7 111 v0 115 rfl rfl rfl (fun hc => t ((tr_ne hc).1 rfl)) (fun hc => f ((tr_ne hc).2 rfl))
theorem sg_X9_readsM_107 {g : tr_g} {d : Nat} {h : ev_AH} {r : ev_O × ev_AH} {w0 : Option Value} {x1 v0 : Int32} {h1 : ev_AH} (hL : hh_L h) (c_0 : tr_L g d m_X9_takes 0 [some (.ref 1099), some (.int 1), some (.int (x1 + 1))] [] h (.inl (some (.int v0)), h1)) (t : v0 = 0 → tr_L g (d + 1) m_X9_readsM 125 [w0, some (.int x1)] [] h1 r) (f : v0 ≠ 0 → tr_L g (d + 1) m_X9_readsM 121 [w0, some (.int x1)] [] h1 r) : tr_L g (d + 1) m_X9_readsM 107 [w0, some (.int x1)] [.ref 1099] h r := by
  refine tr_ic 1 1 (by decide) rfl ?_
  refine tr_goto 4 112 rfl rfl rfl ?_
  refine tr_s (.iload_n 1) 1 113 [w0, some (.int x1)] [.int x1, .int 1, .ref 1099] h rfl rfl rfl ?_
  refine tr_ic 1 1 (by decide) rfl ?_
  refine tr_s .iadd 1 115 [w0, some (.int x1)] [.int (x1 + 1), .int 1, .ref 1099] h rfl rfl rfl ?_
  refine tr_call (.invokevirtual 283) 283 0 2 8 m_X9_takes [.ref 1099, .int 1, .int (x1 + 1)] [] (some (.int v0)) h1 rfl rfl rfl rfl rfl rfl rfl rfl rfl (tr_cok rfl (Or.inr ⟨_, _, rfl, tr_rc (hh_rd (hh_obj hL (k := 99) rfl).1) (by decide)⟩)) c_0 ?_
  have hL0 := c_0.2
  exact tr_if1 .eq 7 125 v0 rfl rfl rfl (fun hc => t ((tr_eq hc).1 rfl)) (fun hc => f ((tr_eq hc).2 rfl))
theorem sg_X9_readsM_111 {g : tr_g} {d : Nat} {h : ev_AH} {r : ev_O × ev_AH} {w0 : Option Value} {x1 v0 : Int32} {h1 : ev_AH} (hL : hh_L h) (c_0 : tr_L g d m_X9_takes 0 [some (.ref 1099), some (.int 0), some (.int (x1 + 1))] [] h (.inl (some (.int v0)), h1)) (t : v0 = 0 → tr_L g (d + 1) m_X9_readsM 125 [w0, some (.int x1)] [] h1 r) (f : v0 ≠ 0 → tr_L g (d + 1) m_X9_readsM 121 [w0, some (.int x1)] [] h1 r) : tr_L g (d + 1) m_X9_readsM 111 [w0, some (.int x1)] [.ref 1099] h r := by
  refine tr_ic 0 0 (by decide) rfl ?_
  refine tr_s (.iload_n 1) 1 113 [w0, some (.int x1)] [.int x1, .int 0, .ref 1099] h rfl rfl rfl ?_
  refine tr_ic 1 1 (by decide) rfl ?_
  refine tr_s .iadd 1 115 [w0, some (.int x1)] [.int (x1 + 1), .int 0, .ref 1099] h rfl rfl rfl ?_
  refine tr_call (.invokevirtual 283) 283 0 2 8 m_X9_takes [.ref 1099, .int 0, .int (x1 + 1)] [] (some (.int v0)) h1 rfl rfl rfl rfl rfl rfl rfl rfl rfl (tr_cok rfl (Or.inr ⟨_, _, rfl, tr_rc (hh_rd (hh_obj hL (k := 99) rfl).1) (by decide)⟩)) c_0 ?_
  have hL0 := c_0.2
  exact tr_if1 .eq 7 125 v0 rfl rfl rfl (fun hc => t ((tr_eq hc).1 rfl)) (fun hc => f ((tr_eq hc).2 rfl))
theorem sg_X9_readsM_121 {g : tr_g} {d : Nat} {h : ev_AH} {r : ev_O × ev_AH} {w0 w1 : Option Value} (hL : hh_L h) (hr : r = (.inl (some (.int 1)), h)) : tr_L g d m_X9_readsM 121 [w0, w1] [] h r := by
  refine tr_ic 1 1 (by decide) rfl ?_
  refine tr_goto 4 126 rfl rfl rfl ?_
  exact tl_ret hL .ireturn 1 (some (.int 1)) rfl rfl rfl rfl hr
theorem sg_X9_readsM_125 {g : tr_g} {d : Nat} {h : ev_AH} {r : ev_O × ev_AH} {w0 w1 : Option Value} (hL : hh_L h) (hr : r = (.inl (some (.int 0)), h)) : tr_L g d m_X9_readsM 125 [w0, w1] [] h r := by
  refine tr_ic 0 0 (by decide) rfl ?_
  exact tl_ret hL .ireturn 1 (some (.int 0)) rfl rfl rfl rfl hr
theorem sg_X9_does_0_t99 {g : tr_g} {d : Nat} {h : ev_AH} {r : ev_O × ev_AH} {x1 : Int32} {j0 j1 j2 : Nat} (hL : hh_L h) (e0 : x1 + 1 = Int32.ofNat j0) (b0 : j0 < 155) (e1 : x1 + 2 = Int32.ofNat j1) (b1 : j1 < 155) (e2 : x1 = Int32.ofNat j2) (b2 : j2 < 155) (e : (hh_a h 108).getD j2 0 = 99) (k : tr_L g d m_X9_does 76 [some (.ref 1099), some (.int x1), some (.int ((hh_a h 108).getD j0 0)), some (.int ((hh_a h 108).getD j1 0))] [] h r) : tr_L g d m_X9_does 0 [some (.ref 1099), some (.int x1), none, none] [] h r := by
  refine tr_s (.aload_n 0) 1 1 [some (.ref 1099), some (.int x1), none, none] [.ref 1099] h rfl rfl rfl ?_
  refine tl_gr hL 38 99 8 24 108 [1100, 1101, 1102, 1103, 1104, 1105, 0, 0, 0, 0, 0, 0, 0, 0, 0, 0, 0, 0, 0, 0, 0, 1106, 0, 1107, 1108, 0, 0, 0] rfl rfl rfl rfl ?_
  refine tr_s (.iload_n 1) 1 5 [some (.ref 1099), some (.int x1), none, none] [.int x1, .ref 1108] h rfl rfl rfl ?_
  refine tr_ic 1 1 (by decide) rfl ?_
  refine tr_s .iadd 1 7 [some (.ref 1099), some (.int x1), none, none] [.int (x1 + 1), .ref 1108] h rfl rfl rfl ?_
  refine tl_ald hL .iaload 108 0 155 j0 (x1 + 1) rfl (by decide) rfl e0 b0 (by decide) ?_
  refine tr_st (.istore_n 2) 1 2 0 (.int ((hh_a h 108).getD j0 0)) rfl rfl rfl rfl rfl rfl rfl ?_
  refine tr_s (.aload_n 0) 1 10 [some (.ref 1099), some (.int x1), some (.int ((hh_a h 108).getD j0 0)), none] [.ref 1099] h rfl rfl rfl ?_
  refine tl_gr hL 38 99 8 24 108 [1100, 1101, 1102, 1103, 1104, 1105, 0, 0, 0, 0, 0, 0, 0, 0, 0, 0, 0, 0, 0, 0, 0, 1106, 0, 1107, 1108, 0, 0, 0] rfl rfl rfl rfl ?_
  refine tr_s (.iload_n 1) 1 14 [some (.ref 1099), some (.int x1), some (.int ((hh_a h 108).getD j0 0)), none] [.int x1, .ref 1108] h rfl rfl rfl ?_
  refine tr_ic 2 2 (by decide) rfl ?_
  refine tr_s .iadd 1 16 [some (.ref 1099), some (.int x1), some (.int ((hh_a h 108).getD j0 0)), none] [.int (x1 + 2), .ref 1108] h rfl rfl rfl ?_
  refine tl_ald hL .iaload 108 0 155 j1 (x1 + 2) rfl (by decide) rfl e1 b1 (by decide) ?_
  refine tr_st (.istore_n 3) 1 3 0 (.int ((hh_a h 108).getD j1 0)) rfl rfl rfl rfl rfl rfl rfl ?_
  refine tr_s (.aload_n 0) 1 19 [some (.ref 1099), some (.int x1), some (.int ((hh_a h 108).getD j0 0)), some (.int ((hh_a h 108).getD j1 0))] [.ref 1099] h rfl rfl rfl ?_
  refine tl_gr hL 38 99 8 24 108 [1100, 1101, 1102, 1103, 1104, 1105, 0, 0, 0, 0, 0, 0, 0, 0, 0, 0, 0, 0, 0, 0, 0, 1106, 0, 1107, 1108, 0, 0, 0] rfl rfl rfl rfl ?_
  refine tr_s (.iload_n 1) 1 23 [some (.ref 1099), some (.int x1), some (.int ((hh_a h 108).getD j0 0)), some (.int ((hh_a h 108).getD j1 0))] [.int x1, .ref 1108] h rfl rfl rfl ?_
  refine tl_ald hL .iaload 108 0 155 j2 x1 rfl (by decide) rfl e2 b2 (by decide) ?_
  exact tr_s (.lookupswitch 100 #[(99, 52), (101, 82), (109, 75), (115, 88), (118, 95)]) 52 76 [some (.ref 1099), some (.int x1), some (.int ((hh_a h 108).getD j0 0)), some (.int ((hh_a h 108).getD j1 0))] [] h rfl rfl (by rw [e]; rfl) k
theorem sg_X9_does_0_t101 {g : tr_g} {d : Nat} {h : ev_AH} {r : ev_O × ev_AH} {x1 : Int32} {j0 j1 j2 : Nat} (hL : hh_L h) (e0 : x1 + 1 = Int32.ofNat j0) (b0 : j0 < 155) (e1 : x1 + 2 = Int32.ofNat j1) (b1 : j1 < 155) (e2 : x1 = Int32.ofNat j2) (b2 : j2 < 155) (e : (hh_a h 108).getD j2 0 = 101) (k : tr_L g d m_X9_does 106 [some (.ref 1099), some (.int x1), some (.int ((hh_a h 108).getD j0 0)), some (.int ((hh_a h 108).getD j1 0))] [] h r) : tr_L g d m_X9_does 0 [some (.ref 1099), some (.int x1), none, none] [] h r := by
  refine tr_s (.aload_n 0) 1 1 [some (.ref 1099), some (.int x1), none, none] [.ref 1099] h rfl rfl rfl ?_
  refine tl_gr hL 38 99 8 24 108 [1100, 1101, 1102, 1103, 1104, 1105, 0, 0, 0, 0, 0, 0, 0, 0, 0, 0, 0, 0, 0, 0, 0, 1106, 0, 1107, 1108, 0, 0, 0] rfl rfl rfl rfl ?_
  refine tr_s (.iload_n 1) 1 5 [some (.ref 1099), some (.int x1), none, none] [.int x1, .ref 1108] h rfl rfl rfl ?_
  refine tr_ic 1 1 (by decide) rfl ?_
  refine tr_s .iadd 1 7 [some (.ref 1099), some (.int x1), none, none] [.int (x1 + 1), .ref 1108] h rfl rfl rfl ?_
  refine tl_ald hL .iaload 108 0 155 j0 (x1 + 1) rfl (by decide) rfl e0 b0 (by decide) ?_
  refine tr_st (.istore_n 2) 1 2 0 (.int ((hh_a h 108).getD j0 0)) rfl rfl rfl rfl rfl rfl rfl ?_
  refine tr_s (.aload_n 0) 1 10 [some (.ref 1099), some (.int x1), some (.int ((hh_a h 108).getD j0 0)), none] [.ref 1099] h rfl rfl rfl ?_
  refine tl_gr hL 38 99 8 24 108 [1100, 1101, 1102, 1103, 1104, 1105, 0, 0, 0, 0, 0, 0, 0, 0, 0, 0, 0, 0, 0, 0, 0, 1106, 0, 1107, 1108, 0, 0, 0] rfl rfl rfl rfl ?_
  refine tr_s (.iload_n 1) 1 14 [some (.ref 1099), some (.int x1), some (.int ((hh_a h 108).getD j0 0)), none] [.int x1, .ref 1108] h rfl rfl rfl ?_
  refine tr_ic 2 2 (by decide) rfl ?_
  refine tr_s .iadd 1 16 [some (.ref 1099), some (.int x1), some (.int ((hh_a h 108).getD j0 0)), none] [.int (x1 + 2), .ref 1108] h rfl rfl rfl ?_
  refine tl_ald hL .iaload 108 0 155 j1 (x1 + 2) rfl (by decide) rfl e1 b1 (by decide) ?_
  refine tr_st (.istore_n 3) 1 3 0 (.int ((hh_a h 108).getD j1 0)) rfl rfl rfl rfl rfl rfl rfl ?_
  refine tr_s (.aload_n 0) 1 19 [some (.ref 1099), some (.int x1), some (.int ((hh_a h 108).getD j0 0)), some (.int ((hh_a h 108).getD j1 0))] [.ref 1099] h rfl rfl rfl ?_
  refine tl_gr hL 38 99 8 24 108 [1100, 1101, 1102, 1103, 1104, 1105, 0, 0, 0, 0, 0, 0, 0, 0, 0, 0, 0, 0, 0, 0, 0, 1106, 0, 1107, 1108, 0, 0, 0] rfl rfl rfl rfl ?_
  refine tr_s (.iload_n 1) 1 23 [some (.ref 1099), some (.int x1), some (.int ((hh_a h 108).getD j0 0)), some (.int ((hh_a h 108).getD j1 0))] [.int x1, .ref 1108] h rfl rfl rfl ?_
  refine tl_ald hL .iaload 108 0 155 j2 x1 rfl (by decide) rfl e2 b2 (by decide) ?_
  exact tr_s (.lookupswitch 100 #[(99, 52), (101, 82), (109, 75), (115, 88), (118, 95)]) 52 106 [some (.ref 1099), some (.int x1), some (.int ((hh_a h 108).getD j0 0)), some (.int ((hh_a h 108).getD j1 0))] [] h rfl rfl (by rw [e]; rfl) k
theorem sg_X9_does_0_t109 {g : tr_g} {d : Nat} {h : ev_AH} {r : ev_O × ev_AH} {x1 : Int32} {j0 j1 j2 : Nat} (hL : hh_L h) (e0 : x1 + 1 = Int32.ofNat j0) (b0 : j0 < 155) (e1 : x1 + 2 = Int32.ofNat j1) (b1 : j1 < 155) (e2 : x1 = Int32.ofNat j2) (b2 : j2 < 155) (e : (hh_a h 108).getD j2 0 = 109) (k : tr_L g d m_X9_does 99 [some (.ref 1099), some (.int x1), some (.int ((hh_a h 108).getD j0 0)), some (.int ((hh_a h 108).getD j1 0))] [] h r) : tr_L g d m_X9_does 0 [some (.ref 1099), some (.int x1), none, none] [] h r := by
  refine tr_s (.aload_n 0) 1 1 [some (.ref 1099), some (.int x1), none, none] [.ref 1099] h rfl rfl rfl ?_
  refine tl_gr hL 38 99 8 24 108 [1100, 1101, 1102, 1103, 1104, 1105, 0, 0, 0, 0, 0, 0, 0, 0, 0, 0, 0, 0, 0, 0, 0, 1106, 0, 1107, 1108, 0, 0, 0] rfl rfl rfl rfl ?_
  refine tr_s (.iload_n 1) 1 5 [some (.ref 1099), some (.int x1), none, none] [.int x1, .ref 1108] h rfl rfl rfl ?_
  refine tr_ic 1 1 (by decide) rfl ?_
  refine tr_s .iadd 1 7 [some (.ref 1099), some (.int x1), none, none] [.int (x1 + 1), .ref 1108] h rfl rfl rfl ?_
  refine tl_ald hL .iaload 108 0 155 j0 (x1 + 1) rfl (by decide) rfl e0 b0 (by decide) ?_
  refine tr_st (.istore_n 2) 1 2 0 (.int ((hh_a h 108).getD j0 0)) rfl rfl rfl rfl rfl rfl rfl ?_
  refine tr_s (.aload_n 0) 1 10 [some (.ref 1099), some (.int x1), some (.int ((hh_a h 108).getD j0 0)), none] [.ref 1099] h rfl rfl rfl ?_
  refine tl_gr hL 38 99 8 24 108 [1100, 1101, 1102, 1103, 1104, 1105, 0, 0, 0, 0, 0, 0, 0, 0, 0, 0, 0, 0, 0, 0, 0, 1106, 0, 1107, 1108, 0, 0, 0] rfl rfl rfl rfl ?_
  refine tr_s (.iload_n 1) 1 14 [some (.ref 1099), some (.int x1), some (.int ((hh_a h 108).getD j0 0)), none] [.int x1, .ref 1108] h rfl rfl rfl ?_
  refine tr_ic 2 2 (by decide) rfl ?_
  refine tr_s .iadd 1 16 [some (.ref 1099), some (.int x1), some (.int ((hh_a h 108).getD j0 0)), none] [.int (x1 + 2), .ref 1108] h rfl rfl rfl ?_
  refine tl_ald hL .iaload 108 0 155 j1 (x1 + 2) rfl (by decide) rfl e1 b1 (by decide) ?_
  refine tr_st (.istore_n 3) 1 3 0 (.int ((hh_a h 108).getD j1 0)) rfl rfl rfl rfl rfl rfl rfl ?_
  refine tr_s (.aload_n 0) 1 19 [some (.ref 1099), some (.int x1), some (.int ((hh_a h 108).getD j0 0)), some (.int ((hh_a h 108).getD j1 0))] [.ref 1099] h rfl rfl rfl ?_
  refine tl_gr hL 38 99 8 24 108 [1100, 1101, 1102, 1103, 1104, 1105, 0, 0, 0, 0, 0, 0, 0, 0, 0, 0, 0, 0, 0, 0, 0, 1106, 0, 1107, 1108, 0, 0, 0] rfl rfl rfl rfl ?_
  refine tr_s (.iload_n 1) 1 23 [some (.ref 1099), some (.int x1), some (.int ((hh_a h 108).getD j0 0)), some (.int ((hh_a h 108).getD j1 0))] [.int x1, .ref 1108] h rfl rfl rfl ?_
  refine tl_ald hL .iaload 108 0 155 j2 x1 rfl (by decide) rfl e2 b2 (by decide) ?_
  exact tr_s (.lookupswitch 100 #[(99, 52), (101, 82), (109, 75), (115, 88), (118, 95)]) 52 99 [some (.ref 1099), some (.int x1), some (.int ((hh_a h 108).getD j0 0)), some (.int ((hh_a h 108).getD j1 0))] [] h rfl rfl (by rw [e]; rfl) k
theorem sg_X9_does_0_t115 {g : tr_g} {d : Nat} {h : ev_AH} {r : ev_O × ev_AH} {x1 : Int32} {j0 j1 j2 : Nat} (hL : hh_L h) (e0 : x1 + 1 = Int32.ofNat j0) (b0 : j0 < 155) (e1 : x1 + 2 = Int32.ofNat j1) (b1 : j1 < 155) (e2 : x1 = Int32.ofNat j2) (b2 : j2 < 155) (e : (hh_a h 108).getD j2 0 = 115) (k : tr_L g d m_X9_does 112 [some (.ref 1099), some (.int x1), some (.int ((hh_a h 108).getD j0 0)), some (.int ((hh_a h 108).getD j1 0))] [] h r) : tr_L g d m_X9_does 0 [some (.ref 1099), some (.int x1), none, none] [] h r := by
  refine tr_s (.aload_n 0) 1 1 [some (.ref 1099), some (.int x1), none, none] [.ref 1099] h rfl rfl rfl ?_
  refine tl_gr hL 38 99 8 24 108 [1100, 1101, 1102, 1103, 1104, 1105, 0, 0, 0, 0, 0, 0, 0, 0, 0, 0, 0, 0, 0, 0, 0, 1106, 0, 1107, 1108, 0, 0, 0] rfl rfl rfl rfl ?_
  refine tr_s (.iload_n 1) 1 5 [some (.ref 1099), some (.int x1), none, none] [.int x1, .ref 1108] h rfl rfl rfl ?_
  refine tr_ic 1 1 (by decide) rfl ?_
  refine tr_s .iadd 1 7 [some (.ref 1099), some (.int x1), none, none] [.int (x1 + 1), .ref 1108] h rfl rfl rfl ?_
  refine tl_ald hL .iaload 108 0 155 j0 (x1 + 1) rfl (by decide) rfl e0 b0 (by decide) ?_
  refine tr_st (.istore_n 2) 1 2 0 (.int ((hh_a h 108).getD j0 0)) rfl rfl rfl rfl rfl rfl rfl ?_
  refine tr_s (.aload_n 0) 1 10 [some (.ref 1099), some (.int x1), some (.int ((hh_a h 108).getD j0 0)), none] [.ref 1099] h rfl rfl rfl ?_
  refine tl_gr hL 38 99 8 24 108 [1100, 1101, 1102, 1103, 1104, 1105, 0, 0, 0, 0, 0, 0, 0, 0, 0, 0, 0, 0, 0, 0, 0, 1106, 0, 1107, 1108, 0, 0, 0] rfl rfl rfl rfl ?_
  refine tr_s (.iload_n 1) 1 14 [some (.ref 1099), some (.int x1), some (.int ((hh_a h 108).getD j0 0)), none] [.int x1, .ref 1108] h rfl rfl rfl ?_
  refine tr_ic 2 2 (by decide) rfl ?_
  refine tr_s .iadd 1 16 [some (.ref 1099), some (.int x1), some (.int ((hh_a h 108).getD j0 0)), none] [.int (x1 + 2), .ref 1108] h rfl rfl rfl ?_
  refine tl_ald hL .iaload 108 0 155 j1 (x1 + 2) rfl (by decide) rfl e1 b1 (by decide) ?_
  refine tr_st (.istore_n 3) 1 3 0 (.int ((hh_a h 108).getD j1 0)) rfl rfl rfl rfl rfl rfl rfl ?_
  refine tr_s (.aload_n 0) 1 19 [some (.ref 1099), some (.int x1), some (.int ((hh_a h 108).getD j0 0)), some (.int ((hh_a h 108).getD j1 0))] [.ref 1099] h rfl rfl rfl ?_
  refine tl_gr hL 38 99 8 24 108 [1100, 1101, 1102, 1103, 1104, 1105, 0, 0, 0, 0, 0, 0, 0, 0, 0, 0, 0, 0, 0, 0, 0, 1106, 0, 1107, 1108, 0, 0, 0] rfl rfl rfl rfl ?_
  refine tr_s (.iload_n 1) 1 23 [some (.ref 1099), some (.int x1), some (.int ((hh_a h 108).getD j0 0)), some (.int ((hh_a h 108).getD j1 0))] [.int x1, .ref 1108] h rfl rfl rfl ?_
  refine tl_ald hL .iaload 108 0 155 j2 x1 rfl (by decide) rfl e2 b2 (by decide) ?_
  exact tr_s (.lookupswitch 100 #[(99, 52), (101, 82), (109, 75), (115, 88), (118, 95)]) 52 112 [some (.ref 1099), some (.int x1), some (.int ((hh_a h 108).getD j0 0)), some (.int ((hh_a h 108).getD j1 0))] [] h rfl rfl (by rw [e]; rfl) k
theorem sg_X9_does_0_t118 {g : tr_g} {d : Nat} {h : ev_AH} {r : ev_O × ev_AH} {x1 : Int32} {j0 j1 j2 : Nat} (hL : hh_L h) (e0 : x1 + 1 = Int32.ofNat j0) (b0 : j0 < 155) (e1 : x1 + 2 = Int32.ofNat j1) (b1 : j1 < 155) (e2 : x1 = Int32.ofNat j2) (b2 : j2 < 155) (e : (hh_a h 108).getD j2 0 = 118) (k : tr_L g d m_X9_does 119 [some (.ref 1099), some (.int x1), some (.int ((hh_a h 108).getD j0 0)), some (.int ((hh_a h 108).getD j1 0))] [] h r) : tr_L g d m_X9_does 0 [some (.ref 1099), some (.int x1), none, none] [] h r := by
  refine tr_s (.aload_n 0) 1 1 [some (.ref 1099), some (.int x1), none, none] [.ref 1099] h rfl rfl rfl ?_
  refine tl_gr hL 38 99 8 24 108 [1100, 1101, 1102, 1103, 1104, 1105, 0, 0, 0, 0, 0, 0, 0, 0, 0, 0, 0, 0, 0, 0, 0, 1106, 0, 1107, 1108, 0, 0, 0] rfl rfl rfl rfl ?_
  refine tr_s (.iload_n 1) 1 5 [some (.ref 1099), some (.int x1), none, none] [.int x1, .ref 1108] h rfl rfl rfl ?_
  refine tr_ic 1 1 (by decide) rfl ?_
  refine tr_s .iadd 1 7 [some (.ref 1099), some (.int x1), none, none] [.int (x1 + 1), .ref 1108] h rfl rfl rfl ?_
  refine tl_ald hL .iaload 108 0 155 j0 (x1 + 1) rfl (by decide) rfl e0 b0 (by decide) ?_
  refine tr_st (.istore_n 2) 1 2 0 (.int ((hh_a h 108).getD j0 0)) rfl rfl rfl rfl rfl rfl rfl ?_
  refine tr_s (.aload_n 0) 1 10 [some (.ref 1099), some (.int x1), some (.int ((hh_a h 108).getD j0 0)), none] [.ref 1099] h rfl rfl rfl ?_
  refine tl_gr hL 38 99 8 24 108 [1100, 1101, 1102, 1103, 1104, 1105, 0, 0, 0, 0, 0, 0, 0, 0, 0, 0, 0, 0, 0, 0, 0, 1106, 0, 1107, 1108, 0, 0, 0] rfl rfl rfl rfl ?_
  refine tr_s (.iload_n 1) 1 14 [some (.ref 1099), some (.int x1), some (.int ((hh_a h 108).getD j0 0)), none] [.int x1, .ref 1108] h rfl rfl rfl ?_
  refine tr_ic 2 2 (by decide) rfl ?_
  refine tr_s .iadd 1 16 [some (.ref 1099), some (.int x1), some (.int ((hh_a h 108).getD j0 0)), none] [.int (x1 + 2), .ref 1108] h rfl rfl rfl ?_
  refine tl_ald hL .iaload 108 0 155 j1 (x1 + 2) rfl (by decide) rfl e1 b1 (by decide) ?_
  refine tr_st (.istore_n 3) 1 3 0 (.int ((hh_a h 108).getD j1 0)) rfl rfl rfl rfl rfl rfl rfl ?_
  refine tr_s (.aload_n 0) 1 19 [some (.ref 1099), some (.int x1), some (.int ((hh_a h 108).getD j0 0)), some (.int ((hh_a h 108).getD j1 0))] [.ref 1099] h rfl rfl rfl ?_
  refine tl_gr hL 38 99 8 24 108 [1100, 1101, 1102, 1103, 1104, 1105, 0, 0, 0, 0, 0, 0, 0, 0, 0, 0, 0, 0, 0, 0, 0, 1106, 0, 1107, 1108, 0, 0, 0] rfl rfl rfl rfl ?_
  refine tr_s (.iload_n 1) 1 23 [some (.ref 1099), some (.int x1), some (.int ((hh_a h 108).getD j0 0)), some (.int ((hh_a h 108).getD j1 0))] [.int x1, .ref 1108] h rfl rfl rfl ?_
  refine tl_ald hL .iaload 108 0 155 j2 x1 rfl (by decide) rfl e2 b2 (by decide) ?_
  exact tr_s (.lookupswitch 100 #[(99, 52), (101, 82), (109, 75), (115, 88), (118, 95)]) 52 119 [some (.ref 1099), some (.int x1), some (.int ((hh_a h 108).getD j0 0)), some (.int ((hh_a h 108).getD j1 0))] [] h rfl rfl (by rw [e]; rfl) k
theorem sg_X9_does_0_td {g : tr_g} {d : Nat} {h : ev_AH} {r : ev_O × ev_AH} {x1 : Int32} {j0 j1 j2 : Nat} (hL : hh_L h) (e0 : x1 + 1 = Int32.ofNat j0) (b0 : j0 < 155) (e1 : x1 + 2 = Int32.ofNat j1) (b1 : j1 < 155) (e2 : x1 = Int32.ofNat j2) (b2 : j2 < 155) (e : Op.lookupswitch.offset [(99, 52), (101, 82), (109, 75), (115, 88), (118, 95)] 100 ((hh_a h 108).getD j2 0).toInt = 100) (k : tr_L g d m_X9_does 124 [some (.ref 1099), some (.int x1), some (.int ((hh_a h 108).getD j0 0)), some (.int ((hh_a h 108).getD j1 0))] [] h r) : tr_L g d m_X9_does 0 [some (.ref 1099), some (.int x1), none, none] [] h r := by
  refine tr_s (.aload_n 0) 1 1 [some (.ref 1099), some (.int x1), none, none] [.ref 1099] h rfl rfl rfl ?_
  refine tl_gr hL 38 99 8 24 108 [1100, 1101, 1102, 1103, 1104, 1105, 0, 0, 0, 0, 0, 0, 0, 0, 0, 0, 0, 0, 0, 0, 0, 1106, 0, 1107, 1108, 0, 0, 0] rfl rfl rfl rfl ?_
  refine tr_s (.iload_n 1) 1 5 [some (.ref 1099), some (.int x1), none, none] [.int x1, .ref 1108] h rfl rfl rfl ?_
  refine tr_ic 1 1 (by decide) rfl ?_
  refine tr_s .iadd 1 7 [some (.ref 1099), some (.int x1), none, none] [.int (x1 + 1), .ref 1108] h rfl rfl rfl ?_
  refine tl_ald hL .iaload 108 0 155 j0 (x1 + 1) rfl (by decide) rfl e0 b0 (by decide) ?_
  refine tr_st (.istore_n 2) 1 2 0 (.int ((hh_a h 108).getD j0 0)) rfl rfl rfl rfl rfl rfl rfl ?_
  refine tr_s (.aload_n 0) 1 10 [some (.ref 1099), some (.int x1), some (.int ((hh_a h 108).getD j0 0)), none] [.ref 1099] h rfl rfl rfl ?_
  refine tl_gr hL 38 99 8 24 108 [1100, 1101, 1102, 1103, 1104, 1105, 0, 0, 0, 0, 0, 0, 0, 0, 0, 0, 0, 0, 0, 0, 0, 1106, 0, 1107, 1108, 0, 0, 0] rfl rfl rfl rfl ?_
  refine tr_s (.iload_n 1) 1 14 [some (.ref 1099), some (.int x1), some (.int ((hh_a h 108).getD j0 0)), none] [.int x1, .ref 1108] h rfl rfl rfl ?_
  refine tr_ic 2 2 (by decide) rfl ?_
  refine tr_s .iadd 1 16 [some (.ref 1099), some (.int x1), some (.int ((hh_a h 108).getD j0 0)), none] [.int (x1 + 2), .ref 1108] h rfl rfl rfl ?_
  refine tl_ald hL .iaload 108 0 155 j1 (x1 + 2) rfl (by decide) rfl e1 b1 (by decide) ?_
  refine tr_st (.istore_n 3) 1 3 0 (.int ((hh_a h 108).getD j1 0)) rfl rfl rfl rfl rfl rfl rfl ?_
  refine tr_s (.aload_n 0) 1 19 [some (.ref 1099), some (.int x1), some (.int ((hh_a h 108).getD j0 0)), some (.int ((hh_a h 108).getD j1 0))] [.ref 1099] h rfl rfl rfl ?_
  refine tl_gr hL 38 99 8 24 108 [1100, 1101, 1102, 1103, 1104, 1105, 0, 0, 0, 0, 0, 0, 0, 0, 0, 0, 0, 0, 0, 0, 0, 1106, 0, 1107, 1108, 0, 0, 0] rfl rfl rfl rfl ?_
  refine tr_s (.iload_n 1) 1 23 [some (.ref 1099), some (.int x1), some (.int ((hh_a h 108).getD j0 0)), some (.int ((hh_a h 108).getD j1 0))] [.int x1, .ref 1108] h rfl rfl rfl ?_
  refine tl_ald hL .iaload 108 0 155 j2 x1 rfl (by decide) rfl e2 b2 (by decide) ?_
  exact tr_s (.lookupswitch 100 #[(99, 52), (101, 82), (109, 75), (115, 88), (118, 95)]) 52 124 [some (.ref 1099), some (.int x1), some (.int ((hh_a h 108).getD j0 0)), some (.int ((hh_a h 108).getD j1 0))] [] h rfl rfl (tr_lsd rfl e rfl) k
theorem sg_X9_does_76 {g : tr_g} {d : Nat} {h : ev_AH} {r : ev_O × ev_AH} {x1 x2 x3 v0 : Int32} {j0 j1 : Nat} {h1 : ev_AH} (hL : hh_L h) (e0 : x1 + 3 = Int32.ofNat j0) (b0 : j0 < 155) (e1 : x1 + 4 = Int32.ofNat j1) (b1 : j1 < 155) (c_0 : tr_L g d m_X9_cats 0 [some (.ref 1099), some (.int x2), some (.int x3), some (.int ((hh_a h 108).getD j0 0)), some (.int ((hh_a h 108).getD j1 0)), none, none, none] [] h (.inl (some (.int v0)), h1)) (hr : r = (.inl (some (.int v0)), h1)) : tr_L g (d + 1) m_X9_does 76 [some (.ref 1099), some (.int x1), some (.int x2), some (.int x3)] [] h r := by
  refine tr_s (.aload_n 0) 1 77 [some (.ref 1099), some (.int x1), some (.int x2), some (.int x3)] [.ref 1099] h rfl rfl rfl ?_
  refine tr_s (.iload_n 2) 1 78 [some (.ref 1099), some (.int x1), some (.int x2), some (.int x3)] [.int x2, .ref 1099] h rfl rfl rfl ?_
  refine tr_s (.iload_n 3) 1 79 [some (.ref 1099), some (.int x1), some (.int x2), some (.int x3)] [.int x3, .int x2, .ref 1099] h rfl rfl rfl ?_
  refine tr_s (.aload_n 0) 1 80 [some (.ref 1099), some (.int x1), some (.int x2), some (.int x3)] [.ref 1099, .int x3, .int x2, .ref 1099] h rfl rfl rfl ?_
  refine tl_gr hL 38 99 8 24 108 [1100, 1101, 1102, 1103, 1104, 1105, 0, 0, 0, 0, 0, 0, 0, 0, 0, 0, 0, 0, 0, 0, 0, 1106, 0, 1107, 1108, 0, 0, 0] rfl rfl rfl rfl ?_
  refine tr_s (.iload_n 1) 1 84 [some (.ref 1099), some (.int x1), some (.int x2), some (.int x3)] [.int x1, .ref 1108, .int x3, .int x2, .ref 1099] h rfl rfl rfl ?_
  refine tr_ic 3 3 (by decide) rfl ?_
  refine tr_s .iadd 1 86 [some (.ref 1099), some (.int x1), some (.int x2), some (.int x3)] [.int (x1 + 3), .ref 1108, .int x3, .int x2, .ref 1099] h rfl rfl rfl ?_
  refine tl_ald hL .iaload 108 0 155 j0 (x1 + 3) rfl (by decide) rfl e0 b0 (by decide) ?_
  refine tr_s (.aload_n 0) 1 88 [some (.ref 1099), some (.int x1), some (.int x2), some (.int x3)] [.ref 1099, .int ((hh_a h 108).getD j0 0), .int x3, .int x2, .ref 1099] h rfl rfl rfl ?_
  refine tl_gr hL 38 99 8 24 108 [1100, 1101, 1102, 1103, 1104, 1105, 0, 0, 0, 0, 0, 0, 0, 0, 0, 0, 0, 0, 0, 0, 0, 1106, 0, 1107, 1108, 0, 0, 0] rfl rfl rfl rfl ?_
  refine tr_s (.iload_n 1) 1 92 [some (.ref 1099), some (.int x1), some (.int x2), some (.int x3)] [.int x1, .ref 1108, .int ((hh_a h 108).getD j0 0), .int x3, .int x2, .ref 1099] h rfl rfl rfl ?_
  refine tr_ic 4 4 (by decide) rfl ?_
  refine tr_s .iadd 1 94 [some (.ref 1099), some (.int x1), some (.int x2), some (.int x3)] [.int (x1 + 4), .ref 1108, .int ((hh_a h 108).getD j0 0), .int x3, .int x2, .ref 1099] h rfl rfl rfl ?_
  refine tl_ald hL .iaload 108 0 155 j1 (x1 + 4) rfl (by decide) rfl e1 b1 (by decide) ?_
  refine tr_call (.invokevirtual 103) 103 0 4 8 m_X9_cats [.ref 1099, .int x2, .int x3, .int ((hh_a h 108).getD j0 0), .int ((hh_a h 108).getD j1 0)] [] (some (.int v0)) h1 rfl rfl rfl rfl rfl rfl rfl rfl rfl (tr_cok rfl (Or.inr ⟨_, _, rfl, tr_rc (hh_rd (hh_obj hL (k := 99) rfl).1) (by decide)⟩)) c_0 ?_
  have hL0 := c_0.2
  exact tl_ret hL0 .ireturn 1 (some (.int v0)) rfl rfl rfl rfl hr
theorem sg_X9_does_99 {g : tr_g} {d : Nat} {h : ev_AH} {r : ev_O × ev_AH} {w1 : Option Value} {x2 x3 v0 : Int32} {h1 : ev_AH} (hL : hh_L h) (c_0 : tr_L g d m_X9_mirror 0 [some (.ref 1099), some (.int x2), some (.int x3), none] [] h (.inl (some (.int v0)), h1)) (hr : r = (.inl (some (.int v0)), h1)) : tr_L g (d + 1) m_X9_does 99 [some (.ref 1099), w1, some (.int x2), some (.int x3)] [] h r := by
  refine tr_s (.aload_n 0) 1 100 [some (.ref 1099), w1, some (.int x2), some (.int x3)] [.ref 1099] h rfl rfl rfl ?_
  refine tr_s (.iload_n 2) 1 101 [some (.ref 1099), w1, some (.int x2), some (.int x3)] [.int x2, .ref 1099] h rfl rfl rfl ?_
  refine tr_s (.iload_n 3) 1 102 [some (.ref 1099), w1, some (.int x2), some (.int x3)] [.int x3, .int x2, .ref 1099] h rfl rfl rfl ?_
  refine tr_call (.invokevirtual 117) 117 0 2 8 m_X9_mirror [.ref 1099, .int x2, .int x3] [] (some (.int v0)) h1 rfl rfl rfl rfl rfl rfl rfl rfl rfl (tr_cok rfl (Or.inr ⟨_, _, rfl, tr_rc (hh_rd (hh_obj hL (k := 99) rfl).1) (by decide)⟩)) c_0 ?_
  have hL0 := c_0.2
  exact tl_ret hL0 .ireturn 1 (some (.int v0)) rfl rfl rfl rfl hr
theorem sg_X9_does_106 {g : tr_g} {d : Nat} {h : ev_AH} {r : ev_O × ev_AH} {w1 w3 : Option Value} {x2 v0 : Int32} {h1 : ev_AH} (hL : hh_L h) (c_0 : tr_L g d m_X9_methods 0 [some (.ref 1099), some (.int x2), none] [] h (.inl (some (.int v0)), h1)) (hr : r = (.inl (some (.int v0)), h1)) : tr_L g (d + 1) m_X9_does 106 [some (.ref 1099), w1, some (.int x2), w3] [] h r := by
  refine tr_s (.aload_n 0) 1 107 [some (.ref 1099), w1, some (.int x2), w3] [.ref 1099] h rfl rfl rfl ?_
  refine tr_s (.iload_n 2) 1 108 [some (.ref 1099), w1, some (.int x2), w3] [.int x2, .ref 1099] h rfl rfl rfl ?_
  refine tr_call (.invokevirtual 228) 228 0 1 8 m_X9_methods [.ref 1099, .int x2] [] (some (.int v0)) h1 rfl rfl rfl rfl rfl rfl rfl rfl rfl (tr_cok rfl (Or.inr ⟨_, _, rfl, tr_rc (hh_rd (hh_obj hL (k := 99) rfl).1) (by decide)⟩)) c_0 ?_
  have hL0 := c_0.2
  exact tl_ret hL0 .ireturn 1 (some (.int v0)) rfl rfl rfl rfl hr
theorem sg_X9_does_112 {g : tr_g} {d : Nat} {h : ev_AH} {r : ev_O × ev_AH} {w1 : Option Value} {x2 x3 v0 : Int32} {h1 : ev_AH} (hL : hh_L h) (c_0 : tr_L g d m_X9_says 0 [some (.ref 1099), some (.int x2), some (.int x3), none] [] h (.inl (some (.int v0)), h1)) (hr : r = (.inl (some (.int v0)), h1)) : tr_L g (d + 1) m_X9_does 112 [some (.ref 1099), w1, some (.int x2), some (.int x3)] [] h r := by
  refine tr_s (.aload_n 0) 1 113 [some (.ref 1099), w1, some (.int x2), some (.int x3)] [.ref 1099] h rfl rfl rfl ?_
  refine tr_s (.iload_n 2) 1 114 [some (.ref 1099), w1, some (.int x2), some (.int x3)] [.int x2, .ref 1099] h rfl rfl rfl ?_
  refine tr_s (.iload_n 3) 1 115 [some (.ref 1099), w1, some (.int x2), some (.int x3)] [.int x3, .int x2, .ref 1099] h rfl rfl rfl ?_
  refine tr_call (.invokevirtual 181) 181 0 2 8 m_X9_says [.ref 1099, .int x2, .int x3] [] (some (.int v0)) h1 rfl rfl rfl rfl rfl rfl rfl rfl rfl (tr_cok rfl (Or.inr ⟨_, _, rfl, tr_rc (hh_rd (hh_obj hL (k := 99) rfl).1) (by decide)⟩)) c_0 ?_
  have hL0 := c_0.2
  exact tl_ret hL0 .ireturn 1 (some (.int v0)) rfl rfl rfl rfl hr
theorem sg_X9_does_119 {g : tr_g} {d : Nat} {h : ev_AH} {r : ev_O × ev_AH} {w1 w2 w3 : Option Value} {h1 : ev_AH} {v0 : Int32} (hL : hh_L h) (c_0 : tr_L g d m_X9_votesAll 0 [some (.ref 1099), none, none, none] [] h (.inl (some (.int v0)), h1)) (hr : r = (.inl (some (.int v0)), h1)) : tr_L g (d + 1) m_X9_does 119 [some (.ref 1099), w1, w2, w3] [] h r := by
  refine tr_s (.aload_n 0) 1 120 [some (.ref 1099), w1, w2, w3] [.ref 1099] h rfl rfl rfl ?_
  refine tr_call (.invokevirtual 234) 234 0 0 8 m_X9_votesAll [.ref 1099] [] (some (.int v0)) h1 rfl rfl rfl rfl rfl rfl rfl rfl rfl (tr_cok rfl (Or.inr ⟨_, _, rfl, tr_rc (hh_rd (hh_obj hL (k := 99) rfl).1) (by decide)⟩)) c_0 ?_
  have hL0 := c_0.2
  exact tl_ret hL0 .ireturn 1 (some (.int v0)) rfl rfl rfl rfl hr
theorem sg_X9_does_124 {g : tr_g} {d : Nat} {h : ev_AH} {r : ev_O × ev_AH} {w1 w2 w3 : Option Value} {h1 : ev_AH} {v0 : Int32} (hL : hh_L h) (c_0 : tr_L g d m_X9_retries 0 [some (.ref 1099), none, none, none, none] [] h (.inl (some (.int v0)), h1)) (hr : r = (.inl (some (.int v0)), h1)) : tr_L g (d + 1) m_X9_does 124 [some (.ref 1099), w1, w2, w3] [] h r := by
  refine tr_s (.aload_n 0) 1 125 [some (.ref 1099), w1, w2, w3] [.ref 1099] h rfl rfl rfl ?_
  refine tr_call (.invokevirtual 241) 241 0 0 8 m_X9_retries [.ref 1099] [] (some (.int v0)) h1 rfl rfl rfl rfl rfl rfl rfl rfl rfl (tr_cok rfl (Or.inr ⟨_, _, rfl, tr_rc (hh_rd (hh_obj hL (k := 99) rfl).1) (by decide)⟩)) c_0 ?_
  have hL0 := c_0.2
  exact tl_ret hL0 .ireturn 1 (some (.int v0)) rfl rfl rfl rfl hr
theorem sg_X9_fails_0 {g : tr_g} {d : Nat} {h : ev_AH} {r : ev_O × ev_AH} {x1 : Int32} {h1 : ev_AH} (hL : hh_L h) (c_0 : tr_L g d m_X9_copies 0 [some (.ref 1101), some (.int 0), some (.ref 1100), some (.int 0), none] [] h (.inl none, h1)) (t : (hh_i h1 99 12) ≠ 0 → tr_L g (d + 1) m_X9_fails 27 [some (.ref 1099), some (.int x1)] [] h1 r) (f : (hh_i h1 99 12) = 0 → tr_L g (d + 1) m_X9_fails 20 [some (.ref 1099), some (.int x1)] [] h1 r) : tr_L g (d + 1) m_X9_fails 0 [some (.ref 1099), some (.int x1)] [] h r := by
  refine tr_s (.aload_n 0) 1 1 [some (.ref 1099), some (.int x1)] [.ref 1099] h rfl rfl rfl ?_
  refine tl_gr hL 13 99 8 1 101 [1100, 1101, 1102, 1103, 1104, 1105, 0, 0, 0, 0, 0, 0, 0, 0, 0, 0, 0, 0, 0, 0, 0, 1106, 0, 1107, 1108, 0, 0, 0] rfl rfl rfl rfl ?_
  refine tr_ic 0 0 (by decide) rfl ?_
  refine tr_s (.aload_n 0) 1 6 [some (.ref 1099), some (.int x1)] [.ref 1099, .int 0, .ref 1101] h rfl rfl rfl ?_
  refine tl_gr hL 9 99 8 0 100 [1100, 1101, 1102, 1103, 1104, 1105, 0, 0, 0, 0, 0, 0, 0, 0, 0, 0, 0, 0, 0, 0, 0, 1106, 0, 1107, 1108, 0, 0, 0] rfl rfl rfl rfl ?_
  refine tr_ic 0 0 (by decide) rfl ?_
  refine tr_call (.invokestatic 44) 44 2 4 0 m_X9_copies [.ref 1101, .int 0, .ref 1100, .int 0] [] none h1 rfl rfl rfl rfl rfl rfl rfl rfl rfl (tr_cok rfl (Or.inl rfl)) c_0 ?_
  have hL0 := c_0.2
  refine tr_s (.aload_n 0) 1 14 [some (.ref 1099), some (.int x1)] [.ref 1099] h1 rfl rfl rfl ?_
  refine tl_gi hL0 48 99 8 12 [1100, 1101, 1102, 1103, 1104, 1105, 0, 0, 0, 0, 0, 0, 0, 0, 0, 0, 0, 0, 0, 0, 0, 1106, 0, 1107, 1108, 0, 0, 0] rfl rfl rfl rfl ?_
  exact tr_if1 .ne 10 27 (hh_i h1 99 12) rfl rfl rfl (fun hc => t ((tr_ne hc).1 rfl)) (fun hc => f ((tr_ne hc).2 rfl))
theorem sg_X9_fails_20 {g : tr_g} {d : Nat} {h : ev_AH} {r : ev_O × ev_AH} {w1 : Option Value} (hL : hh_L h) (hr : r = (.inl (some (.int 0)), hh_si h 99 8 7 2)) : tr_L g d m_X9_fails 20 [some (.ref 1099), w1] [] h r := by
  refine tr_s (.aload_n 0) 1 21 [some (.ref 1099), w1] [.ref 1099] h rfl rfl rfl ?_
  refine tr_ic 2 2 (by decide) rfl ?_
  refine tl_pf hL 41 99 8 7 [1100, 1101, 1102, 1103, 1104, 1105, 0, 0, 0, 0, 0, 0, 0, 0, 0, 0, 0, 0, 0, 0, 0, 1106, 0, 1107, 1108, 0, 0, 0] 2 .int rfl rfl rfl rfl rfl tr_oki ?_
  have hL0 := hh_L_si (sl := 7) (x := 2) hL (show hh_t[99]? = some (.inr (8, [1100, 1101, 1102, 1103, 1104, 1105, 0, 0, 0, 0, 0, 0, 0, 0, 0, 0, 0, 0, 0, 0, 0, 1106, 0, 1107, 1108, 0, 0, 0])) from rfl) rfl
  refine tr_ic 0 0 (by decide) rfl ?_
  exact tl_ret hL0 .ireturn 1 (some (.int 0)) rfl rfl rfl rfl hr
theorem sg_X9_fails_27 {g : tr_g} {d : Nat} {h : ev_AH} {r : ev_O × ev_AH} {x1 : Int32} (hL : hh_L h) (hr : r = (.inl (some (.int 0)), hh_si (hh_si (hh_si (hh_si h 99 8 9 6) 99 8 10 x1) 99 8 11 (hh_i (hh_si (hh_si h 99 8 9 6) 99 8 10 x1) 99 12)) 99 8 7 3)) : tr_L g d m_X9_fails 27 [some (.ref 1099), some (.int x1)] [] h r := by
  refine tr_s (.aload_n 0) 1 28 [some (.ref 1099), some (.int x1)] [.ref 1099] h rfl rfl rfl ?_
  refine tr_bi 6 6 (by decide) rfl ?_
  refine tl_pf hL 51 99 8 9 [1100, 1101, 1102, 1103, 1104, 1105, 0, 0, 0, 0, 0, 0, 0, 0, 0, 0, 0, 0, 0, 0, 0, 1106, 0, 1107, 1108, 0, 0, 0] 6 .int rfl rfl rfl rfl rfl tr_oki ?_
  have hL0 := hh_L_si (sl := 9) (x := 6) hL (show hh_t[99]? = some (.inr (8, [1100, 1101, 1102, 1103, 1104, 1105, 0, 0, 0, 0, 0, 0, 0, 0, 0, 0, 0, 0, 0, 0, 0, 1106, 0, 1107, 1108, 0, 0, 0])) from rfl) rfl
  refine tr_s (.aload_n 0) 1 34 [some (.ref 1099), some (.int x1)] [.ref 1099] (hh_si h 99 8 9 6) rfl rfl rfl ?_
  refine tr_s (.iload_n 1) 1 35 [some (.ref 1099), some (.int x1)] [.int x1, .ref 1099] (hh_si h 99 8 9 6) rfl rfl rfl ?_
  refine tl_pf hL0 57 99 8 10 [1100, 1101, 1102, 1103, 1104, 1105, 0, 0, 0, 0, 0, 0, 0, 0, 0, 0, 0, 0, 0, 0, 0, 1106, 0, 1107, 1108, 0, 0, 0] x1 .int rfl rfl rfl rfl rfl tr_oki ?_
  have hL1 := hh_L_si (sl := 10) (x := x1) hL0 (show hh_t[99]? = some (.inr (8, [1100, 1101, 1102, 1103, 1104, 1105, 0, 0, 0, 0, 0, 0, 0, 0, 0, 0, 0, 0, 0, 0, 0, 1106, 0, 1107, 1108, 0, 0, 0])) from rfl) rfl
  refine tr_s (.aload_n 0) 1 39 [some (.ref 1099), some (.int x1)] [.ref 1099] (hh_si (hh_si h 99 8 9 6) 99 8 10 x1) rfl rfl rfl ?_
  refine tr_s (.aload_n 0) 1 40 [some (.ref 1099), some (.int x1)] [.ref 1099, .ref 1099] (hh_si (hh_si h 99 8 9 6) 99 8 10 x1) rfl rfl rfl ?_
  refine tl_gi hL1 48 99 8 12 [1100, 1101, 1102, 1103, 1104, 1105, 0, 0, 0, 0, 0, 0, 0, 0, 0, 0, 0, 0, 0, 0, 0, 1106, 0, 1107, 1108, 0, 0, 0] rfl rfl rfl rfl ?_
  refine tl_pf hL1 60 99 8 11 [1100, 1101, 1102, 1103, 1104, 1105, 0, 0, 0, 0, 0, 0, 0, 0, 0, 0, 0, 0, 0, 0, 0, 1106, 0, 1107, 1108, 0, 0, 0] (hh_i (hh_si (hh_si h 99 8 9 6) 99 8 10 x1) 99 12) .int rfl rfl rfl rfl rfl tr_oki ?_
  have hL2 := hh_L_si (sl := 11) (x := (hh_i (hh_si (hh_si h 99 8 9 6) 99 8 10 x1) 99 12)) hL1 (show hh_t[99]? = some (.inr (8, [1100, 1101, 1102, 1103, 1104, 1105, 0, 0, 0, 0, 0, 0, 0, 0, 0, 0, 0, 0, 0, 0, 0, 1106, 0, 1107, 1108, 0, 0, 0])) from rfl) rfl
  refine tr_s (.aload_n 0) 1 47 [some (.ref 1099), some (.int x1)] [.ref 1099] (hh_si (hh_si (hh_si h 99 8 9 6) 99 8 10 x1) 99 8 11 (hh_i (hh_si (hh_si h 99 8 9 6) 99 8 10 x1) 99 12)) rfl rfl rfl ?_
  refine tr_ic 3 3 (by decide) rfl ?_
  refine tl_pf hL2 41 99 8 7 [1100, 1101, 1102, 1103, 1104, 1105, 0, 0, 0, 0, 0, 0, 0, 0, 0, 0, 0, 0, 0, 0, 0, 1106, 0, 1107, 1108, 0, 0, 0] 3 .int rfl rfl rfl rfl rfl tr_oki ?_
  have hL3 := hh_L_si (sl := 7) (x := 3) hL2 (show hh_t[99]? = some (.inr (8, [1100, 1101, 1102, 1103, 1104, 1105, 0, 0, 0, 0, 0, 0, 0, 0, 0, 0, 0, 0, 0, 0, 0, 1106, 0, 1107, 1108, 0, 0, 0])) from rfl) rfl
  refine tr_ic 0 0 (by decide) rfl ?_
  exact tl_ret hL3 .ireturn 1 (some (.int 0)) rfl rfl rfl rfl hr
theorem sg_X9_syntaxErrorOffset_0 {g : tr_g} {d : Nat} {h : ev_AH} {r : ev_O × ev_AH} (hL : hh_L h) (t : 0 ≤ (hh_i h 99 8) → tr_L g d m_X9_syntaxErrorOffset 12 [some (.ref 1099)] [.ref 1099] h r) (f : (hh_i h 99 8) < 0 → tr_L g d m_X9_syntaxErrorOffset 8 [some (.ref 1099)] [.ref 1099] h r) : tr_L g d m_X9_syntaxErrorOffset 0 [some (.ref 1099)] [] h r := by
  refine tr_s (.aload_n 0) 1 1 [some (.ref 1099)] [.ref 1099] h rfl rfl rfl ?_
  refine tr_s (.aload_n 0) 1 2 [some (.ref 1099)] [.ref 1099, .ref 1099] h rfl rfl rfl ?_
  refine tl_gi hL 28 99 8 8 [1100, 1101, 1102, 1103, 1104, 1105, 0, 0, 0, 0, 0, 0, 0, 0, 0, 0, 0, 0, 0, 0, 0, 1106, 0, 1107, 1108, 0, 0, 0] rfl rfl rfl rfl ?_
  exact tr_if1 .ge 7 12 (hh_i h 99 8) rfl rfl rfl (fun hc => t ((tr_ge hc).1 rfl)) (fun hc => f ((tr_ge hc).2 rfl))
theorem sg_X9_syntaxErrorOffset_8 {g : tr_g} {d : Nat} {h : ev_AH} {r : ev_O × ev_AH} {h1 : ev_AH} {v0 : Int32} (hL : hh_L h) (c_0 : tr_L g d m_X9_isThrown 0 [some (.ref 1099), some (.int 1), some (.int 1)] [] h (.inl (some (.int v0)), h1)) (t : v0 = 0 → tr_L g (d + 1) m_X9_syntaxErrorOffset 24 [some (.ref 1099)] [] h1 r) (f : v0 ≠ 0 → tr_L g (d + 1) m_X9_syntaxErrorOffset 20 [some (.ref 1099)] [] h1 r) : tr_L g (d + 1) m_X9_syntaxErrorOffset 8 [some (.ref 1099)] [.ref 1099] h r := by
  refine tr_ic 1 1 (by decide) rfl ?_
  refine tr_goto 4 13 rfl rfl rfl ?_
  refine tr_ic 1 1 (by decide) rfl ?_
  refine tr_call (.invokevirtual 66) 66 0 2 8 m_X9_isThrown [.ref 1099, .int 1, .int 1] [] (some (.int v0)) h1 rfl rfl rfl rfl rfl rfl rfl rfl rfl (tr_cok rfl (Or.inr ⟨_, _, rfl, tr_rc (hh_rd (hh_obj hL (k := 99) rfl).1) (by decide)⟩)) c_0 ?_
  have hL0 := c_0.2
  exact tr_if1 .eq 7 24 v0 rfl rfl rfl (fun hc => t ((tr_eq hc).1 rfl)) (fun hc => f ((tr_eq hc).2 rfl))
theorem sg_X9_syntaxErrorOffset_12 {g : tr_g} {d : Nat} {h : ev_AH} {r : ev_O × ev_AH} {h1 : ev_AH} {v0 : Int32} (hL : hh_L h) (c_0 : tr_L g d m_X9_isThrown 0 [some (.ref 1099), some (.int 0), some (.int 1)] [] h (.inl (some (.int v0)), h1)) (t : v0 = 0 → tr_L g (d + 1) m_X9_syntaxErrorOffset 24 [some (.ref 1099)] [] h1 r) (f : v0 ≠ 0 → tr_L g (d + 1) m_X9_syntaxErrorOffset 20 [some (.ref 1099)] [] h1 r) : tr_L g (d + 1) m_X9_syntaxErrorOffset 12 [some (.ref 1099)] [.ref 1099] h r := by
  refine tr_ic 0 0 (by decide) rfl ?_
  refine tr_ic 1 1 (by decide) rfl ?_
  refine tr_call (.invokevirtual 66) 66 0 2 8 m_X9_isThrown [.ref 1099, .int 0, .int 1] [] (some (.int v0)) h1 rfl rfl rfl rfl rfl rfl rfl rfl rfl (tr_cok rfl (Or.inr ⟨_, _, rfl, tr_rc (hh_rd (hh_obj hL (k := 99) rfl).1) (by decide)⟩)) c_0 ?_
  have hL0 := c_0.2
  exact tr_if1 .eq 7 24 v0 rfl rfl rfl (fun hc => t ((tr_eq hc).1 rfl)) (fun hc => f ((tr_eq hc).2 rfl))
theorem sg_X9_syntaxErrorOffset_20 {g : tr_g} {d : Nat} {h : ev_AH} {r : ev_O × ev_AH} {w0 : Option Value} (hL : hh_L h) (hr : r = (.inl (some (.int 0)), h)) : tr_L g d m_X9_syntaxErrorOffset 20 [w0] [] h r := by
  refine tr_ic 0 0 (by decide) rfl ?_
  refine tr_goto 7 28 rfl rfl rfl ?_
  exact tl_ret hL .ireturn 1 (some (.int 0)) rfl rfl rfl rfl hr
theorem sg_X9_syntaxErrorOffset_24 {g : tr_g} {d : Nat} {h : ev_AH} {r : ev_O × ev_AH} (hL : hh_L h) (hr : r = (.inl (some (.int (hh_i h 99 8))), h)) : tr_L g d m_X9_syntaxErrorOffset 24 [some (.ref 1099)] [] h r := by
  refine tr_s (.aload_n 0) 1 25 [some (.ref 1099)] [.ref 1099] h rfl rfl rfl ?_
  refine tl_gi hL 28 99 8 8 [1100, 1101, 1102, 1103, 1104, 1105, 0, 0, 0, 0, 0, 0, 0, 0, 0, 0, 0, 0, 0, 0, 0, 1106, 0, 1107, 1108, 0, 0, 0] rfl rfl rfl rfl ?_
  exact tl_ret hL .ireturn 1 (some (.int (hh_i h 99 8))) rfl rfl rfl rfl hr
theorem sg_X9_rejectionReason_0 {g : tr_g} {d : Nat} {h : ev_AH} {r : ev_O × ev_AH} (hL : hh_L h) (t : (hh_i h 99 9) ≠ 0 → tr_L g d m_X9_rejectionReason 12 [some (.ref 1099)] [.ref 1099] h r) (f : (hh_i h 99 9) = 0 → tr_L g d m_X9_rejectionReason 8 [some (.ref 1099)] [.ref 1099] h r) : tr_L g d m_X9_rejectionReason 0 [some (.ref 1099)] [] h r := by
  refine tr_s (.aload_n 0) 1 1 [some (.ref 1099)] [.ref 1099] h rfl rfl rfl ?_
  refine tr_s (.aload_n 0) 1 2 [some (.ref 1099)] [.ref 1099, .ref 1099] h rfl rfl rfl ?_
  refine tl_gi hL 51 99 8 9 [1100, 1101, 1102, 1103, 1104, 1105, 0, 0, 0, 0, 0, 0, 0, 0, 0, 0, 0, 0, 0, 0, 0, 1106, 0, 1107, 1108, 0, 0, 0] rfl rfl rfl rfl ?_
  exact tr_if1 .ne 7 12 (hh_i h 99 9) rfl rfl rfl (fun hc => t ((tr_ne hc).1 rfl)) (fun hc => f ((tr_ne hc).2 rfl))
theorem sg_X9_rejectionReason_8 {g : tr_g} {d : Nat} {h : ev_AH} {r : ev_O × ev_AH} {h1 : ev_AH} {v0 : Int32} (hL : hh_L h) (c_0 : tr_L g d m_X9_isThrown 0 [some (.ref 1099), some (.int 1), some (.int 1)] [] h (.inl (some (.int v0)), h1)) (t : v0 = 0 → tr_L g (d + 1) m_X9_rejectionReason 24 [some (.ref 1099)] [] h1 r) (f : v0 ≠ 0 → tr_L g (d + 1) m_X9_rejectionReason 20 [some (.ref 1099)] [] h1 r) : tr_L g (d + 1) m_X9_rejectionReason 8 [some (.ref 1099)] [.ref 1099] h r := by
  refine tr_ic 1 1 (by decide) rfl ?_
  refine tr_goto 4 13 rfl rfl rfl ?_
  refine tr_ic 1 1 (by decide) rfl ?_
  refine tr_call (.invokevirtual 66) 66 0 2 8 m_X9_isThrown [.ref 1099, .int 1, .int 1] [] (some (.int v0)) h1 rfl rfl rfl rfl rfl rfl rfl rfl rfl (tr_cok rfl (Or.inr ⟨_, _, rfl, tr_rc (hh_rd (hh_obj hL (k := 99) rfl).1) (by decide)⟩)) c_0 ?_
  have hL0 := c_0.2
  exact tr_if1 .eq 7 24 v0 rfl rfl rfl (fun hc => t ((tr_eq hc).1 rfl)) (fun hc => f ((tr_eq hc).2 rfl))
theorem sg_X9_rejectionReason_12 {g : tr_g} {d : Nat} {h : ev_AH} {r : ev_O × ev_AH} {h1 : ev_AH} {v0 : Int32} (hL : hh_L h) (c_0 : tr_L g d m_X9_isThrown 0 [some (.ref 1099), some (.int 0), some (.int 1)] [] h (.inl (some (.int v0)), h1)) (t : v0 = 0 → tr_L g (d + 1) m_X9_rejectionReason 24 [some (.ref 1099)] [] h1 r) (f : v0 ≠ 0 → tr_L g (d + 1) m_X9_rejectionReason 20 [some (.ref 1099)] [] h1 r) : tr_L g (d + 1) m_X9_rejectionReason 12 [some (.ref 1099)] [.ref 1099] h r := by
  refine tr_ic 0 0 (by decide) rfl ?_
  refine tr_ic 1 1 (by decide) rfl ?_
  refine tr_call (.invokevirtual 66) 66 0 2 8 m_X9_isThrown [.ref 1099, .int 0, .int 1] [] (some (.int v0)) h1 rfl rfl rfl rfl rfl rfl rfl rfl rfl (tr_cok rfl (Or.inr ⟨_, _, rfl, tr_rc (hh_rd (hh_obj hL (k := 99) rfl).1) (by decide)⟩)) c_0 ?_
  have hL0 := c_0.2
  exact tr_if1 .eq 7 24 v0 rfl rfl rfl (fun hc => t ((tr_eq hc).1 rfl)) (fun hc => f ((tr_eq hc).2 rfl))
theorem sg_X9_rejectionReason_20 {g : tr_g} {d : Nat} {h : ev_AH} {r : ev_O × ev_AH} {w0 : Option Value} (hL : hh_L h) (hr : r = (.inl (some (.int 0)), h)) : tr_L g d m_X9_rejectionReason 20 [w0] [] h r := by
  refine tr_ic 0 0 (by decide) rfl ?_
  refine tr_goto 7 28 rfl rfl rfl ?_
  exact tl_ret hL .ireturn 1 (some (.int 0)) rfl rfl rfl rfl hr
theorem sg_X9_rejectionReason_24 {g : tr_g} {d : Nat} {h : ev_AH} {r : ev_O × ev_AH} (hL : hh_L h) (hr : r = (.inl (some (.int (hh_i h 99 9))), h)) : tr_L g d m_X9_rejectionReason 24 [some (.ref 1099)] [] h r := by
  refine tr_s (.aload_n 0) 1 25 [some (.ref 1099)] [.ref 1099] h rfl rfl rfl ?_
  refine tl_gi hL 51 99 8 9 [1100, 1101, 1102, 1103, 1104, 1105, 0, 0, 0, 0, 0, 0, 0, 0, 0, 0, 0, 0, 0, 0, 0, 1106, 0, 1107, 1108, 0, 0, 0] rfl rfl rfl rfl ?_
  exact tl_ret hL .ireturn 1 (some (.int (hh_i h 99 9))) rfl rfl rfl rfl hr
theorem sg_X9_rejectionDetail_0 {g : tr_g} {d : Nat} {h : ev_AH} {r : ev_O × ev_AH} (hL : hh_L h) (t : (hh_i h 99 9) ≠ 0 → tr_L g d m_X9_rejectionDetail 12 [some (.ref 1099)] [.ref 1099] h r) (f : (hh_i h 99 9) = 0 → tr_L g d m_X9_rejectionDetail 8 [some (.ref 1099)] [.ref 1099] h r) : tr_L g d m_X9_rejectionDetail 0 [some (.ref 1099)] [] h r := by
  refine tr_s (.aload_n 0) 1 1 [some (.ref 1099)] [.ref 1099] h rfl rfl rfl ?_
  refine tr_s (.aload_n 0) 1 2 [some (.ref 1099)] [.ref 1099, .ref 1099] h rfl rfl rfl ?_
  refine tl_gi hL 51 99 8 9 [1100, 1101, 1102, 1103, 1104, 1105, 0, 0, 0, 0, 0, 0, 0, 0, 0, 0, 0, 0, 0, 0, 0, 1106, 0, 1107, 1108, 0, 0, 0] rfl rfl rfl rfl ?_
  exact tr_if1 .ne 7 12 (hh_i h 99 9) rfl rfl rfl (fun hc => t ((tr_ne hc).1 rfl)) (fun hc => f ((tr_ne hc).2 rfl))
theorem sg_X9_rejectionDetail_8 {g : tr_g} {d : Nat} {h : ev_AH} {r : ev_O × ev_AH} {h1 : ev_AH} {v0 : Int32} (hL : hh_L h) (c_0 : tr_L g d m_X9_isThrown 0 [some (.ref 1099), some (.int 1), some (.int 1)] [] h (.inl (some (.int v0)), h1)) (t : v0 = 0 → tr_L g (d + 1) m_X9_rejectionDetail 24 [some (.ref 1099)] [] h1 r) (f : v0 ≠ 0 → tr_L g (d + 1) m_X9_rejectionDetail 20 [some (.ref 1099)] [] h1 r) : tr_L g (d + 1) m_X9_rejectionDetail 8 [some (.ref 1099)] [.ref 1099] h r := by
  refine tr_ic 1 1 (by decide) rfl ?_
  refine tr_goto 4 13 rfl rfl rfl ?_
  refine tr_ic 1 1 (by decide) rfl ?_
  refine tr_call (.invokevirtual 66) 66 0 2 8 m_X9_isThrown [.ref 1099, .int 1, .int 1] [] (some (.int v0)) h1 rfl rfl rfl rfl rfl rfl rfl rfl rfl (tr_cok rfl (Or.inr ⟨_, _, rfl, tr_rc (hh_rd (hh_obj hL (k := 99) rfl).1) (by decide)⟩)) c_0 ?_
  have hL0 := c_0.2
  exact tr_if1 .eq 7 24 v0 rfl rfl rfl (fun hc => t ((tr_eq hc).1 rfl)) (fun hc => f ((tr_eq hc).2 rfl))
theorem sg_X9_rejectionDetail_12 {g : tr_g} {d : Nat} {h : ev_AH} {r : ev_O × ev_AH} {h1 : ev_AH} {v0 : Int32} (hL : hh_L h) (c_0 : tr_L g d m_X9_isThrown 0 [some (.ref 1099), some (.int 0), some (.int 1)] [] h (.inl (some (.int v0)), h1)) (t : v0 = 0 → tr_L g (d + 1) m_X9_rejectionDetail 24 [some (.ref 1099)] [] h1 r) (f : v0 ≠ 0 → tr_L g (d + 1) m_X9_rejectionDetail 20 [some (.ref 1099)] [] h1 r) : tr_L g (d + 1) m_X9_rejectionDetail 12 [some (.ref 1099)] [.ref 1099] h r := by
  refine tr_ic 0 0 (by decide) rfl ?_
  refine tr_ic 1 1 (by decide) rfl ?_
  refine tr_call (.invokevirtual 66) 66 0 2 8 m_X9_isThrown [.ref 1099, .int 0, .int 1] [] (some (.int v0)) h1 rfl rfl rfl rfl rfl rfl rfl rfl rfl (tr_cok rfl (Or.inr ⟨_, _, rfl, tr_rc (hh_rd (hh_obj hL (k := 99) rfl).1) (by decide)⟩)) c_0 ?_
  have hL0 := c_0.2
  exact tr_if1 .eq 7 24 v0 rfl rfl rfl (fun hc => t ((tr_eq hc).1 rfl)) (fun hc => f ((tr_eq hc).2 rfl))
theorem sg_X9_rejectionDetail_20 {g : tr_g} {d : Nat} {h : ev_AH} {r : ev_O × ev_AH} {w0 : Option Value} (hL : hh_L h) (hr : r = (.inl (some (.int 0)), h)) : tr_L g d m_X9_rejectionDetail 20 [w0] [] h r := by
  refine tr_ic 0 0 (by decide) rfl ?_
  refine tr_goto 7 28 rfl rfl rfl ?_
  exact tl_ret hL .ireturn 1 (some (.int 0)) rfl rfl rfl rfl hr
theorem sg_X9_rejectionDetail_24 {g : tr_g} {d : Nat} {h : ev_AH} {r : ev_O × ev_AH} (hL : hh_L h) (hr : r = (.inl (some (.int (hh_i h 99 10))), h)) : tr_L g d m_X9_rejectionDetail 24 [some (.ref 1099)] [] h r := by
  refine tr_s (.aload_n 0) 1 25 [some (.ref 1099)] [.ref 1099] h rfl rfl rfl ?_
  refine tl_gi hL 57 99 8 10 [1100, 1101, 1102, 1103, 1104, 1105, 0, 0, 0, 0, 0, 0, 0, 0, 0, 0, 0, 0, 0, 0, 0, 1106, 0, 1107, 1108, 0, 0, 0] rfl rfl rfl rfl ?_
  exact tl_ret hL .ireturn 1 (some (.int (hh_i h 99 10))) rfl rfl rfl rfl hr
theorem sg_X9_causeReason_0 {g : tr_g} {d : Nat} {h : ev_AH} {r : ev_O × ev_AH} (hL : hh_L h) (t : (hh_i h 99 9) = 6 → tr_L g d m_X9_causeReason 14 [some (.ref 1099)] [.ref 1099] h r) (f : (hh_i h 99 9) ≠ 6 → tr_L g d m_X9_causeReason 10 [some (.ref 1099)] [.ref 1099] h r) : tr_L g d m_X9_causeReason 0 [some (.ref 1099)] [] h r := by
  refine tr_s (.aload_n 0) 1 1 [some (.ref 1099)] [.ref 1099] h rfl rfl rfl ?_
  refine tr_s (.aload_n 0) 1 2 [some (.ref 1099)] [.ref 1099, .ref 1099] h rfl rfl rfl ?_
  refine tl_gi hL 51 99 8 9 [1100, 1101, 1102, 1103, 1104, 1105, 0, 0, 0, 0, 0, 0, 0, 0, 0, 0, 0, 0, 0, 0, 0, 1106, 0, 1107, 1108, 0, 0, 0] rfl rfl rfl rfl ?_
  refine tr_bi 6 6 (by decide) rfl ?_
  exact tr_if2 .eq 7 14 (hh_i h 99 9) 6 rfl rfl rfl (fun hc => t ((tr_eq hc).1 rfl)) (fun hc => f ((tr_eq hc).2 rfl))
theorem sg_X9_causeReason_10 {g : tr_g} {d : Nat} {h : ev_AH} {r : ev_O × ev_AH} {h1 : ev_AH} {v0 : Int32} (hL : hh_L h) (c_0 : tr_L g d m_X9_isThrown 0 [some (.ref 1099), some (.int 1), some (.int 1)] [] h (.inl (some (.int v0)), h1)) (t : v0 = 0 → tr_L g (d + 1) m_X9_causeReason 26 [some (.ref 1099)] [] h1 r) (f : v0 ≠ 0 → tr_L g (d + 1) m_X9_causeReason 22 [some (.ref 1099)] [] h1 r) : tr_L g (d + 1) m_X9_causeReason 10 [some (.ref 1099)] [.ref 1099] h r := by
  refine tr_ic 1 1 (by decide) rfl ?_
  refine tr_goto 4 15 rfl rfl rfl ?_
  refine tr_ic 1 1 (by decide) rfl ?_
  refine tr_call (.invokevirtual 66) 66 0 2 8 m_X9_isThrown [.ref 1099, .int 1, .int 1] [] (some (.int v0)) h1 rfl rfl rfl rfl rfl rfl rfl rfl rfl (tr_cok rfl (Or.inr ⟨_, _, rfl, tr_rc (hh_rd (hh_obj hL (k := 99) rfl).1) (by decide)⟩)) c_0 ?_
  have hL0 := c_0.2
  exact tr_if1 .eq 7 26 v0 rfl rfl rfl (fun hc => t ((tr_eq hc).1 rfl)) (fun hc => f ((tr_eq hc).2 rfl))
theorem sg_X9_causeReason_14 {g : tr_g} {d : Nat} {h : ev_AH} {r : ev_O × ev_AH} {h1 : ev_AH} {v0 : Int32} (hL : hh_L h) (c_0 : tr_L g d m_X9_isThrown 0 [some (.ref 1099), some (.int 0), some (.int 1)] [] h (.inl (some (.int v0)), h1)) (t : v0 = 0 → tr_L g (d + 1) m_X9_causeReason 26 [some (.ref 1099)] [] h1 r) (f : v0 ≠ 0 → tr_L g (d + 1) m_X9_causeReason 22 [some (.ref 1099)] [] h1 r) : tr_L g (d + 1) m_X9_causeReason 14 [some (.ref 1099)] [.ref 1099] h r := by
  refine tr_ic 0 0 (by decide) rfl ?_
  refine tr_ic 1 1 (by decide) rfl ?_
  refine tr_call (.invokevirtual 66) 66 0 2 8 m_X9_isThrown [.ref 1099, .int 0, .int 1] [] (some (.int v0)) h1 rfl rfl rfl rfl rfl rfl rfl rfl rfl (tr_cok rfl (Or.inr ⟨_, _, rfl, tr_rc (hh_rd (hh_obj hL (k := 99) rfl).1) (by decide)⟩)) c_0 ?_
  have hL0 := c_0.2
  exact tr_if1 .eq 7 26 v0 rfl rfl rfl (fun hc => t ((tr_eq hc).1 rfl)) (fun hc => f ((tr_eq hc).2 rfl))
theorem sg_X9_causeReason_22 {g : tr_g} {d : Nat} {h : ev_AH} {r : ev_O × ev_AH} {w0 : Option Value} (hL : hh_L h) (hr : r = (.inl (some (.int 0)), h)) : tr_L g d m_X9_causeReason 22 [w0] [] h r := by
  refine tr_ic 0 0 (by decide) rfl ?_
  refine tr_goto 7 30 rfl rfl rfl ?_
  exact tl_ret hL .ireturn 1 (some (.int 0)) rfl rfl rfl rfl hr
theorem sg_X9_causeReason_26 {g : tr_g} {d : Nat} {h : ev_AH} {r : ev_O × ev_AH} (hL : hh_L h) (hr : r = (.inl (some (.int (hh_i h 99 11))), h)) : tr_L g d m_X9_causeReason 26 [some (.ref 1099)] [] h r := by
  refine tr_s (.aload_n 0) 1 27 [some (.ref 1099)] [.ref 1099] h rfl rfl rfl ?_
  refine tl_gi hL 60 99 8 11 [1100, 1101, 1102, 1103, 1104, 1105, 0, 0, 0, 0, 0, 0, 0, 0, 0, 0, 0, 0, 0, 0, 0, 1106, 0, 1107, 1108, 0, 0, 0] rfl rfl rfl rfl ?_
  exact tl_ret hL .ireturn 1 (some (.int (hh_i h 99 11))) rfl rfl rfl rfl hr
theorem sg_X9_undo_0 {g : tr_g} {d : Nat} {h : ev_AH} {r : ev_O × ev_AH} (hL : hh_L h) (t : (hh_i h 99 6) ≠ 0 → tr_L g d m_X9_undo 12 [some (.ref 1099)] [.ref 1099] h r) (f : (hh_i h 99 6) = 0 → tr_L g d m_X9_undo 8 [some (.ref 1099)] [.ref 1099] h r) : tr_L g d m_X9_undo 0 [some (.ref 1099)] [] h r := by
  refine tr_s (.aload_n 0) 1 1 [some (.ref 1099)] [.ref 1099] h rfl rfl rfl ?_
  refine tr_s (.aload_n 0) 1 2 [some (.ref 1099)] [.ref 1099, .ref 1099] h rfl rfl rfl ?_
  refine tl_gi hL 63 99 8 6 [1100, 1101, 1102, 1103, 1104, 1105, 0, 0, 0, 0, 0, 0, 0, 0, 0, 0, 0, 0, 0, 0, 0, 1106, 0, 1107, 1108, 0, 0, 0] rfl rfl rfl rfl ?_
  exact tr_if1 .ne 7 12 (hh_i h 99 6) rfl rfl rfl (fun hc => t ((tr_ne hc).1 rfl)) (fun hc => f ((tr_ne hc).2 rfl))
theorem sg_X9_undo_8 {g : tr_g} {d : Nat} {h : ev_AH} {r : ev_O × ev_AH} {h1 : ev_AH} {v0 : Int32} (hL : hh_L h) (c_0 : tr_L g d m_X9_isThrown 0 [some (.ref 1099), some (.int 1), some (.int 1)] [] h (.inl (some (.int v0)), h1)) (t : v0 = 0 → tr_L g (d + 1) m_X9_undo 22 [some (.ref 1099)] [] h1 r) (f : v0 ≠ 0 → tr_L g (d + 1) m_X9_undo 20 [some (.ref 1099)] [] h1 r) : tr_L g (d + 1) m_X9_undo 8 [some (.ref 1099)] [.ref 1099] h r := by
  refine tr_ic 1 1 (by decide) rfl ?_
  refine tr_goto 4 13 rfl rfl rfl ?_
  refine tr_ic 1 1 (by decide) rfl ?_
  refine tr_call (.invokevirtual 66) 66 0 2 8 m_X9_isThrown [.ref 1099, .int 1, .int 1] [] (some (.int v0)) h1 rfl rfl rfl rfl rfl rfl rfl rfl rfl (tr_cok rfl (Or.inr ⟨_, _, rfl, tr_rc (hh_rd (hh_obj hL (k := 99) rfl).1) (by decide)⟩)) c_0 ?_
  have hL0 := c_0.2
  exact tr_if1 .eq 5 22 v0 rfl rfl rfl (fun hc => t ((tr_eq hc).1 rfl)) (fun hc => f ((tr_eq hc).2 rfl))
theorem sg_X9_undo_12 {g : tr_g} {d : Nat} {h : ev_AH} {r : ev_O × ev_AH} {h1 : ev_AH} {v0 : Int32} (hL : hh_L h) (c_0 : tr_L g d m_X9_isThrown 0 [some (.ref 1099), some (.int 0), some (.int 1)] [] h (.inl (some (.int v0)), h1)) (t : v0 = 0 → tr_L g (d + 1) m_X9_undo 22 [some (.ref 1099)] [] h1 r) (f : v0 ≠ 0 → tr_L g (d + 1) m_X9_undo 20 [some (.ref 1099)] [] h1 r) : tr_L g (d + 1) m_X9_undo 12 [some (.ref 1099)] [.ref 1099] h r := by
  refine tr_ic 0 0 (by decide) rfl ?_
  refine tr_ic 1 1 (by decide) rfl ?_
  refine tr_call (.invokevirtual 66) 66 0 2 8 m_X9_isThrown [.ref 1099, .int 0, .int 1] [] (some (.int v0)) h1 rfl rfl rfl rfl rfl rfl rfl rfl rfl (tr_cok rfl (Or.inr ⟨_, _, rfl, tr_rc (hh_rd (hh_obj hL (k := 99) rfl).1) (by decide)⟩)) c_0 ?_
  have hL0 := c_0.2
  exact tr_if1 .eq 5 22 v0 rfl rfl rfl (fun hc => t ((tr_eq hc).1 rfl)) (fun hc => f ((tr_eq hc).2 rfl))
theorem sg_X9_undo_20 {g : tr_g} {d : Nat} {h : ev_AH} {r : ev_O × ev_AH} {w0 : Option Value} (hL : hh_L h) (hr : r = (.inl (some (.int 0)), h)) : tr_L g d m_X9_undo 20 [w0] [] h r := by
  refine tr_ic 0 0 (by decide) rfl ?_
  exact tl_ret hL .ireturn 1 (some (.int 0)) rfl rfl rfl rfl hr
theorem sg_X9_undo_22 {g : tr_g} {d : Nat} {h : ev_AH} {r : ev_O × ev_AH} {h1 : ev_AH} (hL : hh_L h) (c_0 : tr_L g d m_X9_copies 0 [some (.ref 1103), some (.int (124 * (hh_i (hh_si h 99 8 6 ((hh_i h 99 6) - 1)) 99 6))), some (.ref 1100), some (.int 0), none] [] (hh_si h 99 8 6 ((hh_i h 99 6) - 1)) (.inl none, h1)) (hr : r = (.inl (some (.int (hh_i h1 99 6))), h1)) : tr_L g (d + 1) m_X9_undo 22 [some (.ref 1099)] [] h r := by
  refine tr_s (.aload_n 0) 1 23 [some (.ref 1099)] [.ref 1099] h rfl rfl rfl ?_
  refine tr_s .dup 1 24 [some (.ref 1099)] [.ref 1099, .ref 1099] h rfl rfl rfl ?_
  refine tl_gi hL 63 99 8 6 [1100, 1101, 1102, 1103, 1104, 1105, 0, 0, 0, 0, 0, 0, 0, 0, 0, 0, 0, 0, 0, 0, 0, 1106, 0, 1107, 1108, 0, 0, 0] rfl rfl rfl rfl ?_
  refine tr_ic 1 1 (by decide) rfl ?_
  refine tr_s .isub 1 29 [some (.ref 1099)] [.int ((hh_i h 99 6) - 1), .ref 1099] h rfl rfl rfl ?_
  refine tl_pf hL 63 99 8 6 [1100, 1101, 1102, 1103, 1104, 1105, 0, 0, 0, 0, 0, 0, 0, 0, 0, 0, 0, 0, 0, 0, 0, 1106, 0, 1107, 1108, 0, 0, 0] ((hh_i h 99 6) - 1) .int rfl rfl rfl rfl rfl tr_oki ?_
  have hL0 := hh_L_si (sl := 6) (x := ((hh_i h 99 6) - 1)) hL (show hh_t[99]? = some (.inr (8, [1100, 1101, 1102, 1103, 1104, 1105, 0, 0, 0, 0, 0, 0, 0, 0, 0, 0, 0, 0, 0, 0, 0, 1106, 0, 1107, 1108, 0, 0, 0])) from rfl) rfl
  refine tr_s (.aload_n 0) 1 33 [some (.ref 1099)] [.ref 1099] (hh_si h 99 8 6 ((hh_i h 99 6) - 1)) rfl rfl rfl ?_
  refine tl_gr hL0 19 99 8 3 103 [1100, 1101, 1102, 1103, 1104, 1105, 0, 0, 0, 0, 0, 0, 0, 0, 0, 0, 0, 0, 0, 0, 0, 1106, 0, 1107, 1108, 0, 0, 0] rfl rfl rfl rfl ?_
  refine tr_bi 124 124 (by decide) rfl ?_
  refine tr_s (.aload_n 0) 1 39 [some (.ref 1099)] [.ref 1099, .int 124, .ref 1103] (hh_si h 99 8 6 ((hh_i h 99 6) - 1)) rfl rfl rfl ?_
  refine tl_gi hL0 63 99 8 6 [1100, 1101, 1102, 1103, 1104, 1105, 0, 0, 0, 0, 0, 0, 0, 0, 0, 0, 0, 0, 0, 0, 0, 1106, 0, 1107, 1108, 0, 0, 0] rfl rfl rfl rfl ?_
  refine tr_s .imul 1 43 [some (.ref 1099)] [.int (124 * (hh_i (hh_si h 99 8 6 ((hh_i h 99 6) - 1)) 99 6)), .ref 1103] (hh_si h 99 8 6 ((hh_i h 99 6) - 1)) rfl rfl rfl ?_
  refine tr_s (.aload_n 0) 1 44 [some (.ref 1099)] [.ref 1099, .int (124 * (hh_i (hh_si h 99 8 6 ((hh_i h 99 6) - 1)) 99 6)), .ref 1103] (hh_si h 99 8 6 ((hh_i h 99 6) - 1)) rfl rfl rfl ?_
  refine tl_gr hL0 9 99 8 0 100 [1100, 1101, 1102, 1103, 1104, 1105, 0, 0, 0, 0, 0, 0, 0, 0, 0, 0, 0, 0, 0, 0, 0, 1106, 0, 1107, 1108, 0, 0, 0] rfl rfl rfl rfl ?_
  refine tr_ic 0 0 (by decide) rfl ?_
  refine tr_call (.invokestatic 44) 44 2 4 0 m_X9_copies [.ref 1103, .int (124 * (hh_i (hh_si h 99 8 6 ((hh_i h 99 6) - 1)) 99 6)), .ref 1100, .int 0] [] none h1 rfl rfl rfl rfl rfl rfl rfl rfl rfl (tr_cok rfl (Or.inl rfl)) c_0 ?_
  have hL1 := c_0.2
  refine tr_s (.aload_n 0) 1 52 [some (.ref 1099)] [.ref 1099] h1 rfl rfl rfl ?_
  refine tl_gi hL1 63 99 8 6 [1100, 1101, 1102, 1103, 1104, 1105, 0, 0, 0, 0, 0, 0, 0, 0, 0, 0, 0, 0, 0, 0, 0, 1106, 0, 1107, 1108, 0, 0, 0] rfl rfl rfl rfl ?_
  exact tl_ret hL1 .ireturn 1 (some (.int (hh_i h1 99 6))) rfl rfl rfl rfl hr
theorem sg_X9_saveSnapshot_0 {g : tr_g} {d : Nat} {h : ev_AH} {r : ev_O × ev_AH} {h1 : ev_AH} {j0 : Nat} (hL : hh_L h) (c_0 : tr_L g d m_X9_copies 0 [some (.ref 1100), some (.int 0), some (.ref 1102), some (.int 0), none] [] (hh_si h 99 8 7 0) (.inl none, h1)) (e0 : 1 = Int32.ofNat j0) (b0 : j0 < 124) (hr : r = (.inl (some (.int ((hh_a (hh_si h1 99 8 20 1) 100).getD j0 0))), hh_si h1 99 8 20 1)) : tr_L g (d + 1) m_X9_saveSnapshot 0 [some (.ref 1099)] [] h r := by
  refine tr_s (.aload_n 0) 1 1 [some (.ref 1099)] [.ref 1099] h rfl rfl rfl ?_
  refine tr_ic 0 0 (by decide) rfl ?_
  refine tl_pf hL 41 99 8 7 [1100, 1101, 1102, 1103, 1104, 1105, 0, 0, 0, 0, 0, 0, 0, 0, 0, 0, 0, 0, 0, 0, 0, 1106, 0, 1107, 1108, 0, 0, 0] 0 .int rfl rfl rfl rfl rfl tr_oki ?_
  have hL0 := hh_L_si (sl := 7) (x := 0) hL (show hh_t[99]? = some (.inr (8, [1100, 1101, 1102, 1103, 1104, 1105, 0, 0, 0, 0, 0, 0, 0, 0, 0, 0, 0, 0, 0, 0, 0, 1106, 0, 1107, 1108, 0, 0, 0])) from rfl) rfl
  refine tr_s (.aload_n 0) 1 6 [some (.ref 1099)] [.ref 1099] (hh_si h 99 8 7 0) rfl rfl rfl ?_
  refine tl_gr hL0 9 99 8 0 100 [1100, 1101, 1102, 1103, 1104, 1105, 0, 0, 0, 0, 0, 0, 0, 0, 0, 0, 0, 0, 0, 0, 0, 1106, 0, 1107, 1108, 0, 0, 0] rfl rfl rfl rfl ?_
  refine tr_ic 0 0 (by decide) rfl ?_
  refine tr_s (.aload_n 0) 1 11 [some (.ref 1099)] [.ref 1099, .int 0, .ref 1100] (hh_si h 99 8 7 0) rfl rfl rfl ?_
  refine tl_gr hL0 16 99 8 2 102 [1100, 1101, 1102, 1103, 1104, 1105, 0, 0, 0, 0, 0, 0, 0, 0, 0, 0, 0, 0, 0, 0, 0, 1106, 0, 1107, 1108, 0, 0, 0] rfl rfl rfl rfl ?_
  refine tr_ic 0 0 (by decide) rfl ?_
  refine tr_call (.invokestatic 44) 44 2 4 0 m_X9_copies [.ref 1100, .int 0, .ref 1102, .int 0] [] none h1 rfl rfl rfl rfl rfl rfl rfl rfl rfl (tr_cok rfl (Or.inl rfl)) c_0 ?_
  have hL1 := c_0.2
  refine tr_s (.aload_n 0) 1 19 [some (.ref 1099)] [.ref 1099] h1 rfl rfl rfl ?_
  refine tr_ic 1 1 (by decide) rfl ?_
  refine tl_pf hL1 323 99 8 20 [1100, 1101, 1102, 1103, 1104, 1105, 0, 0, 0, 0, 0, 0, 0, 0, 0, 0, 0, 0, 0, 0, 0, 1106, 0, 1107, 1108, 0, 0, 0] 1 .boolean rfl rfl rfl rfl rfl (by decide) ?_
  have hL2 := hh_L_si (sl := 20) (x := 1) hL1 (show hh_t[99]? = some (.inr (8, [1100, 1101, 1102, 1103, 1104, 1105, 0, 0, 0, 0, 0, 0, 0, 0, 0, 0, 0, 0, 0, 0, 0, 1106, 0, 1107, 1108, 0, 0, 0])) from rfl) rfl
  refine tr_s (.aload_n 0) 1 24 [some (.ref 1099)] [.ref 1099] (hh_si h1 99 8 20 1) rfl rfl rfl ?_
  refine tl_gr hL2 9 99 8 0 100 [1100, 1101, 1102, 1103, 1104, 1105, 0, 0, 0, 0, 0, 0, 0, 0, 0, 0, 0, 0, 0, 0, 0, 1106, 0, 1107, 1108, 0, 0, 0] rfl rfl rfl rfl ?_
  refine tr_ic 1 1 (by decide) rfl ?_
  refine tl_ald hL2 .iaload 100 0 124 j0 1 rfl (by decide) rfl e0 b0 (by decide) ?_
  exact tl_ret hL2 .ireturn 1 (some (.int ((hh_a (hh_si h1 99 8 20 1) 100).getD j0 0))) rfl rfl rfl rfl hr
theorem sg_X9_restoreSnapshot_0 {g : tr_g} {d : Nat} {h : ev_AH} {r : ev_O × ev_AH} (hL : hh_L h) (t : (hh_i h 99 20) ≠ 0 → tr_L g d m_X9_restoreSnapshot 12 [some (.ref 1099)] [.ref 1099] h r) (f : (hh_i h 99 20) = 0 → tr_L g d m_X9_restoreSnapshot 8 [some (.ref 1099)] [.ref 1099] h r) : tr_L g d m_X9_restoreSnapshot 0 [some (.ref 1099)] [] h r := by
  refine tr_s (.aload_n 0) 1 1 [some (.ref 1099)] [.ref 1099] h rfl rfl rfl ?_
  refine tr_s (.aload_n 0) 1 2 [some (.ref 1099)] [.ref 1099, .ref 1099] h rfl rfl rfl ?_
  refine tl_gi hL 323 99 8 20 [1100, 1101, 1102, 1103, 1104, 1105, 0, 0, 0, 0, 0, 0, 0, 0, 0, 0, 0, 0, 0, 0, 0, 1106, 0, 1107, 1108, 0, 0, 0] rfl rfl rfl rfl ?_
  exact tr_if1 .ne 7 12 (hh_i h 99 20) rfl rfl rfl (fun hc => t ((tr_ne hc).1 rfl)) (fun hc => f ((tr_ne hc).2 rfl))
theorem sg_X9_restoreSnapshot_8 {g : tr_g} {d : Nat} {h : ev_AH} {r : ev_O × ev_AH} {h1 : ev_AH} {v0 : Int32} (hL : hh_L h) (c_0 : tr_L g d m_X9_isThrown 0 [some (.ref 1099), some (.int 1), some (.int 1)] [] h (.inl (some (.int v0)), h1)) (t : v0 = 0 → tr_L g (d + 1) m_X9_restoreSnapshot 22 [some (.ref 1099)] [] h1 r) (f : v0 ≠ 0 → tr_L g (d + 1) m_X9_restoreSnapshot 20 [some (.ref 1099)] [] h1 r) : tr_L g (d + 1) m_X9_restoreSnapshot 8 [some (.ref 1099)] [.ref 1099] h r := by
  refine tr_ic 1 1 (by decide) rfl ?_
  refine tr_goto 4 13 rfl rfl rfl ?_
  refine tr_ic 1 1 (by decide) rfl ?_
  refine tr_call (.invokevirtual 66) 66 0 2 8 m_X9_isThrown [.ref 1099, .int 1, .int 1] [] (some (.int v0)) h1 rfl rfl rfl rfl rfl rfl rfl rfl rfl (tr_cok rfl (Or.inr ⟨_, _, rfl, tr_rc (hh_rd (hh_obj hL (k := 99) rfl).1) (by decide)⟩)) c_0 ?_
  have hL0 := c_0.2
  exact tr_if1 .eq 5 22 v0 rfl rfl rfl (fun hc => t ((tr_eq hc).1 rfl)) (fun hc => f ((tr_eq hc).2 rfl))
theorem sg_X9_restoreSnapshot_12 {g : tr_g} {d : Nat} {h : ev_AH} {r : ev_O × ev_AH} {h1 : ev_AH} {v0 : Int32} (hL : hh_L h) (c_0 : tr_L g d m_X9_isThrown 0 [some (.ref 1099), some (.int 0), some (.int 1)] [] h (.inl (some (.int v0)), h1)) (t : v0 = 0 → tr_L g (d + 1) m_X9_restoreSnapshot 22 [some (.ref 1099)] [] h1 r) (f : v0 ≠ 0 → tr_L g (d + 1) m_X9_restoreSnapshot 20 [some (.ref 1099)] [] h1 r) : tr_L g (d + 1) m_X9_restoreSnapshot 12 [some (.ref 1099)] [.ref 1099] h r := by
  refine tr_ic 0 0 (by decide) rfl ?_
  refine tr_ic 1 1 (by decide) rfl ?_
  refine tr_call (.invokevirtual 66) 66 0 2 8 m_X9_isThrown [.ref 1099, .int 0, .int 1] [] (some (.int v0)) h1 rfl rfl rfl rfl rfl rfl rfl rfl rfl (tr_cok rfl (Or.inr ⟨_, _, rfl, tr_rc (hh_rd (hh_obj hL (k := 99) rfl).1) (by decide)⟩)) c_0 ?_
  have hL0 := c_0.2
  exact tr_if1 .eq 5 22 v0 rfl rfl rfl (fun hc => t ((tr_eq hc).1 rfl)) (fun hc => f ((tr_eq hc).2 rfl))
theorem sg_X9_restoreSnapshot_20 {g : tr_g} {d : Nat} {h : ev_AH} {r : ev_O × ev_AH} {w0 : Option Value} (hL : hh_L h) (hr : r = (.inl (some (.int 0)), h)) : tr_L g d m_X9_restoreSnapshot 20 [w0] [] h r := by
  refine tr_ic 0 0 (by decide) rfl ?_
  exact tl_ret hL .ireturn 1 (some (.int 0)) rfl rfl rfl rfl hr
theorem sg_X9_restoreSnapshot_22 {g : tr_g} {d : Nat} {h : ev_AH} {r : ev_O × ev_AH} {h1 : ev_AH} {j0 : Nat} (hL : hh_L h) (c_0 : tr_L g d m_X9_copies 0 [some (.ref 1102), some (.int 0), some (.ref 1100), some (.int 0), none] [] h (.inl none, h1)) (e0 : 1 = Int32.ofNat j0) (b0 : j0 < 124) (hr : r = (.inl (some (.int ((hh_a (hh_si h1 99 8 6 0) 100).getD j0 0))), hh_si h1 99 8 6 0)) : tr_L g (d + 1) m_X9_restoreSnapshot 22 [some (.ref 1099)] [] h r := by
  refine tr_s (.aload_n 0) 1 23 [some (.ref 1099)] [.ref 1099] h rfl rfl rfl ?_
  refine tl_gr hL 16 99 8 2 102 [1100, 1101, 1102, 1103, 1104, 1105, 0, 0, 0, 0, 0, 0, 0, 0, 0, 0, 0, 0, 0, 0, 0, 1106, 0, 1107, 1108, 0, 0, 0] rfl rfl rfl rfl ?_
  refine tr_ic 0 0 (by decide) rfl ?_
  refine tr_s (.aload_n 0) 1 28 [some (.ref 1099)] [.ref 1099, .int 0, .ref 1102] h rfl rfl rfl ?_
  refine tl_gr hL 9 99 8 0 100 [1100, 1101, 1102, 1103, 1104, 1105, 0, 0, 0, 0, 0, 0, 0, 0, 0, 0, 0, 0, 0, 0, 0, 1106, 0, 1107, 1108, 0, 0, 0] rfl rfl rfl rfl ?_
  refine tr_ic 0 0 (by decide) rfl ?_
  refine tr_call (.invokestatic 44) 44 2 4 0 m_X9_copies [.ref 1102, .int 0, .ref 1100, .int 0] [] none h1 rfl rfl rfl rfl rfl rfl rfl rfl rfl (tr_cok rfl (Or.inl rfl)) c_0 ?_
  have hL0 := c_0.2
  refine tr_s (.aload_n 0) 1 36 [some (.ref 1099)] [.ref 1099] h1 rfl rfl rfl ?_
  refine tr_ic 0 0 (by decide) rfl ?_
  refine tl_pf hL0 63 99 8 6 [1100, 1101, 1102, 1103, 1104, 1105, 0, 0, 0, 0, 0, 0, 0, 0, 0, 0, 0, 0, 0, 0, 0, 1106, 0, 1107, 1108, 0, 0, 0] 0 .int rfl rfl rfl rfl rfl tr_oki ?_
  have hL1 := hh_L_si (sl := 6) (x := 0) hL0 (show hh_t[99]? = some (.inr (8, [1100, 1101, 1102, 1103, 1104, 1105, 0, 0, 0, 0, 0, 0, 0, 0, 0, 0, 0, 0, 0, 0, 0, 1106, 0, 1107, 1108, 0, 0, 0])) from rfl) rfl
  refine tr_s (.aload_n 0) 1 41 [some (.ref 1099)] [.ref 1099] (hh_si h1 99 8 6 0) rfl rfl rfl ?_
  refine tl_gr hL1 9 99 8 0 100 [1100, 1101, 1102, 1103, 1104, 1105, 0, 0, 0, 0, 0, 0, 0, 0, 0, 0, 0, 0, 0, 0, 0, 1106, 0, 1107, 1108, 0, 0, 0] rfl rfl rfl rfl ?_
  refine tr_ic 1 1 (by decide) rfl ?_
  refine tl_ald hL1 .iaload 100 0 124 j0 1 rfl (by decide) rfl e0 b0 (by decide) ?_
  exact tl_ret hL1 .ireturn 1 (some (.int ((hh_a (hh_si h1 99 8 6 0) 100).getD j0 0))) rfl rfl rfl rfl hr
