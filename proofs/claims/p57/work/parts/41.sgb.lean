/-! runs of Ray, Joining, Votes, Courses, from place to place; laid by a program (wip/p57/gen/gen40.py) -/
theorem sg_X5_follow_0 {g : tr_g} {d : Nat} {h : ev_AH} {r : ev_O × ev_AH} {x2 v0 v1 : Int32} {h1 h2 : ev_AH} (hL : hh_L h) (c_0 : tr_L g d m_X0_cellAt 0 [some (.int x2)] [] (hh_si (hh_si (hh_si (hh_si h 80 3 0 (-1)) 80 3 1 (-1)) 80 3 2 0) 80 3 3 0) (.inl (some (.int v0)), h1)) (c_1 : tr_L g d m_X0_directionAt 0 [some (.int x2)] [] h1 (.inl (some (.int v1)), h2)) (k : tr_L g (d + 1) m_X5_follow 34 [some (.ref 1080), some (.ref 1001), some (.int x2), some (.int v0), some (.int v1), some (.int 0), none, none] [] h2 r) : tr_L g (d + 1) m_X5_follow 0 [some (.ref 1080), some (.ref 1001), some (.int x2), none, none, none, none, none] [] h r := by
  refine tr_s (.aload_n 0) 1 1 [some (.ref 1080), some (.ref 1001), some (.int x2), none, none, none, none, none] [.ref 1080] h rfl rfl rfl ?_
  refine tr_ic (-1) (-1) (by decide) rfl ?_
  refine tl_pf hL 9 80 3 0 [0, 0, 0, 0] (-1) .int rfl rfl rfl rfl rfl tr_oki ?_
  have hL0 := hh_L_si (sl := 0) (x := (-1)) hL (show hh_t[80]? = some (.inr (3, [0, 0, 0, 0])) from rfl) rfl
  refine tr_s (.aload_n 0) 1 6 [some (.ref 1080), some (.ref 1001), some (.int x2), none, none, none, none, none] [.ref 1080] (hh_si h 80 3 0 (-1)) rfl rfl rfl ?_
  refine tr_ic (-1) (-1) (by decide) rfl ?_
  refine tl_pf hL0 15 80 3 1 [0, 0, 0, 0] (-1) .int rfl rfl rfl rfl rfl tr_oki ?_
  have hL1 := hh_L_si (sl := 1) (x := (-1)) hL0 (show hh_t[80]? = some (.inr (3, [0, 0, 0, 0])) from rfl) rfl
  refine tr_s (.aload_n 0) 1 11 [some (.ref 1080), some (.ref 1001), some (.int x2), none, none, none, none, none] [.ref 1080] (hh_si (hh_si h 80 3 0 (-1)) 80 3 1 (-1)) rfl rfl rfl ?_
  refine tr_ic 0 0 (by decide) rfl ?_
  refine tl_pf hL1 18 80 3 2 [0, 0, 0, 0] 0 .int rfl rfl rfl rfl rfl tr_oki ?_
  have hL2 := hh_L_si (sl := 2) (x := 0) hL1 (show hh_t[80]? = some (.inr (3, [0, 0, 0, 0])) from rfl) rfl
  refine tr_s (.aload_n 0) 1 16 [some (.ref 1080), some (.ref 1001), some (.int x2), none, none, none, none, none] [.ref 1080] (hh_si (hh_si (hh_si h 80 3 0 (-1)) 80 3 1 (-1)) 80 3 2 0) rfl rfl rfl ?_
  refine tr_ic 0 0 (by decide) rfl ?_
  refine tl_pf hL2 21 80 3 3 [0, 0, 0, 0] 0 .int rfl rfl rfl rfl rfl tr_oki ?_
  have hL3 := hh_L_si (sl := 3) (x := 0) hL2 (show hh_t[80]? = some (.inr (3, [0, 0, 0, 0])) from rfl) rfl
  refine tr_s (.iload_n 2) 1 21 [some (.ref 1080), some (.ref 1001), some (.int x2), none, none, none, none, none] [.int x2] (hh_si (hh_si (hh_si (hh_si h 80 3 0 (-1)) 80 3 1 (-1)) 80 3 2 0) 80 3 3 0) rfl rfl rfl ?_
  refine tr_call (.invokestatic 24) 24 3 1 0 m_X0_cellAt [.int x2] [] (some (.int v0)) h1 rfl rfl rfl rfl rfl rfl rfl rfl rfl (tr_cok rfl (Or.inl rfl)) c_0 ?_
  have hL4 := c_0.2
  refine tr_st (.istore_n 3) 1 3 0 (.int v0) rfl rfl rfl rfl rfl rfl rfl ?_
  refine tr_s (.iload_n 2) 1 26 [some (.ref 1080), some (.ref 1001), some (.int x2), some (.int v0), none, none, none, none] [.int x2] h1 rfl rfl rfl ?_
  refine tr_call (.invokestatic 30) 30 3 1 0 m_X0_directionAt [.int x2] [] (some (.int v1)) h2 rfl rfl rfl rfl rfl rfl rfl rfl rfl (tr_cok rfl (Or.inl rfl)) c_1 ?_
  have hL5 := c_1.2
  refine tr_st (.istore 4) 2 4 0 (.int v1) rfl rfl rfl rfl rfl rfl rfl ?_
  refine tr_ic 0 0 (by decide) rfl ?_
  refine tr_st (.istore 5) 2 5 0 (.int 0) rfl rfl rfl rfl rfl rfl rfl ?_
  exact k
theorem sg_X5_follow_34 {g : tr_g} {d : Nat} {h : ev_AH} {r : ev_O × ev_AH} {w2 w6 w7 : Option Value} {x3 x4 x5 : Int32} (hL : hh_L h) (t : 140 ≤ x5 → tr_L g d m_X5_follow 139 [some (.ref 1080), some (.ref 1001), w2, some (.int x3), some (.int x4), some (.int x5), w6, w7] [] h r) (f : x5 < 140 → tr_L g d m_X5_follow 42 [some (.ref 1080), some (.ref 1001), w2, some (.int x3), some (.int x4), some (.int x5), w6, w7] [] h r) : tr_L g d m_X5_follow 34 [some (.ref 1080), some (.ref 1001), w2, some (.int x3), some (.int x4), some (.int x5), w6, w7] [] h r := by
  refine tr_s (.iload 5) 2 36 [some (.ref 1080), some (.ref 1001), w2, some (.int x3), some (.int x4), some (.int x5), w6, w7] [.int x5] h rfl rfl rfl ?_
  refine tr_si 140 140 (by decide) rfl ?_
  exact tr_if2 .ge 100 139 x5 140 rfl rfl rfl (fun hc => t ((tr_ge hc).1 rfl)) (fun hc => f ((tr_ge hc).2 rfl))
theorem sg_X5_follow_42 {g : tr_g} {d : Nat} {h : ev_AH} {r : ev_O × ev_AH} {w2 w6 w7 : Option Value} {x3 x4 x5 v0 : Int32} {h1 : ev_AH} (hL : hh_L h) (c_0 : tr_L g d m_X8_at_ 0 [some (.ref 1002), some (.int x3)] [] (hh_si h 80 3 2 ((hh_i h 80 2) + 1)) (.inl (some (.int v0)), h1)) (t : v0 ≠ 99 → tr_L g (d + 1) m_X5_follow 79 [some (.ref 1080), some (.ref 1001), w2, some (.int x3), some (.int x4), some (.int x5), some (.int v0), w7] [] h1 r) (f : v0 = 99 → tr_L g (d + 1) m_X5_follow 69 [some (.ref 1080), some (.ref 1001), w2, some (.int x3), some (.int x4), some (.int x5), some (.int v0), w7] [] h1 r) : tr_L g (d + 1) m_X5_follow 42 [some (.ref 1080), some (.ref 1001), w2, some (.int x3), some (.int x4), some (.int x5), w6, w7] [] h r := by
  refine tr_s (.aload_n 0) 1 43 [some (.ref 1080), some (.ref 1001), w2, some (.int x3), some (.int x4), some (.int x5), w6, w7] [.ref 1080] h rfl rfl rfl ?_
  refine tr_s .dup 1 44 [some (.ref 1080), some (.ref 1001), w2, some (.int x3), some (.int x4), some (.int x5), w6, w7] [.ref 1080, .ref 1080] h rfl rfl rfl ?_
  refine tl_gi hL 18 80 3 2 [0, 0, 0, 0] rfl rfl rfl rfl ?_
  refine tr_ic 1 1 (by decide) rfl ?_
  refine tr_s .iadd 1 49 [some (.ref 1080), some (.ref 1001), w2, some (.int x3), some (.int x4), some (.int x5), w6, w7] [.int ((hh_i h 80 2) + 1), .ref 1080] h rfl rfl rfl ?_
  refine tl_pf hL 18 80 3 2 [0, 0, 0, 0] ((hh_i h 80 2) + 1) .int rfl rfl rfl rfl rfl tr_oki ?_
  have hL0 := hh_L_si (sl := 2) (x := ((hh_i h 80 2) + 1)) hL (show hh_t[80]? = some (.inr (3, [0, 0, 0, 0])) from rfl) rfl
  refine tr_s (.aload_n 1) 1 53 [some (.ref 1080), some (.ref 1001), w2, some (.int x3), some (.int x4), some (.int x5), w6, w7] [.ref 1001] (hh_si h 80 3 2 ((hh_i h 80 2) + 1)) rfl rfl rfl ?_
  refine tl_gr hL0 33 1 1 0 2 [1002, 1003, 1004, 1005, 1006, 1007, 0, 0, 0, 0, 0, 0, 0, 0] rfl rfl rfl rfl ?_
  refine tr_s (.iload_n 3) 1 57 [some (.ref 1080), some (.ref 1001), w2, some (.int x3), some (.int x4), some (.int x5), w6, w7] [.int x3, .ref 1002] (hh_si h 80 3 2 ((hh_i h 80 2) + 1)) rfl rfl rfl ?_
  refine tr_call (.invokestatic 39) 39 3 2 0 m_X8_at_ [.ref 1002, .int x3] [] (some (.int v0)) h1 rfl rfl rfl rfl rfl rfl rfl rfl rfl (tr_cok rfl (Or.inl rfl)) c_0 ?_
  have hL1 := c_0.2
  refine tr_st (.istore 6) 2 6 0 (.int v0) rfl rfl rfl rfl rfl rfl rfl ?_
  refine tr_s (.iload 6) 2 64 [some (.ref 1080), some (.ref 1001), w2, some (.int x3), some (.int x4), some (.int x5), some (.int v0), w7] [.int v0] h1 rfl rfl rfl ?_
  refine tr_bi 99 99 (by decide) rfl ?_
  exact tr_if2 .ne 13 79 v0 99 rfl rfl rfl (fun hc => t ((tr_ne hc).1 rfl)) (fun hc => f ((tr_ne hc).2 rfl))
theorem sg_X5_follow_69 {g : tr_g} {d : Nat} {h : ev_AH} {r : ev_O × ev_AH} {w2 w4 w5 w6 w7 : Option Value} {x3 v0 : Int32} {h1 : ev_AH} (hL : hh_L h) (c_0 : tr_L g d m_X2_findCat 0 [some (.ref 1001), some (.int x3), none] [] h (.inl (some (.int v0)), h1)) (hr : r = (.inl (none), hh_si h1 80 3 1 v0)) : tr_L g (d + 1) m_X5_follow 69 [some (.ref 1080), some (.ref 1001), w2, some (.int x3), w4, w5, w6, w7] [] h r := by
  refine tr_s (.aload_n 0) 1 70 [some (.ref 1080), some (.ref 1001), w2, some (.int x3), w4, w5, w6, w7] [.ref 1080] h rfl rfl rfl ?_
  refine tr_s (.aload_n 1) 1 71 [some (.ref 1080), some (.ref 1001), w2, some (.int x3), w4, w5, w6, w7] [.ref 1001, .ref 1080] h rfl rfl rfl ?_
  refine tr_s (.iload_n 3) 1 72 [some (.ref 1080), some (.ref 1001), w2, some (.int x3), w4, w5, w6, w7] [.int x3, .ref 1001, .ref 1080] h rfl rfl rfl ?_
  refine tr_call (.invokevirtual 43) 43 1 1 1 m_X2_findCat [.ref 1001, .int x3] [.ref 1080] (some (.int v0)) h1 rfl rfl rfl rfl rfl rfl rfl rfl rfl (tr_cok rfl (Or.inr ⟨_, _, rfl, tr_rc (hh_rd (hh_obj hL (k := 1) rfl).1) (by decide)⟩)) c_0 ?_
  have hL0 := c_0.2
  refine tl_pf hL0 15 80 3 1 [0, 0, 0, 0] v0 .int rfl rfl rfl rfl rfl tr_oki ?_
  have hL1 := hh_L_si (sl := 1) (x := v0) hL0 (show hh_t[80]? = some (.inr (3, [0, 0, 0, 0])) from rfl) rfl
  exact tl_ret hL1 .return_ 1 none rfl rfl rfl rfl hr
theorem sg_X5_follow_79 {g : tr_g} {d : Nat} {h : ev_AH} {r : ev_O × ev_AH} {w2 w7 : Option Value} {x3 x4 x5 x6 : Int32} (hL : hh_L h) (t : x6 = 46 → tr_L g d m_X5_follow 96 [some (.ref 1080), some (.ref 1001), w2, some (.int x3), some (.int x4), some (.int x5), some (.int x6), w7] [] h r) (f : x6 ≠ 46 → tr_L g d m_X5_follow 86 [some (.ref 1080), some (.ref 1001), w2, some (.int x3), some (.int x4), some (.int x5), some (.int x6), w7] [] h r) : tr_L g d m_X5_follow 79 [some (.ref 1080), some (.ref 1001), w2, some (.int x3), some (.int x4), some (.int x5), some (.int x6), w7] [] h r := by
  refine tr_s (.iload 6) 2 81 [some (.ref 1080), some (.ref 1001), w2, some (.int x3), some (.int x4), some (.int x5), some (.int x6), w7] [.int x6] h rfl rfl rfl ?_
  refine tr_bi 46 46 (by decide) rfl ?_
  exact tr_if2 .eq 13 96 x6 46 rfl rfl rfl (fun hc => t ((tr_eq hc).1 rfl)) (fun hc => f ((tr_eq hc).2 rfl))
theorem sg_X5_follow_86 {g : tr_g} {d : Nat} {h : ev_AH} {r : ev_O × ev_AH} {w2 w7 : Option Value} {x3 x4 x5 x6 : Int32} (hL : hh_L h) (k : tr_L g d m_X5_follow 96 [some (.ref 1080), some (.ref 1001), w2, some (.int x3), some (.int x4), some (.int x5), some (.int x6), w7] [] (hh_si h 80 3 3 ((hh_i h 80 3) + 1)) r) : tr_L g d m_X5_follow 86 [some (.ref 1080), some (.ref 1001), w2, some (.int x3), some (.int x4), some (.int x5), some (.int x6), w7] [] h r := by
  refine tr_s (.aload_n 0) 1 87 [some (.ref 1080), some (.ref 1001), w2, some (.int x3), some (.int x4), some (.int x5), some (.int x6), w7] [.ref 1080] h rfl rfl rfl ?_
  refine tr_s .dup 1 88 [some (.ref 1080), some (.ref 1001), w2, some (.int x3), some (.int x4), some (.int x5), some (.int x6), w7] [.ref 1080, .ref 1080] h rfl rfl rfl ?_
  refine tl_gi hL 21 80 3 3 [0, 0, 0, 0] rfl rfl rfl rfl ?_
  refine tr_ic 1 1 (by decide) rfl ?_
  refine tr_s .iadd 1 93 [some (.ref 1080), some (.ref 1001), w2, some (.int x3), some (.int x4), some (.int x5), some (.int x6), w7] [.int ((hh_i h 80 3) + 1), .ref 1080] h rfl rfl rfl ?_
  refine tl_pf hL 21 80 3 3 [0, 0, 0, 0] ((hh_i h 80 3) + 1) .int rfl rfl rfl rfl rfl tr_oki ?_
  have hL0 := hh_L_si (sl := 3) (x := ((hh_i h 80 3) + 1)) hL (show hh_t[80]? = some (.inr (3, [0, 0, 0, 0])) from rfl) rfl
  exact k
theorem sg_X5_follow_96 {g : tr_g} {d : Nat} {h : ev_AH} {r : ev_O × ev_AH} {w2 w7 : Option Value} {x3 x4 x5 x6 v0 v1 : Int32} {h1 h2 : ev_AH} (hL : hh_L h) (c_0 : tr_L g d m_X0_reflected 0 [some (.int x6), some (.int x4)] [] h (.inl (some (.int v0)), h1)) (c_1 : tr_L g d m_X0_neighbour 0 [some (.int x3), some (.int v0), none, none] [] h1 (.inl (some (.int v1)), h2)) (t : v1 ≠ (-1) → tr_L g (d + 1) m_X5_follow 130 [some (.ref 1080), some (.ref 1001), w2, some (.int x3), some (.int v0), some (.int x5), some (.int x6), some (.int v1)] [] h2 r) (f : v1 = (-1) → tr_L g (d + 1) m_X5_follow 119 [some (.ref 1080), some (.ref 1001), w2, some (.int x3), some (.int v0), some (.int x5), some (.int x6), some (.int v1)] [] h2 r) : tr_L g (d + 1) m_X5_follow 96 [some (.ref 1080), some (.ref 1001), w2, some (.int x3), some (.int x4), some (.int x5), some (.int x6), w7] [] h r := by
  refine tr_s (.iload 6) 2 98 [some (.ref 1080), some (.ref 1001), w2, some (.int x3), some (.int x4), some (.int x5), some (.int x6), w7] [.int x6] h rfl rfl rfl ?_
  refine tr_s (.iload 4) 2 100 [some (.ref 1080), some (.ref 1001), w2, some (.int x3), some (.int x4), some (.int x5), some (.int x6), w7] [.int x4, .int x6] h rfl rfl rfl ?_
  refine tr_call (.invokestatic 46) 46 3 2 0 m_X0_reflected [.int x6, .int x4] [] (some (.int v0)) h1 rfl rfl rfl rfl rfl rfl rfl rfl rfl (tr_cok rfl (Or.inl rfl)) c_0 ?_
  have hL0 := c_0.2
  refine tr_st (.istore 4) 2 4 0 (.int v0) rfl rfl rfl rfl rfl rfl rfl ?_
  refine tr_s (.iload_n 3) 1 106 [some (.ref 1080), some (.ref 1001), w2, some (.int x3), some (.int v0), some (.int x5), some (.int x6), w7] [.int x3] h1 rfl rfl rfl ?_
  refine tr_s (.iload 4) 2 108 [some (.ref 1080), some (.ref 1001), w2, some (.int x3), some (.int v0), some (.int x5), some (.int x6), w7] [.int v0, .int x3] h1 rfl rfl rfl ?_
  refine tr_call (.invokestatic 50) 50 3 2 0 m_X0_neighbour [.int x3, .int v0] [] (some (.int v1)) h2 rfl rfl rfl rfl rfl rfl rfl rfl rfl (tr_cok rfl (Or.inl rfl)) c_1 ?_
  have hL1 := c_1.2
  refine tr_st (.istore 7) 2 7 0 (.int v1) rfl rfl rfl rfl rfl rfl rfl ?_
  refine tr_s (.iload 7) 2 115 [some (.ref 1080), some (.ref 1001), w2, some (.int x3), some (.int v0), some (.int x5), some (.int x6), some (.int v1)] [.int v1] h2 rfl rfl rfl ?_
  refine tr_ic (-1) (-1) (by decide) rfl ?_
  exact tr_if2 .ne 14 130 v1 (-1) rfl rfl rfl (fun hc => t ((tr_ne hc).1 rfl)) (fun hc => f ((tr_ne hc).2 rfl))
theorem sg_X5_follow_119 {g : tr_g} {d : Nat} {h : ev_AH} {r : ev_O × ev_AH} {w1 w2 w5 w6 w7 : Option Value} {x3 x4 v0 : Int32} {h1 : ev_AH} (hL : hh_L h) (c_0 : tr_L g d m_X0_portAt 0 [some (.int x3), some (.int x4), none, none] [] h (.inl (some (.int v0)), h1)) (hr : r = (.inl (none), hh_si h1 80 3 0 v0)) : tr_L g (d + 1) m_X5_follow 119 [some (.ref 1080), w1, w2, some (.int x3), some (.int x4), w5, w6, w7] [] h r := by
  refine tr_s (.aload_n 0) 1 120 [some (.ref 1080), w1, w2, some (.int x3), some (.int x4), w5, w6, w7] [.ref 1080] h rfl rfl rfl ?_
  refine tr_s (.iload_n 3) 1 121 [some (.ref 1080), w1, w2, some (.int x3), some (.int x4), w5, w6, w7] [.int x3, .ref 1080] h rfl rfl rfl ?_
  refine tr_s (.iload 4) 2 123 [some (.ref 1080), w1, w2, some (.int x3), some (.int x4), w5, w6, w7] [.int x4, .int x3, .ref 1080] h rfl rfl rfl ?_
  refine tr_call (.invokestatic 54) 54 3 2 0 m_X0_portAt [.int x3, .int x4] [.ref 1080] (some (.int v0)) h1 rfl rfl rfl rfl rfl rfl rfl rfl rfl (tr_cok rfl (Or.inl rfl)) c_0 ?_
  have hL0 := c_0.2
  refine tl_pf hL0 9 80 3 0 [0, 0, 0, 0] v0 .int rfl rfl rfl rfl rfl tr_oki ?_
  have hL1 := hh_L_si (sl := 0) (x := v0) hL0 (show hh_t[80]? = some (.inr (3, [0, 0, 0, 0])) from rfl) rfl
  exact tl_ret hL1 .return_ 1 none rfl rfl rfl rfl hr
theorem sg_X5_follow_130 {g : tr_g} {d : Nat} {h : ev_AH} {r : ev_O × ev_AH} {w2 w3 w6 : Option Value} {x4 x5 x7 : Int32} (hL : hh_L h) (o2 : tr_ow w2 = true) (k : tr_L g d m_X5_follow 34 [some (.ref 1080), some (.ref 1001), w2, some (.int x7), some (.int x4), some (.int (x5 + 1)), w6, some (.int x7)] [] h r) : tr_L g d m_X5_follow 130 [some (.ref 1080), some (.ref 1001), w2, w3, some (.int x4), some (.int x5), w6, some (.int x7)] [] h r := by
  refine tr_s (.iload 7) 2 132 [some (.ref 1080), some (.ref 1001), w2, w3, some (.int x4), some (.int x5), w6, some (.int x7)] [.int x7] h rfl rfl rfl ?_
  refine tr_st (.istore_n 3) 1 3 0 (.int x7) rfl rfl rfl rfl rfl rfl (tr_sok (Nat.le_of_ble_eq_true rfl) rfl o2) ?_
  refine tr_inc 5 1 x5 1 (by decide) rfl rfl rfl ?_
  refine tr_goto (-102) 34 rfl rfl rfl ?_
  exact k
theorem sg_X5_follow_139 {g : tr_g} {d : Nat} {h : ev_AH} {r : ev_O × ev_AH} {w0 w1 w2 w3 w4 w5 w6 w7 : Option Value} (hL : hh_L h) (hr : r = (.inl (none), h)) : tr_L g d m_X5_follow 139 [w0, w1, w2, w3, w4, w5, w6, w7] [] h r := by
  exact tl_ret hL .return_ 1 none rfl rfl rfl rfl hr
theorem sg_X4_joinAll_0 {g : tr_g} {d : Nat} {h : ev_AH} {r : ev_O × ev_AH} (hL : hh_L h) (k : tr_L g d m_X4_joinAll 2 [some (.ref 1081), some (.ref 1001), some (.int 0)] [] h r) : tr_L g d m_X4_joinAll 0 [some (.ref 1081), some (.ref 1001), none] [] h r := by
  refine tr_ic 0 0 (by decide) rfl ?_
  refine tr_st (.istore_n 2) 1 2 0 (.int 0) rfl rfl rfl rfl rfl rfl rfl ?_
  exact k
theorem sg_X4_joinAll_2 {g : tr_g} {d : Nat} {h : ev_AH} {r : ev_O × ev_AH} {x2 : Int32} (hL : hh_L h) (t : 140 ≤ x2 → tr_L g d m_X4_joinAll 24 [some (.ref 1081), some (.ref 1001), some (.int x2)] [] h r) (f : x2 < 140 → tr_L g d m_X4_joinAll 11 [some (.ref 1081), some (.ref 1001), some (.int x2)] [] h r) : tr_L g d m_X4_joinAll 2 [some (.ref 1081), some (.ref 1001), some (.int x2)] [] h r := by
  refine tr_s (.iload_n 2) 1 3 [some (.ref 1081), some (.ref 1001), some (.int x2)] [.int x2] h rfl rfl rfl ?_
  refine tr_s (.aload_n 0) 1 4 [some (.ref 1081), some (.ref 1001), some (.int x2)] [.ref 1081, .int x2] h rfl rfl rfl ?_
  refine tl_gr hL 9 81 4 0 82 [1082] rfl rfl rfl rfl ?_
  refine tl_al hL 82 0 140 rfl rfl (by decide) 140 (by decide) ?_
  exact tr_if2 .ge 16 24 x2 140 rfl rfl rfl (fun hc => t ((tr_ge hc).1 rfl)) (fun hc => f ((tr_ge hc).2 rfl))
theorem sg_X4_joinAll_11 {g : tr_g} {d : Nat} {h : ev_AH} {r : ev_O × ev_AH} {x2 : Int32} {j0 : Nat} (hL : hh_L h) (e0 : x2 = Int32.ofNat j0) (b0 : j0 < 140) (k : tr_L g d m_X4_joinAll 2 [some (.ref 1081), some (.ref 1001), some (.int (x2 + 1))] [] (hh_sa h 82 0 ((hh_a h 82).set j0 x2)) r) : tr_L g d m_X4_joinAll 11 [some (.ref 1081), some (.ref 1001), some (.int x2)] [] h r := by
  refine tr_s (.aload_n 0) 1 12 [some (.ref 1081), some (.ref 1001), some (.int x2)] [.ref 1081] h rfl rfl rfl ?_
  refine tl_gr hL 9 81 4 0 82 [1082] rfl rfl rfl rfl ?_
  refine tr_s (.iload_n 2) 1 16 [some (.ref 1081), some (.ref 1001), some (.int x2)] [.int x2, .ref 1082] h rfl rfl rfl ?_
  refine tr_s (.iload_n 2) 1 17 [some (.ref 1081), some (.ref 1001), some (.int x2)] [.int x2, .int x2, .ref 1082] h rfl rfl rfl ?_
  refine tl_ias hL 82 140 j0 x2 x2 rfl rfl e0 b0 (by decide) ?_
  have hL0 := hh_L_ss (j := j0) (x := x2) hL (show hh_t[82]? = some (.inl (0, 140)) from rfl)
  refine tr_inc 2 1 x2 1 (by decide) rfl rfl rfl ?_
  refine tr_goto (-19) 2 rfl rfl rfl ?_
  exact k
theorem sg_X4_joinAll_24 {g : tr_g} {d : Nat} {h : ev_AH} {r : ev_O × ev_AH} {w2 : Option Value} (hL : hh_L h) (k : tr_L g d m_X4_joinAll 26 [some (.ref 1081), some (.ref 1001), some (.int 0)] [] h r) : tr_L g d m_X4_joinAll 24 [some (.ref 1081), some (.ref 1001), w2] [] h r := by
  refine tr_ic 0 0 (by decide) rfl ?_
  refine tr_st (.istore_n 2) 1 2 0 (.int 0) rfl rfl rfl rfl rfl rfl rfl ?_
  exact k
theorem sg_X4_joinAll_26 {g : tr_g} {d : Nat} {h : ev_AH} {r : ev_O × ev_AH} {x2 : Int32} (hL : hh_L h) (t : 35 ≤ x2 → tr_L g d m_X4_joinAll 63 [some (.ref 1081), some (.ref 1001), some (.int x2)] [] h r) (f : x2 < 35 → tr_L g d m_X4_joinAll 32 [some (.ref 1081), some (.ref 1001), some (.int x2)] [] h r) : tr_L g d m_X4_joinAll 26 [some (.ref 1081), some (.ref 1001), some (.int x2)] [] h r := by
  refine tr_s (.iload_n 2) 1 27 [some (.ref 1081), some (.ref 1001), some (.int x2)] [.int x2] h rfl rfl rfl ?_
  refine tr_bi 35 35 (by decide) rfl ?_
  exact tr_if2 .ge 34 63 x2 35 rfl rfl rfl (fun hc => t ((tr_ge hc).1 rfl)) (fun hc => f ((tr_ge hc).2 rfl))
theorem sg_X4_joinAll_32 {g : tr_g} {d : Nat} {h : ev_AH} {r : ev_O × ev_AH} {x2 v0 : Int32} {h1 h2 h3 h4 : ev_AH} (hL : hh_L h) (c_0 : tr_L g d m_X4_joinToNeighbour 0 [some (.ref 1081), some (.int x2), some (.int 1), none] [] h (.inl none, h1)) (c_1 : tr_L g d m_X4_joinToNeighbour 0 [some (.ref 1081), some (.int x2), some (.int 2), none] [] h1 (.inl none, h2)) (c_2 : tr_L g d m_X8_at_ 0 [some (.ref 1002), some (.int x2)] [] h2 (.inl (some (.int v0)), h3)) (c_3 : tr_L g d m_X4_joinWithin 0 [some (.ref 1081), some (.int x2), some (.int v0), none, none] [] h3 (.inl none, h4)) (k : tr_L g (d + 1) m_X4_joinAll 26 [some (.ref 1081), some (.ref 1001), some (.int (x2 + 1))] [] h4 r) : tr_L g (d + 1) m_X4_joinAll 32 [some (.ref 1081), some (.ref 1001), some (.int x2)] [] h r := by
  refine tr_s (.aload_n 0) 1 33 [some (.ref 1081), some (.ref 1001), some (.int x2)] [.ref 1081] h rfl rfl rfl ?_
  refine tr_s (.iload_n 2) 1 34 [some (.ref 1081), some (.ref 1001), some (.int x2)] [.int x2, .ref 1081] h rfl rfl rfl ?_
  refine tr_ic 1 1 (by decide) rfl ?_
  refine tr_call (.invokevirtual 15) 15 0 2 4 m_X4_joinToNeighbour [.ref 1081, .int x2, .int 1] [] none h1 rfl rfl rfl rfl rfl rfl rfl rfl rfl (tr_cok rfl (Or.inr ⟨_, _, rfl, tr_rc (hh_rd (hh_obj hL (k := 81) rfl).1) (by decide)⟩)) c_0 ?_
  have hL0 := c_0.2
  refine tr_s (.aload_n 0) 1 39 [some (.ref 1081), some (.ref 1001), some (.int x2)] [.ref 1081] h1 rfl rfl rfl ?_
  refine tr_s (.iload_n 2) 1 40 [some (.ref 1081), some (.ref 1001), some (.int x2)] [.int x2, .ref 1081] h1 rfl rfl rfl ?_
  refine tr_ic 2 2 (by decide) rfl ?_
  refine tr_call (.invokevirtual 15) 15 0 2 4 m_X4_joinToNeighbour [.ref 1081, .int x2, .int 2] [] none h2 rfl rfl rfl rfl rfl rfl rfl rfl rfl (tr_cok rfl (Or.inr ⟨_, _, rfl, tr_rc (hh_rd (hh_obj hL0 (k := 81) rfl).1) (by decide)⟩)) c_1 ?_
  have hL1 := c_1.2
  refine tr_s (.aload_n 0) 1 45 [some (.ref 1081), some (.ref 1001), some (.int x2)] [.ref 1081] h2 rfl rfl rfl ?_
  refine tr_s (.iload_n 2) 1 46 [some (.ref 1081), some (.ref 1001), some (.int x2)] [.int x2, .ref 1081] h2 rfl rfl rfl ?_
  refine tr_s (.aload_n 1) 1 47 [some (.ref 1081), some (.ref 1001), some (.int x2)] [.ref 1001, .int x2, .ref 1081] h2 rfl rfl rfl ?_
  refine tl_gr hL1 19 1 1 0 2 [1002, 1003, 1004, 1005, 1006, 1007, 0, 0, 0, 0, 0, 0, 0, 0] rfl rfl rfl rfl ?_
  refine tr_s (.iload_n 2) 1 51 [some (.ref 1081), some (.ref 1001), some (.int x2)] [.int x2, .ref 1002, .int x2, .ref 1081] h2 rfl rfl rfl ?_
  refine tr_call (.invokestatic 25) 25 3 2 0 m_X8_at_ [.ref 1002, .int x2] [.int x2, .ref 1081] (some (.int v0)) h3 rfl rfl rfl rfl rfl rfl rfl rfl rfl (tr_cok rfl (Or.inl rfl)) c_2 ?_
  have hL2 := c_2.2
  refine tr_call (.invokevirtual 29) 29 0 2 4 m_X4_joinWithin [.ref 1081, .int x2, .int v0] [] none h4 rfl rfl rfl rfl rfl rfl rfl rfl rfl (tr_cok rfl (Or.inr ⟨_, _, rfl, tr_rc (hh_rd (hh_obj hL2 (k := 81) rfl).1) (by decide)⟩)) c_3 ?_
  have hL3 := c_3.2
  refine tr_inc 2 1 x2 1 (by decide) rfl rfl rfl ?_
  refine tr_goto (-34) 26 rfl rfl rfl ?_
  exact k
theorem sg_X4_joinAll_63 {g : tr_g} {d : Nat} {h : ev_AH} {r : ev_O × ev_AH} {w0 w1 w2 : Option Value} (hL : hh_L h) (hr : r = (.inl (none), h)) : tr_L g d m_X4_joinAll 63 [w0, w1, w2] [] h r := by
  exact tl_ret hL .return_ 1 none rfl rfl rfl rfl hr
theorem sg_X4_joinToNeighbour_0 {g : tr_g} {d : Nat} {h : ev_AH} {r : ev_O × ev_AH} {x1 x2 v0 : Int32} {h1 : ev_AH} (hL : hh_L h) (c_0 : tr_L g d m_X0_neighbour 0 [some (.int x1), some (.int x2), none, none] [] h (.inl (some (.int v0)), h1)) (t : v0 = (-1) → tr_L g (d + 1) m_X4_joinToNeighbour 28 [some (.ref 1081), some (.int x1), some (.int x2), some (.int v0)] [] h1 r) (f : v0 ≠ (-1) → tr_L g (d + 1) m_X4_joinToNeighbour 11 [some (.ref 1081), some (.int x1), some (.int x2), some (.int v0)] [] h1 r) : tr_L g (d + 1) m_X4_joinToNeighbour 0 [some (.ref 1081), some (.int x1), some (.int x2), none] [] h r := by
  refine tr_s (.iload_n 1) 1 1 [some (.ref 1081), some (.int x1), some (.int x2), none] [.int x1] h rfl rfl rfl ?_
  refine tr_s (.iload_n 2) 1 2 [some (.ref 1081), some (.int x1), some (.int x2), none] [.int x2, .int x1] h rfl rfl rfl ?_
  refine tr_call (.invokestatic 33) 33 3 2 0 m_X0_neighbour [.int x1, .int x2] [] (some (.int v0)) h1 rfl rfl rfl rfl rfl rfl rfl rfl rfl (tr_cok rfl (Or.inl rfl)) c_0 ?_
  have hL0 := c_0.2
  refine tr_st (.istore_n 3) 1 3 0 (.int v0) rfl rfl rfl rfl rfl rfl rfl ?_
  refine tr_s (.iload_n 3) 1 7 [some (.ref 1081), some (.int x1), some (.int x2), some (.int v0)] [.int v0] h1 rfl rfl rfl ?_
  refine tr_ic (-1) (-1) (by decide) rfl ?_
  exact tr_if2 .eq 20 28 v0 (-1) rfl rfl rfl (fun hc => t ((tr_eq hc).1 rfl)) (fun hc => f ((tr_eq hc).2 rfl))
theorem sg_X4_joinToNeighbour_11 {g : tr_g} {d : Nat} {h : ev_AH} {r : ev_O × ev_AH} {x1 x2 x3 v0 v1 v2 : Int32} {h1 h2 h3 h4 : ev_AH} (hL : hh_L h) (c_0 : tr_L g d m_X0_side 0 [some (.int x1), some (.int x2)] [] h (.inl (some (.int v0)), h1)) (c_1 : tr_L g d m_X0_opposite 0 [some (.int x2)] [] h1 (.inl (some (.int v1)), h2)) (c_2 : tr_L g d m_X0_side 0 [some (.int x3), some (.int v1)] [] h2 (.inl (some (.int v2)), h3)) (c_3 : tr_L g d m_X4_join 0 [some (.ref 1081), some (.int v0), some (.int v2)] [] h3 (.inl none, h4)) (hr : r = (.inl (none), h4)) : tr_L g (d + 1) m_X4_joinToNeighbour 11 [some (.ref 1081), some (.int x1), some (.int x2), some (.int x3)] [] h r := by
  refine tr_s (.aload_n 0) 1 12 [some (.ref 1081), some (.int x1), some (.int x2), some (.int x3)] [.ref 1081] h rfl rfl rfl ?_
  refine tr_s (.iload_n 1) 1 13 [some (.ref 1081), some (.int x1), some (.int x2), some (.int x3)] [.int x1, .ref 1081] h rfl rfl rfl ?_
  refine tr_s (.iload_n 2) 1 14 [some (.ref 1081), some (.int x1), some (.int x2), some (.int x3)] [.int x2, .int x1, .ref 1081] h rfl rfl rfl ?_
  refine tr_call (.invokestatic 39) 39 3 2 0 m_X0_side [.int x1, .int x2] [.ref 1081] (some (.int v0)) h1 rfl rfl rfl rfl rfl rfl rfl rfl rfl (tr_cok rfl (Or.inl rfl)) c_0 ?_
  have hL0 := c_0.2
  refine tr_s (.iload_n 3) 1 18 [some (.ref 1081), some (.int x1), some (.int x2), some (.int x3)] [.int x3, .int v0, .ref 1081] h1 rfl rfl rfl ?_
  refine tr_s (.iload_n 2) 1 19 [some (.ref 1081), some (.int x1), some (.int x2), some (.int x3)] [.int x2, .int x3, .int v0, .ref 1081] h1 rfl rfl rfl ?_
  refine tr_call (.invokestatic 42) 42 3 1 0 m_X0_opposite [.int x2] [.int x3, .int v0, .ref 1081] (some (.int v1)) h2 rfl rfl rfl rfl rfl rfl rfl rfl rfl (tr_cok rfl (Or.inl rfl)) c_1 ?_
  have hL1 := c_1.2
  refine tr_call (.invokestatic 39) 39 3 2 0 m_X0_side [.int x3, .int v1] [.int v0, .ref 1081] (some (.int v2)) h3 rfl rfl rfl rfl rfl rfl rfl rfl rfl (tr_cok rfl (Or.inl rfl)) c_2 ?_
  have hL2 := c_2.2
  refine tr_call (.invokevirtual 46) 46 0 2 4 m_X4_join [.ref 1081, .int v0, .int v2] [] none h4 rfl rfl rfl rfl rfl rfl rfl rfl rfl (tr_cok rfl (Or.inr ⟨_, _, rfl, tr_rc (hh_rd (hh_obj hL2 (k := 81) rfl).1) (by decide)⟩)) c_3 ?_
  have hL3 := c_3.2
  exact tl_ret hL3 .return_ 1 none rfl rfl rfl rfl hr
theorem sg_X4_joinToNeighbour_28 {g : tr_g} {d : Nat} {h : ev_AH} {r : ev_O × ev_AH} {w0 w1 w2 w3 : Option Value} (hL : hh_L h) (hr : r = (.inl (none), h)) : tr_L g d m_X4_joinToNeighbour 28 [w0, w1, w2, w3] [] h r := by
  exact tl_ret hL .return_ 1 none rfl rfl rfl rfl hr
theorem sg_X4_join_0 {g : tr_g} {d : Nat} {h : ev_AH} {r : ev_O × ev_AH} {x1 x2 v0 v1 : Int32} {h1 h2 h3 : ev_AH} (hL : hh_L h) (c_0 : tr_L g d m_X4_rootOf 0 [some (.ref 1081), some (.int x1), none, none] [] h (.inl (some (.int v0)), h1)) (c_1 : tr_L g d m_X4_rootOf 0 [some (.ref 1081), some (.int x2), none, none] [] h1 (.inl (some (.int v1)), h2)) (c_2 : tr_L g d m_X8_put 0 [some (.ref 1082), some (.int v0), some (.int v1)] [] h2 (.inl none, h3)) (hr : r = (.inl (none), h3)) : tr_L g (d + 1) m_X4_join 0 [some (.ref 1081), some (.int x1), some (.int x2)] [] h r := by
  refine tr_s (.aload_n 0) 1 1 [some (.ref 1081), some (.int x1), some (.int x2)] [.ref 1081] h rfl rfl rfl ?_
  refine tl_gr hL 9 81 4 0 82 [1082] rfl rfl rfl rfl ?_
  refine tr_s (.aload_n 0) 1 5 [some (.ref 1081), some (.int x1), some (.int x2)] [.ref 1081, .ref 1082] h rfl rfl rfl ?_
  refine tr_s (.iload_n 1) 1 6 [some (.ref 1081), some (.int x1), some (.int x2)] [.int x1, .ref 1081, .ref 1082] h rfl rfl rfl ?_
  refine tr_call (.invokevirtual 53) 53 0 1 4 m_X4_rootOf [.ref 1081, .int x1] [.ref 1082] (some (.int v0)) h1 rfl rfl rfl rfl rfl rfl rfl rfl rfl (tr_cok rfl (Or.inr ⟨_, _, rfl, tr_rc (hh_rd (hh_obj hL (k := 81) rfl).1) (by decide)⟩)) c_0 ?_
  have hL0 := c_0.2
  refine tr_s (.aload_n 0) 1 10 [some (.ref 1081), some (.int x1), some (.int x2)] [.ref 1081, .int v0, .ref 1082] h1 rfl rfl rfl ?_
  refine tr_s (.iload_n 2) 1 11 [some (.ref 1081), some (.int x1), some (.int x2)] [.int x2, .ref 1081, .int v0, .ref 1082] h1 rfl rfl rfl ?_
  refine tr_call (.invokevirtual 53) 53 0 1 4 m_X4_rootOf [.ref 1081, .int x2] [.int v0, .ref 1082] (some (.int v1)) h2 rfl rfl rfl rfl rfl rfl rfl rfl rfl (tr_cok rfl (Or.inr ⟨_, _, rfl, tr_rc (hh_rd (hh_obj hL0 (k := 81) rfl).1) (by decide)⟩)) c_1 ?_
  have hL1 := c_1.2
  refine tr_call (.invokestatic 56) 56 3 3 0 m_X8_put [.ref 1082, .int v0, .int v1] [] none h3 rfl rfl rfl rfl rfl rfl rfl rfl rfl (tr_cok rfl (Or.inl rfl)) c_2 ?_
  have hL2 := c_2.2
  exact tl_ret hL2 .return_ 1 none rfl rfl rfl rfl hr
theorem sg_X4_rootOf_0 {g : tr_g} {d : Nat} {h : ev_AH} {r : ev_O × ev_AH} {x1 : Int32} (hL : hh_L h) (k : tr_L g d m_X4_rootOf 4 [some (.ref 1081), some (.int x1), some (.int x1), some (.int 0)] [] h r) : tr_L g d m_X4_rootOf 0 [some (.ref 1081), some (.int x1), none, none] [] h r := by
  refine tr_s (.iload_n 1) 1 1 [some (.ref 1081), some (.int x1), none, none] [.int x1] h rfl rfl rfl ?_
  refine tr_st (.istore_n 2) 1 2 0 (.int x1) rfl rfl rfl rfl rfl rfl rfl ?_
  refine tr_ic 0 0 (by decide) rfl ?_
  refine tr_st (.istore_n 3) 1 3 0 (.int 0) rfl rfl rfl rfl rfl rfl rfl ?_
  exact k
theorem sg_X4_rootOf_4 {g : tr_g} {d : Nat} {h : ev_AH} {r : ev_O × ev_AH} {w1 : Option Value} {x2 x3 : Int32} (hL : hh_L h) (t : 140 ≤ x3 → tr_L g d m_X4_rootOf 38 [some (.ref 1081), w1, some (.int x2), some (.int x3)] [] h r) (f : x3 < 140 → tr_L g d m_X4_rootOf 11 [some (.ref 1081), w1, some (.int x2), some (.int x3)] [] h r) : tr_L g d m_X4_rootOf 4 [some (.ref 1081), w1, some (.int x2), some (.int x3)] [] h r := by
  refine tr_s (.iload_n 3) 1 5 [some (.ref 1081), w1, some (.int x2), some (.int x3)] [.int x3] h rfl rfl rfl ?_
  refine tr_si 140 140 (by decide) rfl ?_
  exact tr_if2 .ge 30 38 x3 140 rfl rfl rfl (fun hc => t ((tr_ge hc).1 rfl)) (fun hc => f ((tr_ge hc).2 rfl))
theorem sg_X4_rootOf_11 {g : tr_g} {d : Nat} {h : ev_AH} {r : ev_O × ev_AH} {w1 : Option Value} {x2 x3 v0 : Int32} {h1 : ev_AH} (hL : hh_L h) (c_0 : tr_L g d m_X8_at 0 [some (.ref 1082), some (.int x2)] [] h (.inl (some (.int v0)), h1)) (t : v0 = x2 → tr_L g (d + 1) m_X4_rootOf 38 [some (.ref 1081), w1, some (.int x2), some (.int x3)] [] h1 r) (f : v0 ≠ x2 → tr_L g (d + 1) m_X4_rootOf 23 [some (.ref 1081), w1, some (.int x2), some (.int x3)] [] h1 r) : tr_L g (d + 1) m_X4_rootOf 11 [some (.ref 1081), w1, some (.int x2), some (.int x3)] [] h r := by
  refine tr_s (.aload_n 0) 1 12 [some (.ref 1081), w1, some (.int x2), some (.int x3)] [.ref 1081] h rfl rfl rfl ?_
  refine tl_gr hL 9 81 4 0 82 [1082] rfl rfl rfl rfl ?_
  refine tr_s (.iload_n 2) 1 16 [some (.ref 1081), w1, some (.int x2), some (.int x3)] [.int x2, .ref 1082] h rfl rfl rfl ?_
  refine tr_call (.invokestatic 60) 60 3 2 0 m_X8_at [.ref 1082, .int x2] [] (some (.int v0)) h1 rfl rfl rfl rfl rfl rfl rfl rfl rfl (tr_cok rfl (Or.inl rfl)) c_0 ?_
  have hL0 := c_0.2
  refine tr_s (.iload_n 2) 1 20 [some (.ref 1081), w1, some (.int x2), some (.int x3)] [.int x2, .int v0] h1 rfl rfl rfl ?_
  exact tr_if2 .eq 18 38 v0 x2 rfl rfl rfl (fun hc => t ((tr_eq hc).1 rfl)) (fun hc => f ((tr_eq hc).2 rfl))
theorem sg_X4_rootOf_23 {g : tr_g} {d : Nat} {h : ev_AH} {r : ev_O × ev_AH} {w1 : Option Value} {x2 x3 v0 : Int32} {h1 : ev_AH} (hL : hh_L h) (c_0 : tr_L g d m_X8_at 0 [some (.ref 1082), some (.int x2)] [] h (.inl (some (.int v0)), h1)) (o1 : tr_ow w1 = true) (k : tr_L g (d + 1) m_X4_rootOf 4 [some (.ref 1081), w1, some (.int v0), some (.int (x3 + 1))] [] h1 r) : tr_L g (d + 1) m_X4_rootOf 23 [some (.ref 1081), w1, some (.int x2), some (.int x3)] [] h r := by
  refine tr_s (.aload_n 0) 1 24 [some (.ref 1081), w1, some (.int x2), some (.int x3)] [.ref 1081] h rfl rfl rfl ?_
  refine tl_gr hL 9 81 4 0 82 [1082] rfl rfl rfl rfl ?_
  refine tr_s (.iload_n 2) 1 28 [some (.ref 1081), w1, some (.int x2), some (.int x3)] [.int x2, .ref 1082] h rfl rfl rfl ?_
  refine tr_call (.invokestatic 60) 60 3 2 0 m_X8_at [.ref 1082, .int x2] [] (some (.int v0)) h1 rfl rfl rfl rfl rfl rfl rfl rfl rfl (tr_cok rfl (Or.inl rfl)) c_0 ?_
  have hL0 := c_0.2
  refine tr_st (.istore_n 2) 1 2 0 (.int v0) rfl rfl rfl rfl rfl rfl (tr_sok (Nat.le_of_ble_eq_true rfl) rfl o1) ?_
  refine tr_inc 3 1 x3 1 (by decide) rfl rfl rfl ?_
  refine tr_goto (-31) 4 rfl rfl rfl ?_
  exact k
theorem sg_X4_rootOf_38 {g : tr_g} {d : Nat} {h : ev_AH} {r : ev_O × ev_AH} {w0 w1 w3 : Option Value} {x2 : Int32} (hL : hh_L h) (hr : r = (.inl (some (.int x2)), h)) : tr_L g d m_X4_rootOf 38 [w0, w1, some (.int x2), w3] [] h r := by
  refine tr_s (.iload_n 2) 1 39 [w0, w1, some (.int x2), w3] [.int x2] h rfl rfl rfl ?_
  exact tl_ret hL .ireturn 1 (some (.int x2)) rfl rfl rfl rfl hr
theorem sg_X4_joinWithin_0 {g : tr_g} {d : Nat} {h : ev_AH} {r : ev_O × ev_AH} {x1 x2 : Int32} (hL : hh_L h) (k : tr_L g d m_X4_joinWithin 2 [some (.ref 1081), some (.int x1), some (.int x2), some (.int 0), none] [] h r) : tr_L g d m_X4_joinWithin 0 [some (.ref 1081), some (.int x1), some (.int x2), none, none] [] h r := by
  refine tr_ic 0 0 (by decide) rfl ?_
  refine tr_st (.istore_n 3) 1 3 0 (.int 0) rfl rfl rfl rfl rfl rfl rfl ?_
  exact k
theorem sg_X4_joinWithin_2 {g : tr_g} {d : Nat} {h : ev_AH} {r : ev_O × ev_AH} {x1 x2 x3 : Int32} {w4 : Option Value} (hL : hh_L h) (t : 4 ≤ x3 → tr_L g d m_X4_joinWithin 44 [some (.ref 1081), some (.int x1), some (.int x2), some (.int x3), w4] [] h r) (f : x3 < 4 → tr_L g d m_X4_joinWithin 7 [some (.ref 1081), some (.int x1), some (.int x2), some (.int x3), w4] [] h r) : tr_L g d m_X4_joinWithin 2 [some (.ref 1081), some (.int x1), some (.int x2), some (.int x3), w4] [] h r := by
  refine tr_s (.iload_n 3) 1 3 [some (.ref 1081), some (.int x1), some (.int x2), some (.int x3), w4] [.int x3] h rfl rfl rfl ?_
  refine tr_ic 4 4 (by decide) rfl ?_
  exact tr_if2 .ge 40 44 x3 4 rfl rfl rfl (fun hc => t ((tr_ge hc).1 rfl)) (fun hc => f ((tr_ge hc).2 rfl))
theorem sg_X4_joinWithin_7 {g : tr_g} {d : Nat} {h : ev_AH} {r : ev_O × ev_AH} {x1 x2 x3 : Int32} {w4 : Option Value} (hL : hh_L h) (t : x2 = 99 → tr_L g d m_X4_joinWithin 44 [some (.ref 1081), some (.int x1), some (.int x2), some (.int x3), w4] [] h r) (f : x2 ≠ 99 → tr_L g d m_X4_joinWithin 13 [some (.ref 1081), some (.int x1), some (.int x2), some (.int x3), w4] [] h r) : tr_L g d m_X4_joinWithin 7 [some (.ref 1081), some (.int x1), some (.int x2), some (.int x3), w4] [] h r := by
  refine tr_s (.iload_n 2) 1 8 [some (.ref 1081), some (.int x1), some (.int x2), some (.int x3), w4] [.int x2] h rfl rfl rfl ?_
  refine tr_bi 99 99 (by decide) rfl ?_
  exact tr_if2 .eq 34 44 x2 99 rfl rfl rfl (fun hc => t ((tr_eq hc).1 rfl)) (fun hc => f ((tr_eq hc).2 rfl))
theorem sg_X4_joinWithin_13 {g : tr_g} {d : Nat} {h : ev_AH} {r : ev_O × ev_AH} {x1 x2 x3 v0 v1 v2 v3 : Int32} {w4 : Option Value} {h1 h2 h3 h4 h5 : ev_AH} (hL : hh_L h) (c_0 : tr_L g d m_X0_opposite 0 [some (.int x3)] [] h (.inl (some (.int v0)), h1)) (c_1 : tr_L g d m_X0_side 0 [some (.int x1), some (.int v0)] [] h1 (.inl (some (.int v1)), h2)) (c_2 : tr_L g d m_X0_reflected 0 [some (.int x2), some (.int x3)] [] h2 (.inl (some (.int v2)), h3)) (c_3 : tr_L g d m_X0_side 0 [some (.int x1), some (.int v2)] [] h3 (.inl (some (.int v3)), h4)) (c_4 : tr_L g d m_X4_join 0 [some (.ref 1081), some (.int v1), some (.int v3)] [] h4 (.inl none, h5)) (k : tr_L g (d + 1) m_X4_joinWithin 2 [some (.ref 1081), some (.int x1), some (.int x2), some (.int (x3 + 1)), some (.int v1)] [] h5 r) : tr_L g (d + 1) m_X4_joinWithin 13 [some (.ref 1081), some (.int x1), some (.int x2), some (.int x3), w4] [] h r := by
  refine tr_s (.iload_n 1) 1 14 [some (.ref 1081), some (.int x1), some (.int x2), some (.int x3), w4] [.int x1] h rfl rfl rfl ?_
  refine tr_s (.iload_n 3) 1 15 [some (.ref 1081), some (.int x1), some (.int x2), some (.int x3), w4] [.int x3, .int x1] h rfl rfl rfl ?_
  refine tr_call (.invokestatic 42) 42 3 1 0 m_X0_opposite [.int x3] [.int x1] (some (.int v0)) h1 rfl rfl rfl rfl rfl rfl rfl rfl rfl (tr_cok rfl (Or.inl rfl)) c_0 ?_
  have hL0 := c_0.2
  refine tr_call (.invokestatic 39) 39 3 2 0 m_X0_side [.int x1, .int v0] [] (some (.int v1)) h2 rfl rfl rfl rfl rfl rfl rfl rfl rfl (tr_cok rfl (Or.inl rfl)) c_1 ?_
  have hL1 := c_1.2
  refine tr_st (.istore 4) 2 4 0 (.int v1) rfl rfl rfl rfl rfl rfl rfl ?_
  refine tr_s (.aload_n 0) 1 24 [some (.ref 1081), some (.int x1), some (.int x2), some (.int x3), some (.int v1)] [.ref 1081] h2 rfl rfl rfl ?_
  refine tr_s (.iload 4) 2 26 [some (.ref 1081), some (.int x1), some (.int x2), some (.int x3), some (.int v1)] [.int v1, .ref 1081] h2 rfl rfl rfl ?_
  refine tr_s (.iload_n 1) 1 27 [some (.ref 1081), some (.int x1), some (.int x2), some (.int x3), some (.int v1)] [.int x1, .int v1, .ref 1081] h2 rfl rfl rfl ?_
  refine tr_s (.iload_n 2) 1 28 [some (.ref 1081), some (.int x1), some (.int x2), some (.int x3), some (.int v1)] [.int x2, .int x1, .int v1, .ref 1081] h2 rfl rfl rfl ?_
  refine tr_s (.iload_n 3) 1 29 [some (.ref 1081), some (.int x1), some (.int x2), some (.int x3), some (.int v1)] [.int x3, .int x2, .int x1, .int v1, .ref 1081] h2 rfl rfl rfl ?_
  refine tr_call (.invokestatic 49) 49 3 2 0 m_X0_reflected [.int x2, .int x3] [.int x1, .int v1, .ref 1081] (some (.int v2)) h3 rfl rfl rfl rfl rfl rfl rfl rfl rfl (tr_cok rfl (Or.inl rfl)) c_2 ?_
  have hL2 := c_2.2
  refine tr_call (.invokestatic 39) 39 3 2 0 m_X0_side [.int x1, .int v2] [.int v1, .ref 1081] (some (.int v3)) h4 rfl rfl rfl rfl rfl rfl rfl rfl rfl (tr_cok rfl (Or.inl rfl)) c_3 ?_
  have hL3 := c_3.2
  refine tr_call (.invokevirtual 46) 46 0 2 4 m_X4_join [.ref 1081, .int v1, .int v3] [] none h5 rfl rfl rfl rfl rfl rfl rfl rfl rfl (tr_cok rfl (Or.inr ⟨_, _, rfl, tr_rc (hh_rd (hh_obj hL3 (k := 81) rfl).1) (by decide)⟩)) c_4 ?_
  have hL4 := c_4.2
  refine tr_inc 3 1 x3 1 (by decide) rfl rfl rfl ?_
  refine tr_goto (-39) 2 rfl rfl rfl ?_
  exact k
theorem sg_X4_joinWithin_44 {g : tr_g} {d : Nat} {h : ev_AH} {r : ev_O × ev_AH} {w0 w1 w2 w3 w4 : Option Value} (hL : hh_L h) (hr : r = (.inl (none), h)) : tr_L g d m_X4_joinWithin 44 [w0, w1, w2, w3, w4] [] h r := by
  exact tl_ret hL .return_ 1 none rfl rfl rfl rfl hr
theorem sg_X4_otherEnd_0 {g : tr_g} {d : Nat} {h : ev_AH} {r : ev_O × ev_AH} {x1 v0 : Int32} {h1 : ev_AH} (hL : hh_L h) (c_0 : tr_L g d m_X4_rootAt 0 [some (.ref 1081), some (.int x1)] [] h (.inl (some (.int v0)), h1)) (k : tr_L g (d + 1) m_X4_otherEnd 8 [some (.ref 1081), some (.int x1), some (.int v0), some (.int 0)] [] h1 r) : tr_L g (d + 1) m_X4_otherEnd 0 [some (.ref 1081), some (.int x1), none, none] [] h r := by
  refine tr_s (.aload_n 0) 1 1 [some (.ref 1081), some (.int x1), none, none] [.ref 1081] h rfl rfl rfl ?_
  refine tr_s (.iload_n 1) 1 2 [some (.ref 1081), some (.int x1), none, none] [.int x1, .ref 1081] h rfl rfl rfl ?_
  refine tr_call (.invokevirtual 69) 69 0 1 4 m_X4_rootAt [.ref 1081, .int x1] [] (some (.int v0)) h1 rfl rfl rfl rfl rfl rfl rfl rfl rfl (tr_cok rfl (Or.inr ⟨_, _, rfl, tr_rc (hh_rd (hh_obj hL (k := 81) rfl).1) (by decide)⟩)) c_0 ?_
  have hL0 := c_0.2
  refine tr_st (.istore_n 2) 1 2 0 (.int v0) rfl rfl rfl rfl rfl rfl rfl ?_
  refine tr_ic 0 0 (by decide) rfl ?_
  refine tr_st (.istore_n 3) 1 3 0 (.int 0) rfl rfl rfl rfl rfl rfl rfl ?_
  exact k
theorem sg_X4_otherEnd_8 {g : tr_g} {d : Nat} {h : ev_AH} {r : ev_O × ev_AH} {x1 x2 x3 : Int32} (hL : hh_L h) (t : 24 ≤ x3 → tr_L g d m_X4_otherEnd 36 [some (.ref 1081), some (.int x1), some (.int x2), some (.int x3)] [] h r) (f : x3 < 24 → tr_L g d m_X4_otherEnd 14 [some (.ref 1081), some (.int x1), some (.int x2), some (.int x3)] [] h r) : tr_L g d m_X4_otherEnd 8 [some (.ref 1081), some (.int x1), some (.int x2), some (.int x3)] [] h r := by
  refine tr_s (.iload_n 3) 1 9 [some (.ref 1081), some (.int x1), some (.int x2), some (.int x3)] [.int x3] h rfl rfl rfl ?_
  refine tr_bi 24 24 (by decide) rfl ?_
  exact tr_if2 .ge 25 36 x3 24 rfl rfl rfl (fun hc => t ((tr_ge hc).1 rfl)) (fun hc => f ((tr_ge hc).2 rfl))
theorem sg_X4_otherEnd_14 {g : tr_g} {d : Nat} {h : ev_AH} {r : ev_O × ev_AH} {x1 x2 x3 : Int32} (hL : hh_L h) (t : x3 = x1 → tr_L g d m_X4_otherEnd 30 [some (.ref 1081), some (.int x1), some (.int x2), some (.int x3)] [] h r) (f : x3 ≠ x1 → tr_L g d m_X4_otherEnd 19 [some (.ref 1081), some (.int x1), some (.int x2), some (.int x3)] [] h r) : tr_L g d m_X4_otherEnd 14 [some (.ref 1081), some (.int x1), some (.int x2), some (.int x3)] [] h r := by
  refine tr_s (.iload_n 3) 1 15 [some (.ref 1081), some (.int x1), some (.int x2), some (.int x3)] [.int x3] h rfl rfl rfl ?_
  refine tr_s (.iload_n 1) 1 16 [some (.ref 1081), some (.int x1), some (.int x2), some (.int x3)] [.int x1, .int x3] h rfl rfl rfl ?_
  exact tr_if2 .eq 14 30 x3 x1 rfl rfl rfl (fun hc => t ((tr_eq hc).1 rfl)) (fun hc => f ((tr_eq hc).2 rfl))
theorem sg_X4_otherEnd_19 {g : tr_g} {d : Nat} {h : ev_AH} {r : ev_O × ev_AH} {x1 x2 x3 v0 : Int32} {h1 : ev_AH} (hL : hh_L h) (c_0 : tr_L g d m_X4_rootAt 0 [some (.ref 1081), some (.int x3)] [] h (.inl (some (.int v0)), h1)) (t : v0 ≠ x2 → tr_L g (d + 1) m_X4_otherEnd 30 [some (.ref 1081), some (.int x1), some (.int x2), some (.int x3)] [] h1 r) (f : v0 = x2 → tr_L g (d + 1) m_X4_otherEnd 28 [some (.ref 1081), some (.int x1), some (.int x2), some (.int x3)] [] h1 r) : tr_L g (d + 1) m_X4_otherEnd 19 [some (.ref 1081), some (.int x1), some (.int x2), some (.int x3)] [] h r := by
  refine tr_s (.aload_n 0) 1 20 [some (.ref 1081), some (.int x1), some (.int x2), some (.int x3)] [.ref 1081] h rfl rfl rfl ?_
  refine tr_s (.iload_n 3) 1 21 [some (.ref 1081), some (.int x1), some (.int x2), some (.int x3)] [.int x3, .ref 1081] h rfl rfl rfl ?_
  refine tr_call (.invokevirtual 69) 69 0 1 4 m_X4_rootAt [.ref 1081, .int x3] [] (some (.int v0)) h1 rfl rfl rfl rfl rfl rfl rfl rfl rfl (tr_cok rfl (Or.inr ⟨_, _, rfl, tr_rc (hh_rd (hh_obj hL (k := 81) rfl).1) (by decide)⟩)) c_0 ?_
  have hL0 := c_0.2
  refine tr_s (.iload_n 2) 1 25 [some (.ref 1081), some (.int x1), some (.int x2), some (.int x3)] [.int x2, .int v0] h1 rfl rfl rfl ?_
  exact tr_if2 .ne 5 30 v0 x2 rfl rfl rfl (fun hc => t ((tr_ne hc).1 rfl)) (fun hc => f ((tr_ne hc).2 rfl))
theorem sg_X4_otherEnd_28 {g : tr_g} {d : Nat} {h : ev_AH} {r : ev_O × ev_AH} {w0 w1 w2 : Option Value} {x3 : Int32} (hL : hh_L h) (hr : r = (.inl (some (.int x3)), h)) : tr_L g d m_X4_otherEnd 28 [w0, w1, w2, some (.int x3)] [] h r := by
  refine tr_s (.iload_n 3) 1 29 [w0, w1, w2, some (.int x3)] [.int x3] h rfl rfl rfl ?_
  exact tl_ret hL .ireturn 1 (some (.int x3)) rfl rfl rfl rfl hr
theorem sg_X4_otherEnd_30 {g : tr_g} {d : Nat} {h : ev_AH} {r : ev_O × ev_AH} {x1 x2 x3 : Int32} (hL : hh_L h) (k : tr_L g d m_X4_otherEnd 8 [some (.ref 1081), some (.int x1), some (.int x2), some (.int (x3 + 1))] [] h r) : tr_L g d m_X4_otherEnd 30 [some (.ref 1081), some (.int x1), some (.int x2), some (.int x3)] [] h r := by
  refine tr_inc 3 1 x3 1 (by decide) rfl rfl rfl ?_
  refine tr_goto (-25) 8 rfl rfl rfl ?_
  exact k
theorem sg_X4_otherEnd_36 {g : tr_g} {d : Nat} {h : ev_AH} {r : ev_O × ev_AH} {w0 w1 w2 w3 : Option Value} (hL : hh_L h) (hr : r = (.inl (some (.int (-1))), h)) : tr_L g d m_X4_otherEnd 36 [w0, w1, w2, w3] [] h r := by
  refine tr_ic (-1) (-1) (by decide) rfl ?_
  exact tl_ret hL .ireturn 1 (some (.int (-1))) rfl rfl rfl rfl hr
theorem sg_X4_rootAt_0 {g : tr_g} {d : Nat} {h : ev_AH} {r : ev_O × ev_AH} {x1 v0 v1 v2 v3 v4 : Int32} {h1 h2 h3 h4 h5 : ev_AH} (hL : hh_L h) (c_0 : tr_L g d m_X0_cellAt 0 [some (.int x1)] [] h (.inl (some (.int v0)), h1)) (c_1 : tr_L g d m_X0_directionAt 0 [some (.int x1)] [] h1 (.inl (some (.int v1)), h2)) (c_2 : tr_L g d m_X0_opposite 0 [some (.int v1)] [] h2 (.inl (some (.int v2)), h3)) (c_3 : tr_L g d m_X0_side 0 [some (.int v0), some (.int v2)] [] h3 (.inl (some (.int v3)), h4)) (c_4 : tr_L g d m_X4_rootOf 0 [some (.ref 1081), some (.int v3), none, none] [] h4 (.inl (some (.int v4)), h5)) (hr : r = (.inl (some (.int v4)), h5)) : tr_L g (d + 1) m_X4_rootAt 0 [some (.ref 1081), some (.int x1)] [] h r := by
  refine tr_s (.aload_n 0) 1 1 [some (.ref 1081), some (.int x1)] [.ref 1081] h rfl rfl rfl ?_
  refine tr_s (.iload_n 1) 1 2 [some (.ref 1081), some (.int x1)] [.int x1, .ref 1081] h rfl rfl rfl ?_
  refine tr_call (.invokestatic 63) 63 3 1 0 m_X0_cellAt [.int x1] [.ref 1081] (some (.int v0)) h1 rfl rfl rfl rfl rfl rfl rfl rfl rfl (tr_cok rfl (Or.inl rfl)) c_0 ?_
  have hL0 := c_0.2
  refine tr_s (.iload_n 1) 1 6 [some (.ref 1081), some (.int x1)] [.int x1, .int v0, .ref 1081] h1 rfl rfl rfl ?_
  refine tr_call (.invokestatic 66) 66 3 1 0 m_X0_directionAt [.int x1] [.int v0, .ref 1081] (some (.int v1)) h2 rfl rfl rfl rfl rfl rfl rfl rfl rfl (tr_cok rfl (Or.inl rfl)) c_1 ?_
  have hL1 := c_1.2
  refine tr_call (.invokestatic 42) 42 3 1 0 m_X0_opposite [.int v1] [.int v0, .ref 1081] (some (.int v2)) h3 rfl rfl rfl rfl rfl rfl rfl rfl rfl (tr_cok rfl (Or.inl rfl)) c_2 ?_
  have hL2 := c_2.2
  refine tr_call (.invokestatic 39) 39 3 2 0 m_X0_side [.int v0, .int v2] [.ref 1081] (some (.int v3)) h4 rfl rfl rfl rfl rfl rfl rfl rfl rfl (tr_cok rfl (Or.inl rfl)) c_3 ?_
  have hL3 := c_3.2
  refine tr_call (.invokevirtual 53) 53 0 1 4 m_X4_rootOf [.ref 1081, .int v3] [] (some (.int v4)) h5 rfl rfl rfl rfl rfl rfl rfl rfl rfl (tr_cok rfl (Or.inr ⟨_, _, rfl, tr_rc (hh_rd (hh_obj hL3 (k := 81) rfl).1) (by decide)⟩)) c_4 ?_
  have hL4 := c_4.2
  exact tl_ret hL4 .ireturn 1 (some (.int v4)) rfl rfl rfl rfl hr
theorem sg_X7_voteInRounds_0 {g : tr_g} {d : Nat} {h : ev_AH} {r : ev_O × ev_AH} (hL : hh_L h) (k : tr_L g d m_X7_voteInRounds 5 [some (.ref 1089), some (.ref 1001), some (.int 15), some (.int 1), none] [] h r) : tr_L g d m_X7_voteInRounds 0 [some (.ref 1089), some (.ref 1001), none, none, none] [] h r := by
  refine tr_bi 15 15 (by decide) rfl ?_
  refine tr_st (.istore_n 2) 1 2 0 (.int 15) rfl rfl rfl rfl rfl rfl rfl ?_
  refine tr_ic 1 1 (by decide) rfl ?_
  refine tr_st (.istore_n 3) 1 3 0 (.int 1) rfl rfl rfl rfl rfl rfl rfl ?_
  exact k
theorem sg_X7_voteInRounds_5 {g : tr_g} {d : Nat} {h : ev_AH} {r : ev_O × ev_AH} {x2 x3 : Int32} {w4 : Option Value} (hL : hh_L h) (t : 4 < x3 → tr_L g d m_X7_voteInRounds 73 [some (.ref 1089), some (.ref 1001), some (.int x2), some (.int x3), w4] [] h r) (f : x3 ≤ 4 → tr_L g d m_X7_voteInRounds 10 [some (.ref 1089), some (.ref 1001), some (.int x2), some (.int x3), w4] [] h r) : tr_L g d m_X7_voteInRounds 5 [some (.ref 1089), some (.ref 1001), some (.int x2), some (.int x3), w4] [] h r := by
  refine tr_s (.iload_n 3) 1 6 [some (.ref 1089), some (.ref 1001), some (.int x2), some (.int x3), w4] [.int x3] h rfl rfl rfl ?_
  refine tr_ic 4 4 (by decide) rfl ?_
  exact tr_if2 .gt 66 73 x3 4 rfl rfl rfl (fun hc => t ((tr_gt hc).1 rfl)) (fun hc => f ((tr_gt hc).2 rfl))
theorem sg_X7_voteInRounds_10 {g : tr_g} {d : Nat} {h : ev_AH} {r : ev_O × ev_AH} {x2 x3 : Int32} {w4 : Option Value} {h1 : ev_AH} (hL : hh_L h) (c_0 : tr_L g d m_X7_countBallots 0 [some (.ref 1089), some (.ref 1001), some (.int x2), none, none] [] (hh_si h 89 6 3 x3) (.inl none, h1)) (k : tr_L g (d + 1) m_X7_voteInRounds 24 [some (.ref 1089), some (.ref 1001), some (.int x2), some (.int x3), some (.int 0)] [] h1 r) : tr_L g (d + 1) m_X7_voteInRounds 10 [some (.ref 1089), some (.ref 1001), some (.int x2), some (.int x3), w4] [] h r := by
  refine tr_s (.aload_n 0) 1 11 [some (.ref 1089), some (.ref 1001), some (.int x2), some (.int x3), w4] [.ref 1089] h rfl rfl rfl ?_
  refine tr_s (.iload_n 3) 1 12 [some (.ref 1089), some (.ref 1001), some (.int x2), some (.int x3), w4] [.int x3, .ref 1089] h rfl rfl rfl ?_
  refine tl_pf hL 21 89 6 3 [1090, 1091, 1092, 0] x3 .int rfl rfl rfl rfl rfl tr_oki ?_
  have hL0 := hh_L_si (sl := 3) (x := x3) hL (show hh_t[89]? = some (.inr (6, [1090, 1091, 1092, 0])) from rfl) rfl
  refine tr_s (.aload_n 0) 1 16 [some (.ref 1089), some (.ref 1001), some (.int x2), some (.int x3), w4] [.ref 1089] (hh_si h 89 6 3 x3) rfl rfl rfl ?_
  refine tr_s (.aload_n 1) 1 17 [some (.ref 1089), some (.ref 1001), some (.int x2), some (.int x3), w4] [.ref 1001, .ref 1089] (hh_si h 89 6 3 x3) rfl rfl rfl ?_
  refine tr_s (.iload_n 2) 1 18 [some (.ref 1089), some (.ref 1001), some (.int x2), some (.int x3), w4] [.int x2, .ref 1001, .ref 1089] (hh_si h 89 6 3 x3) rfl rfl rfl ?_
  refine tr_call (.invokevirtual 41) 41 0 2 6 m_X7_countBallots [.ref 1089, .ref 1001, .int x2] [] none h1 rfl rfl rfl rfl rfl rfl rfl rfl rfl (tr_cok rfl (Or.inr ⟨_, _, rfl, tr_rc (hh_rd (hh_obj hL0 (k := 89) rfl).1) (by decide)⟩)) c_0 ?_
  have hL1 := c_0.2
  refine tr_ic 0 0 (by decide) rfl ?_
  refine tr_st (.istore 4) 2 4 0 (.int 0) rfl rfl rfl rfl rfl rfl rfl ?_
  exact k
theorem sg_X7_voteInRounds_24 {g : tr_g} {d : Nat} {h : ev_AH} {r : ev_O × ev_AH} {x2 x3 x4 : Int32} (hL : hh_L h) (t : 4 ≤ x4 → tr_L g d m_X7_voteInRounds 57 [some (.ref 1089), some (.ref 1001), some (.int x2), some (.int x3), some (.int x4)] [] h r) (f : x4 < 4 → tr_L g d m_X7_voteInRounds 30 [some (.ref 1089), some (.ref 1001), some (.int x2), some (.int x3), some (.int x4)] [] h r) : tr_L g d m_X7_voteInRounds 24 [some (.ref 1089), some (.ref 1001), some (.int x2), some (.int x3), some (.int x4)] [] h r := by
  refine tr_s (.iload 4) 2 26 [some (.ref 1089), some (.ref 1001), some (.int x2), some (.int x3), some (.int x4)] [.int x4] h rfl rfl rfl ?_
  refine tr_ic 4 4 (by decide) rfl ?_
  exact tr_if2 .ge 30 57 x4 4 rfl rfl rfl (fun hc => t ((tr_ge hc).1 rfl)) (fun hc => f ((tr_ge hc).2 rfl))
theorem sg_X7_voteInRounds_30 {g : tr_g} {d : Nat} {h : ev_AH} {r : ev_O × ev_AH} {x2 x3 x4 v0 : Int32} {h1 : ev_AH} (hL : hh_L h) (c_0 : tr_L g d m_X8_at 0 [some (.ref 1092), some (.int x4)] [] h (.inl (some (.int v0)), h1)) (t : (2 * v0) ≤ (hh_i h1 1 6) → tr_L g (d + 1) m_X7_voteInRounds 51 [some (.ref 1089), some (.ref 1001), some (.int x2), some (.int x3), some (.int x4)] [] h1 r) (f : (hh_i h1 1 6) < (2 * v0) → tr_L g (d + 1) m_X7_voteInRounds 48 [some (.ref 1089), some (.ref 1001), some (.int x2), some (.int x3), some (.int x4)] [] h1 r) : tr_L g (d + 1) m_X7_voteInRounds 30 [some (.ref 1089), some (.ref 1001), some (.int x2), some (.int x3), some (.int x4)] [] h r := by
  refine tr_ic 2 2 (by decide) rfl ?_
  refine tr_s (.aload_n 0) 1 32 [some (.ref 1089), some (.ref 1001), some (.int x2), some (.int x3), some (.int x4)] [.ref 1089, .int 2] h rfl rfl rfl ?_
  refine tl_gr hL 18 89 6 2 92 [1090, 1091, 1092, 0] rfl rfl rfl rfl ?_
  refine tr_s (.iload 4) 2 37 [some (.ref 1089), some (.ref 1001), some (.int x2), some (.int x3), some (.int x4)] [.int x4, .ref 1092, .int 2] h rfl rfl rfl ?_
  refine tr_call (.invokestatic 45) 45 3 2 0 m_X8_at [.ref 1092, .int x4] [.int 2] (some (.int v0)) h1 rfl rfl rfl rfl rfl rfl rfl rfl rfl (tr_cok rfl (Or.inl rfl)) c_0 ?_
  have hL0 := c_0.2
  refine tr_s .imul 1 41 [some (.ref 1089), some (.ref 1001), some (.int x2), some (.int x3), some (.int x4)] [.int (2 * v0)] h1 rfl rfl rfl ?_
  refine tr_s (.aload_n 1) 1 42 [some (.ref 1089), some (.ref 1001), some (.int x2), some (.int x3), some (.int x4)] [.ref 1001, .int (2 * v0)] h1 rfl rfl rfl ?_
  refine tl_gi hL0 25 1 1 6 [1002, 1003, 1004, 1005, 1006, 1007, 0, 0, 0, 0, 0, 0, 0, 0] rfl rfl rfl rfl ?_
  exact tr_if2 .le 6 51 (2 * v0) (hh_i h1 1 6) rfl rfl rfl (fun hc => t ((tr_le hc).1 rfl)) (fun hc => f ((tr_le hc).2 rfl))
theorem sg_X7_voteInRounds_48 {g : tr_g} {d : Nat} {h : ev_AH} {r : ev_O × ev_AH} {w0 w1 w2 w3 : Option Value} {x4 : Int32} (hL : hh_L h) (hr : r = (.inl (some (.int x4)), h)) : tr_L g d m_X7_voteInRounds 48 [w0, w1, w2, w3, some (.int x4)] [] h r := by
  refine tr_s (.iload 4) 2 50 [w0, w1, w2, w3, some (.int x4)] [.int x4] h rfl rfl rfl ?_
  exact tl_ret hL .ireturn 1 (some (.int x4)) rfl rfl rfl rfl hr
theorem sg_X7_voteInRounds_51 {g : tr_g} {d : Nat} {h : ev_AH} {r : ev_O × ev_AH} {x2 x3 x4 : Int32} (hL : hh_L h) (k : tr_L g d m_X7_voteInRounds 24 [some (.ref 1089), some (.ref 1001), some (.int x2), some (.int x3), some (.int (x4 + 1))] [] h r) : tr_L g d m_X7_voteInRounds 51 [some (.ref 1089), some (.ref 1001), some (.int x2), some (.int x3), some (.int x4)] [] h r := by
  refine tr_inc 4 1 x4 1 (by decide) rfl rfl rfl ?_
  refine tr_goto (-30) 24 rfl rfl rfl ?_
  exact k
theorem sg_X7_voteInRounds_57 {g : tr_g} {d : Nat} {h : ev_AH} {r : ev_O × ev_AH} {x2 x3 v0 : Int32} {w4 : Option Value} {h1 : ev_AH} (hL : hh_L h) (c_0 : tr_L g d m_X7_findFewest 0 [some (.ref 1089), some (.int x2), none, none] [] h (.inl (some (.int v0)), h1)) (k : tr_L g (d + 1) m_X7_voteInRounds 5 [some (.ref 1089), some (.ref 1001), some (.int (x2 - (1 <<< (v0 &&& 31)))), some (.int (x3 + 1)), w4] [] h1 r) : tr_L g (d + 1) m_X7_voteInRounds 57 [some (.ref 1089), some (.ref 1001), some (.int x2), some (.int x3), w4] [] h r := by
  refine tr_s (.iload_n 2) 1 58 [some (.ref 1089), some (.ref 1001), some (.int x2), some (.int x3), w4] [.int x2] h rfl rfl rfl ?_
  refine tr_ic 1 1 (by decide) rfl ?_
  refine tr_s (.aload_n 0) 1 60 [some (.ref 1089), some (.ref 1001), some (.int x2), some (.int x3), w4] [.ref 1089, .int 1, .int x2] h rfl rfl rfl ?_
  refine tr_s (.iload_n 2) 1 61 [some (.ref 1089), some (.ref 1001), some (.int x2), some (.int x3), w4] [.int x2, .ref 1089, .int 1, .int x2] h rfl rfl rfl ?_
  refine tr_call (.invokevirtual 49) 49 0 1 6 m_X7_findFewest [.ref 1089, .int x2] [.int 1, .int x2] (some (.int v0)) h1 rfl rfl rfl rfl rfl rfl rfl rfl rfl (tr_cok rfl (Or.inr ⟨_, _, rfl, tr_rc (hh_rd (hh_obj hL (k := 89) rfl).1) (by decide)⟩)) c_0 ?_
  have hL0 := c_0.2
  refine tr_s .ishl 1 65 [some (.ref 1089), some (.ref 1001), some (.int x2), some (.int x3), w4] [.int (1 <<< (v0 &&& 31)), .int x2] h1 rfl rfl rfl ?_
  refine tr_s .isub 1 66 [some (.ref 1089), some (.ref 1001), some (.int x2), some (.int x3), w4] [.int (x2 - (1 <<< (v0 &&& 31)))] h1 rfl rfl rfl ?_
  refine tr_st (.istore_n 2) 1 2 0 (.int (x2 - (1 <<< (v0 &&& 31)))) rfl rfl rfl rfl rfl rfl rfl ?_
  refine tr_inc 3 1 x3 1 (by decide) rfl rfl rfl ?_
  refine tr_goto (-65) 5 rfl rfl rfl ?_
  exact k
theorem sg_X7_voteInRounds_73 {g : tr_g} {d : Nat} {h : ev_AH} {r : ev_O × ev_AH} {w0 w1 w2 w3 w4 : Option Value} (hL : hh_L h) (hr : r = (.inl (some (.int 0)), h)) : tr_L g d m_X7_voteInRounds 73 [w0, w1, w2, w3, w4] [] h r := by
  refine tr_ic 0 0 (by decide) rfl ?_
  exact tl_ret hL .ireturn 1 (some (.int 0)) rfl rfl rfl rfl hr
theorem sg_X7_countBallots_0 {g : tr_g} {d : Nat} {h : ev_AH} {r : ev_O × ev_AH} {x2 : Int32} (hL : hh_L h) (k : tr_L g d m_X7_countBallots 2 [some (.ref 1089), some (.ref 1001), some (.int x2), some (.int 0), none] [] h r) : tr_L g d m_X7_countBallots 0 [some (.ref 1089), some (.ref 1001), some (.int x2), none, none] [] h r := by
  refine tr_ic 0 0 (by decide) rfl ?_
  refine tr_st (.istore_n 3) 1 3 0 (.int 0) rfl rfl rfl rfl rfl rfl rfl ?_
  exact k
theorem sg_X7_countBallots_2 {g : tr_g} {d : Nat} {h : ev_AH} {r : ev_O × ev_AH} {x2 x3 : Int32} {w4 : Option Value} (hL : hh_L h) (t : 4 ≤ x3 → tr_L g d m_X7_countBallots 22 [some (.ref 1089), some (.ref 1001), some (.int x2), some (.int x3), w4] [] h r) (f : x3 < 4 → tr_L g d m_X7_countBallots 7 [some (.ref 1089), some (.ref 1001), some (.int x2), some (.int x3), w4] [] h r) : tr_L g d m_X7_countBallots 2 [some (.ref 1089), some (.ref 1001), some (.int x2), some (.int x3), w4] [] h r := by
  refine tr_s (.iload_n 3) 1 3 [some (.ref 1089), some (.ref 1001), some (.int x2), some (.int x3), w4] [.int x3] h rfl rfl rfl ?_
  refine tr_ic 4 4 (by decide) rfl ?_
  exact tr_if2 .ge 18 22 x3 4 rfl rfl rfl (fun hc => t ((tr_ge hc).1 rfl)) (fun hc => f ((tr_ge hc).2 rfl))
theorem sg_X7_countBallots_7 {g : tr_g} {d : Nat} {h : ev_AH} {r : ev_O × ev_AH} {x2 x3 : Int32} {w4 : Option Value} {h1 : ev_AH} (hL : hh_L h) (c_0 : tr_L g d m_X8_put 0 [some (.ref 1092), some (.int x3), some (.int 0)] [] h (.inl none, h1)) (k : tr_L g (d + 1) m_X7_countBallots 2 [some (.ref 1089), some (.ref 1001), some (.int x2), some (.int (x3 + 1)), w4] [] h1 r) : tr_L g (d + 1) m_X7_countBallots 7 [some (.ref 1089), some (.ref 1001), some (.int x2), some (.int x3), w4] [] h r := by
  refine tr_s (.aload_n 0) 1 8 [some (.ref 1089), some (.ref 1001), some (.int x2), some (.int x3), w4] [.ref 1089] h rfl rfl rfl ?_
  refine tl_gr hL 18 89 6 2 92 [1090, 1091, 1092, 0] rfl rfl rfl rfl ?_
  refine tr_s (.iload_n 3) 1 12 [some (.ref 1089), some (.ref 1001), some (.int x2), some (.int x3), w4] [.int x3, .ref 1092] h rfl rfl rfl ?_
  refine tr_ic 0 0 (by decide) rfl ?_
  refine tr_call (.invokestatic 53) 53 3 3 0 m_X8_put [.ref 1092, .int x3, .int 0] [] none h1 rfl rfl rfl rfl rfl rfl rfl rfl rfl (tr_cok rfl (Or.inl rfl)) c_0 ?_
  have hL0 := c_0.2
  refine tr_inc 3 1 x3 1 (by decide) rfl rfl rfl ?_
  refine tr_goto (-17) 2 rfl rfl rfl ?_
  exact k
theorem sg_X7_countBallots_22 {g : tr_g} {d : Nat} {h : ev_AH} {r : ev_O × ev_AH} {x2 : Int32} {w3 w4 : Option Value} (hL : hh_L h) (k : tr_L g d m_X7_countBallots 24 [some (.ref 1089), some (.ref 1001), some (.int x2), some (.int 0), w4] [] h r) : tr_L g d m_X7_countBallots 22 [some (.ref 1089), some (.ref 1001), some (.int x2), w3, w4] [] h r := by
  refine tr_ic 0 0 (by decide) rfl ?_
  refine tr_st (.istore_n 3) 1 3 0 (.int 0) rfl rfl rfl rfl rfl rfl rfl ?_
  exact k
theorem sg_X7_countBallots_24 {g : tr_g} {d : Nat} {h : ev_AH} {r : ev_O × ev_AH} {x2 x3 : Int32} {w4 : Option Value} (hL : hh_L h) (t : (hh_i h 1 6) ≤ x3 → tr_L g d m_X7_countBallots 67 [some (.ref 1089), some (.ref 1001), some (.int x2), some (.int x3), w4] [] h r) (f : x3 < (hh_i h 1 6) → tr_L g d m_X7_countBallots 32 [some (.ref 1089), some (.ref 1001), some (.int x2), some (.int x3), w4] [] h r) : tr_L g d m_X7_countBallots 24 [some (.ref 1089), some (.ref 1001), some (.int x2), some (.int x3), w4] [] h r := by
  refine tr_s (.iload_n 3) 1 25 [some (.ref 1089), some (.ref 1001), some (.int x2), some (.int x3), w4] [.int x3] h rfl rfl rfl ?_
  refine tr_s (.aload_n 1) 1 26 [some (.ref 1089), some (.ref 1001), some (.int x2), some (.int x3), w4] [.ref 1001, .int x3] h rfl rfl rfl ?_
  refine tl_gi hL 25 1 1 6 [1002, 1003, 1004, 1005, 1006, 1007, 0, 0, 0, 0, 0, 0, 0, 0] rfl rfl rfl rfl ?_
  exact tr_if2 .ge 38 67 x3 (hh_i h 1 6) rfl rfl rfl (fun hc => t ((tr_ge hc).1 rfl)) (fun hc => f ((tr_ge hc).2 rfl))
theorem sg_X7_countBallots_32 {g : tr_g} {d : Nat} {h : ev_AH} {r : ev_O × ev_AH} {x2 x3 v0 v1 : Int32} {w4 : Option Value} {h1 h2 h3 : ev_AH} (hL : hh_L h) (c_0 : tr_L g d m_X7_findFavourite 0 [some (.ref 1089), some (.ref 1001), some (.int x3), some (.int x2), none, none] [] h (.inl (some (.int v0)), h1)) (c_1 : tr_L g d m_X8_at 0 [some (.ref 1092), some (.int v0)] [] h1 (.inl (some (.int v1)), h2)) (c_2 : tr_L g d m_X8_put 0 [some (.ref 1092), some (.int v0), some (.int (v1 + 1))] [] h2 (.inl none, h3)) (k : tr_L g (d + 1) m_X7_countBallots 24 [some (.ref 1089), some (.ref 1001), some (.int x2), some (.int (x3 + 1)), some (.int v0)] [] h3 r) : tr_L g (d + 1) m_X7_countBallots 32 [some (.ref 1089), some (.ref 1001), some (.int x2), some (.int x3), w4] [] h r := by
  refine tr_s (.aload_n 0) 1 33 [some (.ref 1089), some (.ref 1001), some (.int x2), some (.int x3), w4] [.ref 1089] h rfl rfl rfl ?_
  refine tr_s (.aload_n 1) 1 34 [some (.ref 1089), some (.ref 1001), some (.int x2), some (.int x3), w4] [.ref 1001, .ref 1089] h rfl rfl rfl ?_
  refine tr_s (.iload_n 3) 1 35 [some (.ref 1089), some (.ref 1001), some (.int x2), some (.int x3), w4] [.int x3, .ref 1001, .ref 1089] h rfl rfl rfl ?_
  refine tr_s (.iload_n 2) 1 36 [some (.ref 1089), some (.ref 1001), some (.int x2), some (.int x3), w4] [.int x2, .int x3, .ref 1001, .ref 1089] h rfl rfl rfl ?_
  refine tr_call (.invokevirtual 57) 57 0 3 6 m_X7_findFavourite [.ref 1089, .ref 1001, .int x3, .int x2] [] (some (.int v0)) h1 rfl rfl rfl rfl rfl rfl rfl rfl rfl (tr_cok rfl (Or.inr ⟨_, _, rfl, tr_rc (hh_rd (hh_obj hL (k := 89) rfl).1) (by decide)⟩)) c_0 ?_
  have hL0 := c_0.2
  refine tr_st (.istore 4) 2 4 0 (.int v0) rfl rfl rfl rfl rfl rfl rfl ?_
  refine tr_s (.aload_n 0) 1 42 [some (.ref 1089), some (.ref 1001), some (.int x2), some (.int x3), some (.int v0)] [.ref 1089] h1 rfl rfl rfl ?_
  refine tl_gr hL0 18 89 6 2 92 [1090, 1091, 1092, 0] rfl rfl rfl rfl ?_
  refine tr_s (.iload 4) 2 47 [some (.ref 1089), some (.ref 1001), some (.int x2), some (.int x3), some (.int v0)] [.int v0, .ref 1092] h1 rfl rfl rfl ?_
  refine tr_s (.aload_n 0) 1 48 [some (.ref 1089), some (.ref 1001), some (.int x2), some (.int x3), some (.int v0)] [.ref 1089, .int v0, .ref 1092] h1 rfl rfl rfl ?_
  refine tl_gr hL0 18 89 6 2 92 [1090, 1091, 1092, 0] rfl rfl rfl rfl ?_
  refine tr_s (.iload 4) 2 53 [some (.ref 1089), some (.ref 1001), some (.int x2), some (.int x3), some (.int v0)] [.int v0, .ref 1092, .int v0, .ref 1092] h1 rfl rfl rfl ?_
  refine tr_call (.invokestatic 45) 45 3 2 0 m_X8_at [.ref 1092, .int v0] [.int v0, .ref 1092] (some (.int v1)) h2 rfl rfl rfl rfl rfl rfl rfl rfl rfl (tr_cok rfl (Or.inl rfl)) c_1 ?_
  have hL1 := c_1.2
  refine tr_ic 1 1 (by decide) rfl ?_
  refine tr_s .iadd 1 58 [some (.ref 1089), some (.ref 1001), some (.int x2), some (.int x3), some (.int v0)] [.int (v1 + 1), .int v0, .ref 1092] h2 rfl rfl rfl ?_
  refine tr_call (.invokestatic 53) 53 3 3 0 m_X8_put [.ref 1092, .int v0, .int (v1 + 1)] [] none h3 rfl rfl rfl rfl rfl rfl rfl rfl rfl (tr_cok rfl (Or.inl rfl)) c_2 ?_
  have hL2 := c_2.2
  refine tr_inc 3 1 x3 1 (by decide) rfl rfl rfl ?_
  refine tr_goto (-40) 24 rfl rfl rfl ?_
  exact k
theorem sg_X7_countBallots_67 {g : tr_g} {d : Nat} {h : ev_AH} {r : ev_O × ev_AH} {w0 w1 w2 w3 w4 : Option Value} (hL : hh_L h) (hr : r = (.inl (none), h)) : tr_L g d m_X7_countBallots 67 [w0, w1, w2, w3, w4] [] h r := by
  exact tl_ret hL .return_ 1 none rfl rfl rfl rfl hr
theorem sg_X7_findFavourite_0 {g : tr_g} {d : Nat} {h : ev_AH} {r : ev_O × ev_AH} {x2 x3 : Int32} (hL : hh_L h) (k : tr_L g d m_X7_findFavourite 3 [some (.ref 1089), some (.ref 1001), some (.int x2), some (.int x3), some (.int 0), none] [] h r) : tr_L g d m_X7_findFavourite 0 [some (.ref 1089), some (.ref 1001), some (.int x2), some (.int x3), none, none] [] h r := by
  refine tr_ic 0 0 (by decide) rfl ?_
  refine tr_st (.istore 4) 2 4 0 (.int 0) rfl rfl rfl rfl rfl rfl rfl ?_
  exact k
theorem sg_X7_findFavourite_3 {g : tr_g} {d : Nat} {h : ev_AH} {r : ev_O × ev_AH} {w0 w5 : Option Value} {x2 x3 x4 : Int32} (hL : hh_L h) (t : 4 ≤ x4 → tr_L g d m_X7_findFavourite 42 [w0, some (.ref 1001), some (.int x2), some (.int x3), some (.int x4), w5] [] h r) (f : x4 < 4 → tr_L g d m_X7_findFavourite 9 [w0, some (.ref 1001), some (.int x2), some (.int x3), some (.int x4), w5] [] h r) : tr_L g d m_X7_findFavourite 3 [w0, some (.ref 1001), some (.int x2), some (.int x3), some (.int x4), w5] [] h r := by
  refine tr_s (.iload 4) 2 5 [w0, some (.ref 1001), some (.int x2), some (.int x3), some (.int x4), w5] [.int x4] h rfl rfl rfl ?_
  refine tr_ic 4 4 (by decide) rfl ?_
  exact tr_if2 .ge 36 42 x4 4 rfl rfl rfl (fun hc => t ((tr_ge hc).1 rfl)) (fun hc => f ((tr_ge hc).2 rfl))
theorem sg_X7_findFavourite_9 {g : tr_g} {d : Nat} {h : ev_AH} {r : ev_O × ev_AH} {w0 w5 : Option Value} {x2 x3 x4 v0 v1 : Int32} {h1 h2 : ev_AH} (hL : hh_L h) (c_0 : tr_L g d m_X8_at 0 [some (.ref 1004), some (.int ((4 * x2) + x4))] [] h (.inl (some (.int v0)), h1)) (c_1 : tr_L g d m_X7_isIn 0 [some (.int x3), some (.int v0)] [] h1 (.inl (some (.int v1)), h2)) (t : v1 = 0 → tr_L g (d + 1) m_X7_findFavourite 36 [w0, some (.ref 1001), some (.int x2), some (.int x3), some (.int x4), some (.int v0)] [] h2 r) (f : v1 ≠ 0 → tr_L g (d + 1) m_X7_findFavourite 33 [w0, some (.ref 1001), some (.int x2), some (.int x3), some (.int x4), some (.int v0)] [] h2 r) : tr_L g (d + 1) m_X7_findFavourite 9 [w0, some (.ref 1001), some (.int x2), some (.int x3), some (.int x4), w5] [] h r := by
  refine tr_s (.aload_n 1) 1 10 [w0, some (.ref 1001), some (.int x2), some (.int x3), some (.int x4), w5] [.ref 1001] h rfl rfl rfl ?_
  refine tl_gr hL 61 1 1 2 4 [1002, 1003, 1004, 1005, 1006, 1007, 0, 0, 0, 0, 0, 0, 0, 0] rfl rfl rfl rfl ?_
  refine tr_ic 4 4 (by decide) rfl ?_
  refine tr_s (.iload_n 2) 1 15 [w0, some (.ref 1001), some (.int x2), some (.int x3), some (.int x4), w5] [.int x2, .int 4, .ref 1004] h rfl rfl rfl ?_
  refine tr_s .imul 1 16 [w0, some (.ref 1001), some (.int x2), some (.int x3), some (.int x4), w5] [.int (4 * x2), .ref 1004] h rfl rfl rfl ?_
  refine tr_s (.iload 4) 2 18 [w0, some (.ref 1001), some (.int x2), some (.int x3), some (.int x4), w5] [.int x4, .int (4 * x2), .ref 1004] h rfl rfl rfl ?_
  refine tr_s .iadd 1 19 [w0, some (.ref 1001), some (.int x2), some (.int x3), some (.int x4), w5] [.int ((4 * x2) + x4), .ref 1004] h rfl rfl rfl ?_
  refine tr_call (.invokestatic 45) 45 3 2 0 m_X8_at [.ref 1004, .int ((4 * x2) + x4)] [] (some (.int v0)) h1 rfl rfl rfl rfl rfl rfl rfl rfl rfl (tr_cok rfl (Or.inl rfl)) c_0 ?_
  have hL0 := c_0.2
  refine tr_st (.istore 5) 2 5 0 (.int v0) rfl rfl rfl rfl rfl rfl rfl ?_
  refine tr_s (.iload_n 3) 1 25 [w0, some (.ref 1001), some (.int x2), some (.int x3), some (.int x4), some (.int v0)] [.int x3] h1 rfl rfl rfl ?_
  refine tr_s (.iload 5) 2 27 [w0, some (.ref 1001), some (.int x2), some (.int x3), some (.int x4), some (.int v0)] [.int v0, .int x3] h1 rfl rfl rfl ?_
  refine tr_call (.invokestatic 64) 64 2 2 0 m_X7_isIn [.int x3, .int v0] [] (some (.int v1)) h2 rfl rfl rfl rfl rfl rfl rfl rfl rfl (tr_cok rfl (Or.inl rfl)) c_1 ?_
  have hL1 := c_1.2
  exact tr_if1 .eq 6 36 v1 rfl rfl rfl (fun hc => t ((tr_eq hc).1 rfl)) (fun hc => f ((tr_eq hc).2 rfl))
theorem sg_X7_findFavourite_33 {g : tr_g} {d : Nat} {h : ev_AH} {r : ev_O × ev_AH} {w0 w1 w2 w3 w4 : Option Value} {x5 : Int32} (hL : hh_L h) (hr : r = (.inl (some (.int x5)), h)) : tr_L g d m_X7_findFavourite 33 [w0, w1, w2, w3, w4, some (.int x5)] [] h r := by
  refine tr_s (.iload 5) 2 35 [w0, w1, w2, w3, w4, some (.int x5)] [.int x5] h rfl rfl rfl ?_
  exact tl_ret hL .ireturn 1 (some (.int x5)) rfl rfl rfl rfl hr
theorem sg_X7_findFavourite_36 {g : tr_g} {d : Nat} {h : ev_AH} {r : ev_O × ev_AH} {w0 w5 : Option Value} {x2 x3 x4 : Int32} (hL : hh_L h) (k : tr_L g d m_X7_findFavourite 3 [w0, some (.ref 1001), some (.int x2), some (.int x3), some (.int (x4 + 1)), w5] [] h r) : tr_L g d m_X7_findFavourite 36 [w0, some (.ref 1001), some (.int x2), some (.int x3), some (.int x4), w5] [] h r := by
  refine tr_inc 4 1 x4 1 (by decide) rfl rfl rfl ?_
  refine tr_goto (-36) 3 rfl rfl rfl ?_
  exact k
theorem sg_X7_findFavourite_42 {g : tr_g} {d : Nat} {h : ev_AH} {r : ev_O × ev_AH} {w0 w1 w2 w3 w4 w5 : Option Value} (hL : hh_L h) (hr : r = (.inl (some (.int (-1))), h)) : tr_L g d m_X7_findFavourite 42 [w0, w1, w2, w3, w4, w5] [] h r := by
  refine tr_ic (-1) (-1) (by decide) rfl ?_
  exact tl_ret hL .ireturn 1 (some (.int (-1))) rfl rfl rfl rfl hr
theorem sg_X7_isIn_0 {g : tr_g} {d : Nat} {h : ev_AH} {r : ev_O × ev_AH} {x0 x1 : Int32} (hL : hh_L h) (t : ((x0 >>> (x1 &&& 31)) &&& 1) ≠ 1 → tr_L g d m_X7_isIn 13 [some (.int x0), some (.int x1)] [] h r) (f : ((x0 >>> (x1 &&& 31)) &&& 1) = 1 → tr_L g d m_X7_isIn 9 [some (.int x0), some (.int x1)] [] h r) : tr_L g d m_X7_isIn 0 [some (.int x0), some (.int x1)] [] h r := by
  refine tr_s (.iload_n 0) 1 1 [some (.int x0), some (.int x1)] [.int x0] h rfl rfl rfl ?_
  refine tr_s (.iload_n 1) 1 2 [some (.int x0), some (.int x1)] [.int x1, .int x0] h rfl rfl rfl ?_
  refine tr_s .ishr 1 3 [some (.int x0), some (.int x1)] [.int (x0 >>> (x1 &&& 31))] h rfl rfl rfl ?_
  refine tr_ic 1 1 (by decide) rfl ?_
  refine tr_s .iand 1 5 [some (.int x0), some (.int x1)] [.int ((x0 >>> (x1 &&& 31)) &&& 1)] h rfl rfl rfl ?_
  refine tr_ic 1 1 (by decide) rfl ?_
  exact tr_if2 .ne 7 13 ((x0 >>> (x1 &&& 31)) &&& 1) 1 rfl rfl rfl (fun hc => t ((tr_ne hc).1 rfl)) (fun hc => f ((tr_ne hc).2 rfl))
theorem sg_X7_isIn_9 {g : tr_g} {d : Nat} {h : ev_AH} {r : ev_O × ev_AH} {w0 w1 : Option Value} (hL : hh_L h) (hr : r = (.inl (some (.int 1)), h)) : tr_L g d m_X7_isIn 9 [w0, w1] [] h r := by
  refine tr_ic 1 1 (by decide) rfl ?_
  refine tr_goto 4 14 rfl rfl rfl ?_
  exact tl_ret hL .ireturn 1 (some (.int 1)) rfl rfl rfl rfl hr
theorem sg_X7_isIn_13 {g : tr_g} {d : Nat} {h : ev_AH} {r : ev_O × ev_AH} {w0 w1 : Option Value} (hL : hh_L h) (hr : r = (.inl (some (.int 0)), h)) : tr_L g d m_X7_isIn 13 [w0, w1] [] h r := by
  refine tr_ic 0 0 (by decide) rfl ?_
  exact tl_ret hL .ireturn 1 (some (.int 0)) rfl rfl rfl rfl hr
theorem sg_X7_findFewest_0 {g : tr_g} {d : Nat} {h : ev_AH} {r : ev_O × ev_AH} {x1 : Int32} (hL : hh_L h) (k : tr_L g d m_X7_findFewest 4 [some (.ref 1089), some (.int x1), some (.int (-1)), some (.int 0)] [] h r) : tr_L g d m_X7_findFewest 0 [some (.ref 1089), some (.int x1), none, none] [] h r := by
  refine tr_ic (-1) (-1) (by decide) rfl ?_
  refine tr_st (.istore_n 2) 1 2 0 (.int (-1)) rfl rfl rfl rfl rfl rfl rfl ?_
  refine tr_ic 0 0 (by decide) rfl ?_
  refine tr_st (.istore_n 3) 1 3 0 (.int 0) rfl rfl rfl rfl rfl rfl rfl ?_
  exact k
theorem sg_X7_findFewest_4 {g : tr_g} {d : Nat} {h : ev_AH} {r : ev_O × ev_AH} {x1 x2 x3 : Int32} (hL : hh_L h) (t : 4 ≤ x3 → tr_L g d m_X7_findFewest 49 [some (.ref 1089), some (.int x1), some (.int x2), some (.int x3)] [] h r) (f : x3 < 4 → tr_L g d m_X7_findFewest 9 [some (.ref 1089), some (.int x1), some (.int x2), some (.int x3)] [] h r) : tr_L g d m_X7_findFewest 4 [some (.ref 1089), some (.int x1), some (.int x2), some (.int x3)] [] h r := by
  refine tr_s (.iload_n 3) 1 5 [some (.ref 1089), some (.int x1), some (.int x2), some (.int x3)] [.int x3] h rfl rfl rfl ?_
  refine tr_ic 4 4 (by decide) rfl ?_
  exact tr_if2 .ge 43 49 x3 4 rfl rfl rfl (fun hc => t ((tr_ge hc).1 rfl)) (fun hc => f ((tr_ge hc).2 rfl))
theorem sg_X7_findFewest_9 {g : tr_g} {d : Nat} {h : ev_AH} {r : ev_O × ev_AH} {x1 x2 x3 v0 : Int32} {h1 : ev_AH} (hL : hh_L h) (c_0 : tr_L g d m_X7_isIn 0 [some (.int x1), some (.int x3)] [] h (.inl (some (.int v0)), h1)) (t : v0 = 0 → tr_L g (d + 1) m_X7_findFewest 43 [some (.ref 1089), some (.int x1), some (.int x2), some (.int x3)] [] h1 r) (f : v0 ≠ 0 → tr_L g (d + 1) m_X7_findFewest 17 [some (.ref 1089), some (.int x1), some (.int x2), some (.int x3)] [] h1 r) : tr_L g (d + 1) m_X7_findFewest 9 [some (.ref 1089), some (.int x1), some (.int x2), some (.int x3)] [] h r := by
  refine tr_s (.iload_n 1) 1 10 [some (.ref 1089), some (.int x1), some (.int x2), some (.int x3)] [.int x1] h rfl rfl rfl ?_
  refine tr_s (.iload_n 3) 1 11 [some (.ref 1089), some (.int x1), some (.int x2), some (.int x3)] [.int x3, .int x1] h rfl rfl rfl ?_
  refine tr_call (.invokestatic 64) 64 2 2 0 m_X7_isIn [.int x1, .int x3] [] (some (.int v0)) h1 rfl rfl rfl rfl rfl rfl rfl rfl rfl (tr_cok rfl (Or.inl rfl)) c_0 ?_
  have hL0 := c_0.2
  exact tr_if1 .eq 29 43 v0 rfl rfl rfl (fun hc => t ((tr_eq hc).1 rfl)) (fun hc => f ((tr_eq hc).2 rfl))
theorem sg_X7_findFewest_17 {g : tr_g} {d : Nat} {h : ev_AH} {r : ev_O × ev_AH} {x1 x2 x3 : Int32} (hL : hh_L h) (t : x2 = (-1) → tr_L g d m_X7_findFewest 41 [some (.ref 1089), some (.int x1), some (.int x2), some (.int x3)] [] h r) (f : x2 ≠ (-1) → tr_L g d m_X7_findFewest 22 [some (.ref 1089), some (.int x1), some (.int x2), some (.int x3)] [] h r) : tr_L g d m_X7_findFewest 17 [some (.ref 1089), some (.int x1), some (.int x2), some (.int x3)] [] h r := by
  refine tr_s (.iload_n 2) 1 18 [some (.ref 1089), some (.int x1), some (.int x2), some (.int x3)] [.int x2] h rfl rfl rfl ?_
  refine tr_ic (-1) (-1) (by decide) rfl ?_
  exact tr_if2 .eq 22 41 x2 (-1) rfl rfl rfl (fun hc => t ((tr_eq hc).1 rfl)) (fun hc => f ((tr_eq hc).2 rfl))
theorem sg_X7_findFewest_22 {g : tr_g} {d : Nat} {h : ev_AH} {r : ev_O × ev_AH} {x1 x2 x3 v0 v1 : Int32} {h1 h2 : ev_AH} (hL : hh_L h) (c_0 : tr_L g d m_X8_at 0 [some (.ref 1092), some (.int x3)] [] h (.inl (some (.int v0)), h1)) (c_1 : tr_L g d m_X8_at 0 [some (.ref 1092), some (.int x2)] [] h1 (.inl (some (.int v1)), h2)) (t : v1 < v0 → tr_L g (d + 1) m_X7_findFewest 43 [some (.ref 1089), some (.int x1), some (.int x2), some (.int x3)] [] h2 r) (f : v0 ≤ v1 → tr_L g (d + 1) m_X7_findFewest 41 [some (.ref 1089), some (.int x1), some (.int x2), some (.int x3)] [] h2 r) : tr_L g (d + 1) m_X7_findFewest 22 [some (.ref 1089), some (.int x1), some (.int x2), some (.int x3)] [] h r := by
  refine tr_s (.aload_n 0) 1 23 [some (.ref 1089), some (.int x1), some (.int x2), some (.int x3)] [.ref 1089] h rfl rfl rfl ?_
  refine tl_gr hL 18 89 6 2 92 [1090, 1091, 1092, 0] rfl rfl rfl rfl ?_
  refine tr_s (.iload_n 3) 1 27 [some (.ref 1089), some (.int x1), some (.int x2), some (.int x3)] [.int x3, .ref 1092] h rfl rfl rfl ?_
  refine tr_call (.invokestatic 45) 45 3 2 0 m_X8_at [.ref 1092, .int x3] [] (some (.int v0)) h1 rfl rfl rfl rfl rfl rfl rfl rfl rfl (tr_cok rfl (Or.inl rfl)) c_0 ?_
  have hL0 := c_0.2
  refine tr_s (.aload_n 0) 1 31 [some (.ref 1089), some (.int x1), some (.int x2), some (.int x3)] [.ref 1089, .int v0] h1 rfl rfl rfl ?_
  refine tl_gr hL0 18 89 6 2 92 [1090, 1091, 1092, 0] rfl rfl rfl rfl ?_
  refine tr_s (.iload_n 2) 1 35 [some (.ref 1089), some (.int x1), some (.int x2), some (.int x3)] [.int x2, .ref 1092, .int v0] h1 rfl rfl rfl ?_
  refine tr_call (.invokestatic 45) 45 3 2 0 m_X8_at [.ref 1092, .int x2] [.int v0] (some (.int v1)) h2 rfl rfl rfl rfl rfl rfl rfl rfl rfl (tr_cok rfl (Or.inl rfl)) c_1 ?_
  have hL1 := c_1.2
  exact tr_if2 .gt 5 43 v0 v1 rfl rfl rfl (fun hc => t ((tr_gt hc).1 rfl)) (fun hc => f ((tr_gt hc).2 rfl))
theorem sg_X7_findFewest_41 {g : tr_g} {d : Nat} {h : ev_AH} {r : ev_O × ev_AH} {x1 x3 : Int32} {w2 : Option Value} (hL : hh_L h) (k : tr_L g d m_X7_findFewest 4 [some (.ref 1089), some (.int x1), some (.int x3), some (.int (x3 + 1))] [] h r) : tr_L g d m_X7_findFewest 41 [some (.ref 1089), some (.int x1), w2, some (.int x3)] [] h r := by
  refine tr_s (.iload_n 3) 1 42 [some (.ref 1089), some (.int x1), w2, some (.int x3)] [.int x3] h rfl rfl rfl ?_
  refine tr_st (.istore_n 2) 1 2 0 (.int x3) rfl rfl rfl rfl rfl rfl rfl ?_
  refine tr_inc 3 1 x3 1 (by decide) rfl rfl rfl ?_
  refine tr_goto (-42) 4 rfl rfl rfl ?_
  exact k
theorem sg_X7_findFewest_43 {g : tr_g} {d : Nat} {h : ev_AH} {r : ev_O × ev_AH} {x1 x2 x3 : Int32} (hL : hh_L h) (k : tr_L g d m_X7_findFewest 4 [some (.ref 1089), some (.int x1), some (.int x2), some (.int (x3 + 1))] [] h r) : tr_L g d m_X7_findFewest 43 [some (.ref 1089), some (.int x1), some (.int x2), some (.int x3)] [] h r := by
  refine tr_inc 3 1 x3 1 (by decide) rfl rfl rfl ?_
  refine tr_goto (-42) 4 rfl rfl rfl ?_
  exact k
theorem sg_X7_findFewest_49 {g : tr_g} {d : Nat} {h : ev_AH} {r : ev_O × ev_AH} {w0 w1 w3 : Option Value} {x2 : Int32} (hL : hh_L h) (hr : r = (.inl (some (.int x2)), h)) : tr_L g d m_X7_findFewest 49 [w0, w1, some (.int x2), w3] [] h r := by
  refine tr_s (.iload_n 2) 1 50 [w0, w1, some (.int x2), w3] [.int x2] h rfl rfl rfl ?_
  exact tl_ret hL .ireturn 1 (some (.int x2)) rfl rfl rfl rfl hr
theorem sg_X7_findStrongest_0 {g : tr_g} {d : Nat} {h : ev_AH} {r : ev_O × ev_AH} {h1 : ev_AH} (hL : hh_L h) (c_0 : tr_L g d m_X7_fillStrengths 0 [some (.ref 1089), some (.ref 1001), none, none, none, none] [] h (.inl none, h1)) (k : tr_L g (d + 1) m_X7_findStrongest 7 [some (.ref 1089), some (.ref 1001), some (.int 0)] [] h1 r) : tr_L g (d + 1) m_X7_findStrongest 0 [some (.ref 1089), some (.ref 1001), none] [] h r := by
  refine tr_s (.aload_n 0) 1 1 [some (.ref 1089), some (.ref 1001), none] [.ref 1089] h rfl rfl rfl ?_
  refine tr_s (.aload_n 1) 1 2 [some (.ref 1089), some (.ref 1001), none] [.ref 1001, .ref 1089] h rfl rfl rfl ?_
  refine tr_call (.invokevirtual 92) 92 0 1 6 m_X7_fillStrengths [.ref 1089, .ref 1001] [] none h1 rfl rfl rfl rfl rfl rfl rfl rfl rfl (tr_cok rfl (Or.inr ⟨_, _, rfl, tr_rc (hh_rd (hh_obj hL (k := 89) rfl).1) (by decide)⟩)) c_0 ?_
  have hL0 := c_0.2
  refine tr_ic 0 0 (by decide) rfl ?_
  refine tr_st (.istore_n 2) 1 2 0 (.int 0) rfl rfl rfl rfl rfl rfl rfl ?_
  exact k
theorem sg_X7_findStrongest_7 {g : tr_g} {d : Nat} {h : ev_AH} {r : ev_O × ev_AH} {w1 : Option Value} {x2 : Int32} (hL : hh_L h) (t : 3 ≤ x2 → tr_L g d m_X7_findStrongest 28 [some (.ref 1089), w1, some (.int x2)] [] h r) (f : x2 < 3 → tr_L g d m_X7_findStrongest 12 [some (.ref 1089), w1, some (.int x2)] [] h r) : tr_L g d m_X7_findStrongest 7 [some (.ref 1089), w1, some (.int x2)] [] h r := by
  refine tr_s (.iload_n 2) 1 8 [some (.ref 1089), w1, some (.int x2)] [.int x2] h rfl rfl rfl ?_
  refine tr_ic 3 3 (by decide) rfl ?_
  exact tr_if2 .ge 19 28 x2 3 rfl rfl rfl (fun hc => t ((tr_ge hc).1 rfl)) (fun hc => f ((tr_ge hc).2 rfl))
theorem sg_X7_findStrongest_12 {g : tr_g} {d : Nat} {h : ev_AH} {r : ev_O × ev_AH} {w1 : Option Value} {x2 v0 : Int32} {h1 : ev_AH} (hL : hh_L h) (c_0 : tr_L g d m_X7_holdsAgainstAll 0 [some (.ref 1089), some (.int x2), none] [] h (.inl (some (.int v0)), h1)) (t : v0 = 0 → tr_L g (d + 1) m_X7_findStrongest 22 [some (.ref 1089), w1, some (.int x2)] [] h1 r) (f : v0 ≠ 0 → tr_L g (d + 1) m_X7_findStrongest 20 [some (.ref 1089), w1, some (.int x2)] [] h1 r) : tr_L g (d + 1) m_X7_findStrongest 12 [some (.ref 1089), w1, some (.int x2)] [] h r := by
  refine tr_s (.aload_n 0) 1 13 [some (.ref 1089), w1, some (.int x2)] [.ref 1089] h rfl rfl rfl ?_
  refine tr_s (.iload_n 2) 1 14 [some (.ref 1089), w1, some (.int x2)] [.int x2, .ref 1089] h rfl rfl rfl ?_
  refine tr_call (.invokevirtual 95) 95 0 1 6 m_X7_holdsAgainstAll [.ref 1089, .int x2] [] (some (.int v0)) h1 rfl rfl rfl rfl rfl rfl rfl rfl rfl (tr_cok rfl (Or.inr ⟨_, _, rfl, tr_rc (hh_rd (hh_obj hL (k := 89) rfl).1) (by decide)⟩)) c_0 ?_
  have hL0 := c_0.2
  exact tr_if1 .eq 5 22 v0 rfl rfl rfl (fun hc => t ((tr_eq hc).1 rfl)) (fun hc => f ((tr_eq hc).2 rfl))
theorem sg_X7_findStrongest_20 {g : tr_g} {d : Nat} {h : ev_AH} {r : ev_O × ev_AH} {w0 w1 : Option Value} {x2 : Int32} (hL : hh_L h) (hr : r = (.inl (some (.int x2)), h)) : tr_L g d m_X7_findStrongest 20 [w0, w1, some (.int x2)] [] h r := by
  refine tr_s (.iload_n 2) 1 21 [w0, w1, some (.int x2)] [.int x2] h rfl rfl rfl ?_
  exact tl_ret hL .ireturn 1 (some (.int x2)) rfl rfl rfl rfl hr
theorem sg_X7_findStrongest_22 {g : tr_g} {d : Nat} {h : ev_AH} {r : ev_O × ev_AH} {w1 : Option Value} {x2 : Int32} (hL : hh_L h) (o1 : tr_ow w1 = true) (k : tr_L g d m_X7_findStrongest 7 [some (.ref 1089), w1, some (.int (x2 + 1))] [] h r) : tr_L g d m_X7_findStrongest 22 [some (.ref 1089), w1, some (.int x2)] [] h r := by
  refine tr_inc 2 1 x2 1 (by decide) rfl rfl (tr_sok (Nat.le_of_ble_eq_true rfl) rfl o1) ?_
  refine tr_goto (-18) 7 rfl rfl rfl ?_
  exact k
theorem sg_X7_findStrongest_28 {g : tr_g} {d : Nat} {h : ev_AH} {r : ev_O × ev_AH} {w0 w1 w2 : Option Value} (hL : hh_L h) (hr : r = (.inl (some (.int 3)), h)) : tr_L g d m_X7_findStrongest 28 [w0, w1, w2] [] h r := by
  refine tr_ic 3 3 (by decide) rfl ?_
  exact tl_ret hL .ireturn 1 (some (.int 3)) rfl rfl rfl rfl hr
theorem sg_X7_fillStrengths_0 {g : tr_g} {d : Nat} {h : ev_AH} {r : ev_O × ev_AH} {h1 : ev_AH} (hL : hh_L h) (c_0 : tr_L g d m_X7_countPairs 0 [some (.ref 1089), some (.ref 1001), none, none, none, none, none] [] h (.inl none, h1)) (k : tr_L g (d + 1) m_X7_fillStrengths 7 [some (.ref 1089), some (.ref 1001), some (.int 0), none, none, none] [] h1 r) : tr_L g (d + 1) m_X7_fillStrengths 0 [some (.ref 1089), some (.ref 1001), none, none, none, none] [] h r := by
  refine tr_s (.aload_n 0) 1 1 [some (.ref 1089), some (.ref 1001), none, none, none, none] [.ref 1089] h rfl rfl rfl ?_
  refine tr_s (.aload_n 1) 1 2 [some (.ref 1089), some (.ref 1001), none, none, none, none] [.ref 1001, .ref 1089] h rfl rfl rfl ?_
  refine tr_call (.invokevirtual 71) 71 0 1 6 m_X7_countPairs [.ref 1089, .ref 1001] [] none h1 rfl rfl rfl rfl rfl rfl rfl rfl rfl (tr_cok rfl (Or.inr ⟨_, _, rfl, tr_rc (hh_rd (hh_obj hL (k := 89) rfl).1) (by decide)⟩)) c_0 ?_
  have hL0 := c_0.2
  refine tr_ic 0 0 (by decide) rfl ?_
  refine tr_st (.istore_n 2) 1 2 0 (.int 0) rfl rfl rfl rfl rfl rfl rfl ?_
  exact k
theorem sg_X7_fillStrengths_7 {g : tr_g} {d : Nat} {h : ev_AH} {r : ev_O × ev_AH} {w1 w3 w4 w5 : Option Value} {x2 : Int32} (hL : hh_L h) (t : 4 ≤ x2 → tr_L g d m_X7_fillStrengths 49 [some (.ref 1089), w1, some (.int x2), w3, w4, w5] [] h r) (f : x2 < 4 → tr_L g d m_X7_fillStrengths 12 [some (.ref 1089), w1, some (.int x2), w3, w4, w5] [] h r) : tr_L g d m_X7_fillStrengths 7 [some (.ref 1089), w1, some (.int x2), w3, w4, w5] [] h r := by
  refine tr_s (.iload_n 2) 1 8 [some (.ref 1089), w1, some (.int x2), w3, w4, w5] [.int x2] h rfl rfl rfl ?_
  refine tr_ic 4 4 (by decide) rfl ?_
  exact tr_if2 .ge 40 49 x2 4 rfl rfl rfl (fun hc => t ((tr_ge hc).1 rfl)) (fun hc => f ((tr_ge hc).2 rfl))
theorem sg_X7_fillStrengths_12 {g : tr_g} {d : Nat} {h : ev_AH} {r : ev_O × ev_AH} {w1 w3 w4 w5 : Option Value} {x2 : Int32} (hL : hh_L h) (k : tr_L g d m_X7_fillStrengths 14 [some (.ref 1089), w1, some (.int x2), some (.int 0), w4, w5] [] h r) : tr_L g d m_X7_fillStrengths 12 [some (.ref 1089), w1, some (.int x2), w3, w4, w5] [] h r := by
  refine tr_ic 0 0 (by decide) rfl ?_
  refine tr_st (.istore_n 3) 1 3 0 (.int 0) rfl rfl rfl rfl rfl rfl rfl ?_
  exact k
theorem sg_X7_fillStrengths_14 {g : tr_g} {d : Nat} {h : ev_AH} {r : ev_O × ev_AH} {w1 w4 w5 : Option Value} {x2 x3 : Int32} (hL : hh_L h) (t : 4 ≤ x3 → tr_L g d m_X7_fillStrengths 43 [some (.ref 1089), w1, some (.int x2), some (.int x3), w4, w5] [] h r) (f : x3 < 4 → tr_L g d m_X7_fillStrengths 19 [some (.ref 1089), w1, some (.int x2), some (.int x3), w4, w5] [] h r) : tr_L g d m_X7_fillStrengths 14 [some (.ref 1089), w1, some (.int x2), some (.int x3), w4, w5] [] h r := by
  refine tr_s (.iload_n 3) 1 15 [some (.ref 1089), w1, some (.int x2), some (.int x3), w4, w5] [.int x3] h rfl rfl rfl ?_
  refine tr_ic 4 4 (by decide) rfl ?_
  exact tr_if2 .ge 27 43 x3 4 rfl rfl rfl (fun hc => t ((tr_ge hc).1 rfl)) (fun hc => f ((tr_ge hc).2 rfl))
theorem sg_X7_fillStrengths_19 {g : tr_g} {d : Nat} {h : ev_AH} {r : ev_O × ev_AH} {w1 w4 w5 : Option Value} {x2 x3 v0 v1 : Int32} {h1 h2 h3 : ev_AH} (hL : hh_L h) (c_0 : tr_L g d m_X7_pair 0 [some (.int x2), some (.int x3)] [] h (.inl (some (.int v0)), h1)) (c_1 : tr_L g d m_X7_victory 0 [some (.ref 1089), some (.int x2), some (.int x3), none] [] h1 (.inl (some (.int v1)), h2)) (c_2 : tr_L g d m_X8_put 0 [some (.ref 1091), some (.int v0), some (.int v1)] [] h2 (.inl none, h3)) (k : tr_L g (d + 1) m_X7_fillStrengths 14 [some (.ref 1089), w1, some (.int x2), some (.int (x3 + 1)), w4, w5] [] h3 r) : tr_L g (d + 1) m_X7_fillStrengths 19 [some (.ref 1089), w1, some (.int x2), some (.int x3), w4, w5] [] h r := by
  refine tr_s (.aload_n 0) 1 20 [some (.ref 1089), w1, some (.int x2), some (.int x3), w4, w5] [.ref 1089] h rfl rfl rfl ?_
  refine tl_gr hL 15 89 6 1 91 [1090, 1091, 1092, 0] rfl rfl rfl rfl ?_
  refine tr_s (.iload_n 2) 1 24 [some (.ref 1089), w1, some (.int x2), some (.int x3), w4, w5] [.int x2, .ref 1091] h rfl rfl rfl ?_
  refine tr_s (.iload_n 3) 1 25 [some (.ref 1089), w1, some (.int x2), some (.int x3), w4, w5] [.int x3, .int x2, .ref 1091] h rfl rfl rfl ?_
  refine tr_call (.invokestatic 68) 68 2 2 0 m_X7_pair [.int x2, .int x3] [.ref 1091] (some (.int v0)) h1 rfl rfl rfl rfl rfl rfl rfl rfl rfl (tr_cok rfl (Or.inl rfl)) c_0 ?_
  have hL0 := c_0.2
  refine tr_s (.aload_n 0) 1 29 [some (.ref 1089), w1, some (.int x2), some (.int x3), w4, w5] [.ref 1089, .int v0, .ref 1091] h1 rfl rfl rfl ?_
  refine tr_s (.iload_n 2) 1 30 [some (.ref 1089), w1, some (.int x2), some (.int x3), w4, w5] [.int x2, .ref 1089, .int v0, .ref 1091] h1 rfl rfl rfl ?_
  refine tr_s (.iload_n 3) 1 31 [some (.ref 1089), w1, some (.int x2), some (.int x3), w4, w5] [.int x3, .int x2, .ref 1089, .int v0, .ref 1091] h1 rfl rfl rfl ?_
  refine tr_call (.invokevirtual 75) 75 0 2 6 m_X7_victory [.ref 1089, .int x2, .int x3] [.int v0, .ref 1091] (some (.int v1)) h2 rfl rfl rfl rfl rfl rfl rfl rfl rfl (tr_cok rfl (Or.inr ⟨_, _, rfl, tr_rc (hh_rd (hh_obj hL0 (k := 89) rfl).1) (by decide)⟩)) c_1 ?_
  have hL1 := c_1.2
  refine tr_call (.invokestatic 53) 53 3 3 0 m_X8_put [.ref 1091, .int v0, .int v1] [] none h3 rfl rfl rfl rfl rfl rfl rfl rfl rfl (tr_cok rfl (Or.inl rfl)) c_2 ?_
  have hL2 := c_2.2
  refine tr_inc 3 1 x3 1 (by decide) rfl rfl rfl ?_
  refine tr_goto (-26) 14 rfl rfl rfl ?_
  exact k
theorem sg_X7_fillStrengths_43 {g : tr_g} {d : Nat} {h : ev_AH} {r : ev_O × ev_AH} {w1 w3 w4 w5 : Option Value} {x2 : Int32} (hL : hh_L h) (o1 : tr_ow w1 = true) (k : tr_L g d m_X7_fillStrengths 7 [some (.ref 1089), w1, some (.int (x2 + 1)), w3, w4, w5] [] h r) : tr_L g d m_X7_fillStrengths 43 [some (.ref 1089), w1, some (.int x2), w3, w4, w5] [] h r := by
  refine tr_inc 2 1 x2 1 (by decide) rfl rfl (tr_sok (Nat.le_of_ble_eq_true rfl) rfl o1) ?_
  refine tr_goto (-39) 7 rfl rfl rfl ?_
  exact k
theorem sg_X7_fillStrengths_49 {g : tr_g} {d : Nat} {h : ev_AH} {r : ev_O × ev_AH} {w1 w2 w3 w4 w5 : Option Value} (hL : hh_L h) (o1 : tr_ow w1 = true) (k : tr_L g d m_X7_fillStrengths 51 [some (.ref 1089), w1, some (.int 0), w3, w4, w5] [] h r) : tr_L g d m_X7_fillStrengths 49 [some (.ref 1089), w1, w2, w3, w4, w5] [] h r := by
  refine tr_ic 0 0 (by decide) rfl ?_
  refine tr_st (.istore_n 2) 1 2 0 (.int 0) rfl rfl rfl rfl rfl rfl (tr_sok (Nat.le_of_ble_eq_true rfl) rfl o1) ?_
  exact k
theorem sg_X7_fillStrengths_51 {g : tr_g} {d : Nat} {h : ev_AH} {r : ev_O × ev_AH} {w1 w3 w4 w5 : Option Value} {x2 : Int32} (hL : hh_L h) (t : 4 ≤ x2 → tr_L g d m_X7_fillStrengths 133 [some (.ref 1089), w1, some (.int x2), w3, w4, w5] [] h r) (f : x2 < 4 → tr_L g d m_X7_fillStrengths 56 [some (.ref 1089), w1, some (.int x2), w3, w4, w5] [] h r) : tr_L g d m_X7_fillStrengths 51 [some (.ref 1089), w1, some (.int x2), w3, w4, w5] [] h r := by
  refine tr_s (.iload_n 2) 1 52 [some (.ref 1089), w1, some (.int x2), w3, w4, w5] [.int x2] h rfl rfl rfl ?_
  refine tr_ic 4 4 (by decide) rfl ?_
  exact tr_if2 .ge 80 133 x2 4 rfl rfl rfl (fun hc => t ((tr_ge hc).1 rfl)) (fun hc => f ((tr_ge hc).2 rfl))
theorem sg_X7_fillStrengths_56 {g : tr_g} {d : Nat} {h : ev_AH} {r : ev_O × ev_AH} {w1 w3 w4 w5 : Option Value} {x2 : Int32} (hL : hh_L h) (k : tr_L g d m_X7_fillStrengths 58 [some (.ref 1089), w1, some (.int x2), some (.int 0), w4, w5] [] h r) : tr_L g d m_X7_fillStrengths 56 [some (.ref 1089), w1, some (.int x2), w3, w4, w5] [] h r := by
  refine tr_ic 0 0 (by decide) rfl ?_
  refine tr_st (.istore_n 3) 1 3 0 (.int 0) rfl rfl rfl rfl rfl rfl rfl ?_
  exact k
theorem sg_X7_fillStrengths_58 {g : tr_g} {d : Nat} {h : ev_AH} {r : ev_O × ev_AH} {w1 w4 w5 : Option Value} {x2 x3 : Int32} (hL : hh_L h) (t : 4 ≤ x3 → tr_L g d m_X7_fillStrengths 127 [some (.ref 1089), w1, some (.int x2), some (.int x3), w4, w5] [] h r) (f : x3 < 4 → tr_L g d m_X7_fillStrengths 63 [some (.ref 1089), w1, some (.int x2), some (.int x3), w4, w5] [] h r) : tr_L g d m_X7_fillStrengths 58 [some (.ref 1089), w1, some (.int x2), some (.int x3), w4, w5] [] h r := by
  refine tr_s (.iload_n 3) 1 59 [some (.ref 1089), w1, some (.int x2), some (.int x3), w4, w5] [.int x3] h rfl rfl rfl ?_
  refine tr_ic 4 4 (by decide) rfl ?_
  exact tr_if2 .ge 67 127 x3 4 rfl rfl rfl (fun hc => t ((tr_ge hc).1 rfl)) (fun hc => f ((tr_ge hc).2 rfl))
theorem sg_X7_fillStrengths_63 {g : tr_g} {d : Nat} {h : ev_AH} {r : ev_O × ev_AH} {w1 w4 w5 : Option Value} {x2 x3 : Int32} (hL : hh_L h) (k : tr_L g d m_X7_fillStrengths 66 [some (.ref 1089), w1, some (.int x2), some (.int x3), some (.int 0), w5] [] h r) : tr_L g d m_X7_fillStrengths 63 [some (.ref 1089), w1, some (.int x2), some (.int x3), w4, w5] [] h r := by
  refine tr_ic 0 0 (by decide) rfl ?_
  refine tr_st (.istore 4) 2 4 0 (.int 0) rfl rfl rfl rfl rfl rfl rfl ?_
  exact k
theorem sg_X7_fillStrengths_66 {g : tr_g} {d : Nat} {h : ev_AH} {r : ev_O × ev_AH} {w1 w5 : Option Value} {x2 x3 x4 : Int32} (hL : hh_L h) (t : 4 ≤ x4 → tr_L g d m_X7_fillStrengths 121 [some (.ref 1089), w1, some (.int x2), some (.int x3), some (.int x4), w5] [] h r) (f : x4 < 4 → tr_L g d m_X7_fillStrengths 72 [some (.ref 1089), w1, some (.int x2), some (.int x3), some (.int x4), w5] [] h r) : tr_L g d m_X7_fillStrengths 66 [some (.ref 1089), w1, some (.int x2), some (.int x3), some (.int x4), w5] [] h r := by
  refine tr_s (.iload 4) 2 68 [some (.ref 1089), w1, some (.int x2), some (.int x3), some (.int x4), w5] [.int x4] h rfl rfl rfl ?_
  refine tr_ic 4 4 (by decide) rfl ?_
  exact tr_if2 .ge 52 121 x4 4 rfl rfl rfl (fun hc => t ((tr_ge hc).1 rfl)) (fun hc => f ((tr_ge hc).2 rfl))
theorem sg_X7_fillStrengths_72 {g : tr_g} {d : Nat} {h : ev_AH} {r : ev_O × ev_AH} {w1 w5 : Option Value} {x2 x3 x4 v0 v1 v2 v3 : Int32} {h1 h2 h3 h4 h5 : ev_AH} (hL : hh_L h) (c_0 : tr_L g d m_X7_tableStrength 0 [some (.ref 1089), some (.int x3), some (.int x2)] [] h (.inl (some (.int v0)), h1)) (c_1 : tr_L g d m_X7_tableStrength 0 [some (.ref 1089), some (.int x2), some (.int x4)] [] h1 (.inl (some (.int v1)), h2)) (c_2 : tr_L g d m_X7_pair 0 [some (.int x3), some (.int x4)] [] h2 (.inl (some (.int v2)), h3)) (c_3 : tr_L g d m_X7_tableStrength 0 [some (.ref 1089), some (.int x3), some (.int x4)] [] h3 (.inl (some (.int v3)), h4)) (c_4 : tr_L g d m_X8_put 0 [some (.ref 1091), some (.int v2), some (.int (if (if v1 < v0 then v1 else v0) < v3 then v3 else (if v1 < v0 then v1 else v0)))] [] h4 (.inl none, h5)) (k : tr_L g (d + 1) m_X7_fillStrengths 66 [some (.ref 1089), w1, some (.int x2), some (.int x3), some (.int (x4 + 1)), some (.int (if v1 < v0 then v1 else v0))] [] h5 r) : tr_L g (d + 1) m_X7_fillStrengths 72 [some (.ref 1089), w1, some (.int x2), some (.int x3), some (.int x4), w5] [] h r := by
  refine tr_s (.aload_n 0) 1 73 [some (.ref 1089), w1, some (.int x2), some (.int x3), some (.int x4), w5] [.ref 1089] h rfl rfl rfl ?_
  refine tr_s (.iload_n 3) 1 74 [some (.ref 1089), w1, some (.int x2), some (.int x3), some (.int x4), w5] [.int x3, .ref 1089] h rfl rfl rfl ?_
  refine tr_s (.iload_n 2) 1 75 [some (.ref 1089), w1, some (.int x2), some (.int x3), some (.int x4), w5] [.int x2, .int x3, .ref 1089] h rfl rfl rfl ?_
  refine tr_call (.invokevirtual 78) 78 0 2 6 m_X7_tableStrength [.ref 1089, .int x3, .int x2] [] (some (.int v0)) h1 rfl rfl rfl rfl rfl rfl rfl rfl rfl (tr_cok rfl (Or.inr ⟨_, _, rfl, tr_rc (hh_rd (hh_obj hL (k := 89) rfl).1) (by decide)⟩)) c_0 ?_
  have hL0 := c_0.2
  refine tr_s (.aload_n 0) 1 79 [some (.ref 1089), w1, some (.int x2), some (.int x3), some (.int x4), w5] [.ref 1089, .int v0] h1 rfl rfl rfl ?_
  refine tr_s (.iload_n 2) 1 80 [some (.ref 1089), w1, some (.int x2), some (.int x3), some (.int x4), w5] [.int x2, .ref 1089, .int v0] h1 rfl rfl rfl ?_
  refine tr_s (.iload 4) 2 82 [some (.ref 1089), w1, some (.int x2), some (.int x3), some (.int x4), w5] [.int x4, .int x2, .ref 1089, .int v0] h1 rfl rfl rfl ?_
  refine tr_call (.invokevirtual 78) 78 0 2 6 m_X7_tableStrength [.ref 1089, .int x2, .int x4] [.int v0] (some (.int v1)) h2 rfl rfl rfl rfl rfl rfl rfl rfl rfl (tr_cok rfl (Or.inr ⟨_, _, rfl, tr_rc (hh_rd (hh_obj hL0 (k := 89) rfl).1) (by decide)⟩)) c_1 ?_
  have hL1 := c_1.2
  refine tr_na (.invokestatic 81) 81 11 2 0 ev_dum [.int (if v1 < v0 then v1 else v0)] h2 rfl rfl rfl rfl rfl rfl rfl ?_
  refine tr_st (.istore 5) 2 5 0 (.int (if v1 < v0 then v1 else v0)) rfl rfl rfl rfl rfl rfl rfl ?_
  refine tr_s (.aload_n 0) 1 91 [some (.ref 1089), w1, some (.int x2), some (.int x3), some (.int x4), some (.int (if v1 < v0 then v1 else v0))] [.ref 1089] h2 rfl rfl rfl ?_
  refine tl_gr hL1 15 89 6 1 91 [1090, 1091, 1092, 0] rfl rfl rfl rfl ?_
  refine tr_s (.iload_n 3) 1 95 [some (.ref 1089), w1, some (.int x2), some (.int x3), some (.int x4), some (.int (if v1 < v0 then v1 else v0))] [.int x3, .ref 1091] h2 rfl rfl rfl ?_
  refine tr_s (.iload 4) 2 97 [some (.ref 1089), w1, some (.int x2), some (.int x3), some (.int x4), some (.int (if v1 < v0 then v1 else v0))] [.int x4, .int x3, .ref 1091] h2 rfl rfl rfl ?_
  refine tr_call (.invokestatic 68) 68 2 2 0 m_X7_pair [.int x3, .int x4] [.ref 1091] (some (.int v2)) h3 rfl rfl rfl rfl rfl rfl rfl rfl rfl (tr_cok rfl (Or.inl rfl)) c_2 ?_
  have hL2 := c_2.2
  refine tr_s (.iload 5) 2 102 [some (.ref 1089), w1, some (.int x2), some (.int x3), some (.int x4), some (.int (if v1 < v0 then v1 else v0))] [.int (if v1 < v0 then v1 else v0), .int v2, .ref 1091] h3 rfl rfl rfl ?_
  refine tr_s (.aload_n 0) 1 103 [some (.ref 1089), w1, some (.int x2), some (.int x3), some (.int x4), some (.int (if v1 < v0 then v1 else v0))] [.ref 1089, .int (if v1 < v0 then v1 else v0), .int v2, .ref 1091] h3 rfl rfl rfl ?_
  refine tr_s (.iload_n 3) 1 104 [some (.ref 1089), w1, some (.int x2), some (.int x3), some (.int x4), some (.int (if v1 < v0 then v1 else v0))] [.int x3, .ref 1089, .int (if v1 < v0 then v1 else v0), .int v2, .ref 1091] h3 rfl rfl rfl ?_
  refine tr_s (.iload 4) 2 106 [some (.ref 1089), w1, some (.int x2), some (.int x3), some (.int x4), some (.int (if v1 < v0 then v1 else v0))] [.int x4, .int x3, .ref 1089, .int (if v1 < v0 then v1 else v0), .int v2, .ref 1091] h3 rfl rfl rfl ?_
  refine tr_call (.invokevirtual 78) 78 0 2 6 m_X7_tableStrength [.ref 1089, .int x3, .int x4] [.int (if v1 < v0 then v1 else v0), .int v2, .ref 1091] (some (.int v3)) h4 rfl rfl rfl rfl rfl rfl rfl rfl rfl (tr_cok rfl (Or.inr ⟨_, _, rfl, tr_rc (hh_rd (hh_obj hL2 (k := 89) rfl).1) (by decide)⟩)) c_3 ?_
  have hL3 := c_3.2
  refine tr_na (.invokestatic 86) 86 12 2 0 ev_dum [.int (if (if v1 < v0 then v1 else v0) < v3 then v3 else (if v1 < v0 then v1 else v0)), .int v2, .ref 1091] h4 rfl rfl rfl rfl rfl rfl rfl ?_
  refine tr_call (.invokestatic 53) 53 3 3 0 m_X8_put [.ref 1091, .int v2, .int (if (if v1 < v0 then v1 else v0) < v3 then v3 else (if v1 < v0 then v1 else v0))] [] none h5 rfl rfl rfl rfl rfl rfl rfl rfl rfl (tr_cok rfl (Or.inl rfl)) c_4 ?_
  have hL4 := c_4.2
  refine tr_inc 4 1 x4 1 (by decide) rfl rfl rfl ?_
  refine tr_goto (-52) 66 rfl rfl rfl ?_
  exact k
theorem sg_X7_fillStrengths_121 {g : tr_g} {d : Nat} {h : ev_AH} {r : ev_O × ev_AH} {w1 w4 w5 : Option Value} {x2 x3 : Int32} (hL : hh_L h) (k : tr_L g d m_X7_fillStrengths 58 [some (.ref 1089), w1, some (.int x2), some (.int (x3 + 1)), w4, w5] [] h r) : tr_L g d m_X7_fillStrengths 121 [some (.ref 1089), w1, some (.int x2), some (.int x3), w4, w5] [] h r := by
  refine tr_inc 3 1 x3 1 (by decide) rfl rfl rfl ?_
  refine tr_goto (-66) 58 rfl rfl rfl ?_
  exact k
theorem sg_X7_fillStrengths_127 {g : tr_g} {d : Nat} {h : ev_AH} {r : ev_O × ev_AH} {w1 w3 w4 w5 : Option Value} {x2 : Int32} (hL : hh_L h) (o1 : tr_ow w1 = true) (k : tr_L g d m_X7_fillStrengths 51 [some (.ref 1089), w1, some (.int (x2 + 1)), w3, w4, w5] [] h r) : tr_L g d m_X7_fillStrengths 127 [some (.ref 1089), w1, some (.int x2), w3, w4, w5] [] h r := by
  refine tr_inc 2 1 x2 1 (by decide) rfl rfl (tr_sok (Nat.le_of_ble_eq_true rfl) rfl o1) ?_
  refine tr_goto (-79) 51 rfl rfl rfl ?_
  exact k
theorem sg_X7_fillStrengths_133 {g : tr_g} {d : Nat} {h : ev_AH} {r : ev_O × ev_AH} {w0 w1 w2 w3 w4 w5 : Option Value} (hL : hh_L h) (hr : r = (.inl (none), h)) : tr_L g d m_X7_fillStrengths 133 [w0, w1, w2, w3, w4, w5] [] h r := by
  exact tl_ret hL .return_ 1 none rfl rfl rfl rfl hr
theorem sg_X7_countPairs_0 {g : tr_g} {d : Nat} {h : ev_AH} {r : ev_O × ev_AH} (hL : hh_L h) (k : tr_L g d m_X7_countPairs 2 [some (.ref 1089), some (.ref 1001), some (.int 0), none, none, none, none] [] h r) : tr_L g d m_X7_countPairs 0 [some (.ref 1089), some (.ref 1001), none, none, none, none, none] [] h r := by
  refine tr_ic 0 0 (by decide) rfl ?_
  refine tr_st (.istore_n 2) 1 2 0 (.int 0) rfl rfl rfl rfl rfl rfl rfl ?_
  exact k
theorem sg_X7_countPairs_2 {g : tr_g} {d : Nat} {h : ev_AH} {r : ev_O × ev_AH} {x2 : Int32} {w3 w4 w5 w6 : Option Value} (hL : hh_L h) (t : 16 ≤ x2 → tr_L g d m_X7_countPairs 24 [some (.ref 1089), some (.ref 1001), some (.int x2), w3, w4, w5, w6] [] h r) (f : x2 < 16 → tr_L g d m_X7_countPairs 11 [some (.ref 1089), some (.ref 1001), some (.int x2), w3, w4, w5, w6] [] h r) : tr_L g d m_X7_countPairs 2 [some (.ref 1089), some (.ref 1001), some (.int x2), w3, w4, w5, w6] [] h r := by
  refine tr_s (.iload_n 2) 1 3 [some (.ref 1089), some (.ref 1001), some (.int x2), w3, w4, w5, w6] [.int x2] h rfl rfl rfl ?_
  refine tr_s (.aload_n 0) 1 4 [some (.ref 1089), some (.ref 1001), some (.int x2), w3, w4, w5, w6] [.ref 1089, .int x2] h rfl rfl rfl ?_
  refine tl_gr hL 9 89 6 0 90 [1090, 1091, 1092, 0] rfl rfl rfl rfl ?_
  refine tl_al hL 90 0 16 rfl rfl (by decide) 16 (by decide) ?_
  exact tr_if2 .ge 16 24 x2 16 rfl rfl rfl (fun hc => t ((tr_ge hc).1 rfl)) (fun hc => f ((tr_ge hc).2 rfl))
theorem sg_X7_countPairs_11 {g : tr_g} {d : Nat} {h : ev_AH} {r : ev_O × ev_AH} {x2 : Int32} {w3 w4 w5 w6 : Option Value} {j0 : Nat} (hL : hh_L h) (e0 : x2 = Int32.ofNat j0) (b0 : j0 < 16) (k : tr_L g d m_X7_countPairs 2 [some (.ref 1089), some (.ref 1001), some (.int (x2 + 1)), w3, w4, w5, w6] [] (hh_sa h 90 0 ((hh_a h 90).set j0 0)) r) : tr_L g d m_X7_countPairs 11 [some (.ref 1089), some (.ref 1001), some (.int x2), w3, w4, w5, w6] [] h r := by
  refine tr_s (.aload_n 0) 1 12 [some (.ref 1089), some (.ref 1001), some (.int x2), w3, w4, w5, w6] [.ref 1089] h rfl rfl rfl ?_
  refine tl_gr hL 9 89 6 0 90 [1090, 1091, 1092, 0] rfl rfl rfl rfl ?_
  refine tr_s (.iload_n 2) 1 16 [some (.ref 1089), some (.ref 1001), some (.int x2), w3, w4, w5, w6] [.int x2, .ref 1090] h rfl rfl rfl ?_
  refine tr_ic 0 0 (by decide) rfl ?_
  refine tl_ias hL 90 16 j0 x2 0 rfl rfl e0 b0 (by decide) ?_
  have hL0 := hh_L_ss (j := j0) (x := 0) hL (show hh_t[90]? = some (.inl (0, 16)) from rfl)
  refine tr_inc 2 1 x2 1 (by decide) rfl rfl rfl ?_
  refine tr_goto (-19) 2 rfl rfl rfl ?_
  exact k
theorem sg_X7_countPairs_24 {g : tr_g} {d : Nat} {h : ev_AH} {r : ev_O × ev_AH} {w2 w3 w4 w5 w6 : Option Value} (hL : hh_L h) (k : tr_L g d m_X7_countPairs 26 [some (.ref 1089), some (.ref 1001), some (.int 0), w3, w4, w5, w6] [] h r) : tr_L g d m_X7_countPairs 24 [some (.ref 1089), some (.ref 1001), w2, w3, w4, w5, w6] [] h r := by
  refine tr_ic 0 0 (by decide) rfl ?_
  refine tr_st (.istore_n 2) 1 2 0 (.int 0) rfl rfl rfl rfl rfl rfl rfl ?_
  exact k
theorem sg_X7_countPairs_26 {g : tr_g} {d : Nat} {h : ev_AH} {r : ev_O × ev_AH} {x2 : Int32} {w3 w4 w5 w6 : Option Value} (hL : hh_L h) (t : (hh_i h 1 6) ≤ x2 → tr_L g d m_X7_countPairs 124 [some (.ref 1089), some (.ref 1001), some (.int x2), w3, w4, w5, w6] [] h r) (f : x2 < (hh_i h 1 6) → tr_L g d m_X7_countPairs 34 [some (.ref 1089), some (.ref 1001), some (.int x2), w3, w4, w5, w6] [] h r) : tr_L g d m_X7_countPairs 26 [some (.ref 1089), some (.ref 1001), some (.int x2), w3, w4, w5, w6] [] h r := by
  refine tr_s (.iload_n 2) 1 27 [some (.ref 1089), some (.ref 1001), some (.int x2), w3, w4, w5, w6] [.int x2] h rfl rfl rfl ?_
  refine tr_s (.aload_n 1) 1 28 [some (.ref 1089), some (.ref 1001), some (.int x2), w3, w4, w5, w6] [.ref 1001, .int x2] h rfl rfl rfl ?_
  refine tl_gi hL 25 1 1 6 [1002, 1003, 1004, 1005, 1006, 1007, 0, 0, 0, 0, 0, 0, 0, 0] rfl rfl rfl rfl ?_
  exact tr_if2 .ge 93 124 x2 (hh_i h 1 6) rfl rfl rfl (fun hc => t ((tr_ge hc).1 rfl)) (fun hc => f ((tr_ge hc).2 rfl))
theorem sg_X7_countPairs_34 {g : tr_g} {d : Nat} {h : ev_AH} {r : ev_O × ev_AH} {x2 : Int32} {w3 w4 w5 w6 : Option Value} (hL : hh_L h) (k : tr_L g d m_X7_countPairs 36 [some (.ref 1089), some (.ref 1001), some (.int x2), some (.int 0), w4, w5, w6] [] h r) : tr_L g d m_X7_countPairs 34 [some (.ref 1089), some (.ref 1001), some (.int x2), w3, w4, w5, w6] [] h r := by
  refine tr_ic 0 0 (by decide) rfl ?_
  refine tr_st (.istore_n 3) 1 3 0 (.int 0) rfl rfl rfl rfl rfl rfl rfl ?_
  exact k
theorem sg_X7_countPairs_36 {g : tr_g} {d : Nat} {h : ev_AH} {r : ev_O × ev_AH} {x2 x3 : Int32} {w4 w5 w6 : Option Value} (hL : hh_L h) (t : 4 ≤ x3 → tr_L g d m_X7_countPairs 118 [some (.ref 1089), some (.ref 1001), some (.int x2), some (.int x3), w4, w5, w6] [] h r) (f : x3 < 4 → tr_L g d m_X7_countPairs 41 [some (.ref 1089), some (.ref 1001), some (.int x2), some (.int x3), w4, w5, w6] [] h r) : tr_L g d m_X7_countPairs 36 [some (.ref 1089), some (.ref 1001), some (.int x2), some (.int x3), w4, w5, w6] [] h r := by
  refine tr_s (.iload_n 3) 1 37 [some (.ref 1089), some (.ref 1001), some (.int x2), some (.int x3), w4, w5, w6] [.int x3] h rfl rfl rfl ?_
  refine tr_ic 4 4 (by decide) rfl ?_
  exact tr_if2 .ge 80 118 x3 4 rfl rfl rfl (fun hc => t ((tr_ge hc).1 rfl)) (fun hc => f ((tr_ge hc).2 rfl))
theorem sg_X7_countPairs_41 {g : tr_g} {d : Nat} {h : ev_AH} {r : ev_O × ev_AH} {x2 x3 v0 : Int32} {w4 w5 w6 : Option Value} {h1 : ev_AH} (hL : hh_L h) (c_0 : tr_L g d m_X8_at 0 [some (.ref 1004), some (.int ((4 * x2) + x3))] [] h (.inl (some (.int v0)), h1)) (k : tr_L g (d + 1) m_X7_countPairs 60 [some (.ref 1089), some (.ref 1001), some (.int x2), some (.int x3), some (.int v0), some (.int (x3 + 1)), w6] [] h1 r) : tr_L g (d + 1) m_X7_countPairs 41 [some (.ref 1089), some (.ref 1001), some (.int x2), some (.int x3), w4, w5, w6] [] h r := by
  refine tr_s (.aload_n 1) 1 42 [some (.ref 1089), some (.ref 1001), some (.int x2), some (.int x3), w4, w5, w6] [.ref 1001] h rfl rfl rfl ?_
  refine tl_gr hL 61 1 1 2 4 [1002, 1003, 1004, 1005, 1006, 1007, 0, 0, 0, 0, 0, 0, 0, 0] rfl rfl rfl rfl ?_
  refine tr_ic 4 4 (by decide) rfl ?_
  refine tr_s (.iload_n 2) 1 47 [some (.ref 1089), some (.ref 1001), some (.int x2), some (.int x3), w4, w5, w6] [.int x2, .int 4, .ref 1004] h rfl rfl rfl ?_
  refine tr_s .imul 1 48 [some (.ref 1089), some (.ref 1001), some (.int x2), some (.int x3), w4, w5, w6] [.int (4 * x2), .ref 1004] h rfl rfl rfl ?_
  refine tr_s (.iload_n 3) 1 49 [some (.ref 1089), some (.ref 1001), some (.int x2), some (.int x3), w4, w5, w6] [.int x3, .int (4 * x2), .ref 1004] h rfl rfl rfl ?_
  refine tr_s .iadd 1 50 [some (.ref 1089), some (.ref 1001), some (.int x2), some (.int x3), w4, w5, w6] [.int ((4 * x2) + x3), .ref 1004] h rfl rfl rfl ?_
  refine tr_call (.invokestatic 45) 45 3 2 0 m_X8_at [.ref 1004, .int ((4 * x2) + x3)] [] (some (.int v0)) h1 rfl rfl rfl rfl rfl rfl rfl rfl rfl (tr_cok rfl (Or.inl rfl)) c_0 ?_
  have hL0 := c_0.2
  refine tr_st (.istore 4) 2 4 0 (.int v0) rfl rfl rfl rfl rfl rfl rfl ?_
  refine tr_s (.iload_n 3) 1 56 [some (.ref 1089), some (.ref 1001), some (.int x2), some (.int x3), some (.int v0), w5, w6] [.int x3] h1 rfl rfl rfl ?_
  refine tr_ic 1 1 (by decide) rfl ?_
  refine tr_s .iadd 1 58 [some (.ref 1089), some (.ref 1001), some (.int x2), some (.int x3), some (.int v0), w5, w6] [.int (x3 + 1)] h1 rfl rfl rfl ?_
  refine tr_st (.istore 5) 2 5 0 (.int (x3 + 1)) rfl rfl rfl rfl rfl rfl rfl ?_
  exact k
theorem sg_X7_countPairs_60 {g : tr_g} {d : Nat} {h : ev_AH} {r : ev_O × ev_AH} {x2 x3 x4 x5 : Int32} {w6 : Option Value} (hL : hh_L h) (t : 4 ≤ x5 → tr_L g d m_X7_countPairs 112 [some (.ref 1089), some (.ref 1001), some (.int x2), some (.int x3), some (.int x4), some (.int x5), w6] [] h r) (f : x5 < 4 → tr_L g d m_X7_countPairs 66 [some (.ref 1089), some (.ref 1001), some (.int x2), some (.int x3), some (.int x4), some (.int x5), w6] [] h r) : tr_L g d m_X7_countPairs 60 [some (.ref 1089), some (.ref 1001), some (.int x2), some (.int x3), some (.int x4), some (.int x5), w6] [] h r := by
  refine tr_s (.iload 5) 2 62 [some (.ref 1089), some (.ref 1001), some (.int x2), some (.int x3), some (.int x4), some (.int x5), w6] [.int x5] h rfl rfl rfl ?_
  refine tr_ic 4 4 (by decide) rfl ?_
  exact tr_if2 .ge 49 112 x5 4 rfl rfl rfl (fun hc => t ((tr_ge hc).1 rfl)) (fun hc => f ((tr_ge hc).2 rfl))
theorem sg_X7_countPairs_66 {g : tr_g} {d : Nat} {h : ev_AH} {r : ev_O × ev_AH} {x2 x3 x4 x5 v0 v1 v2 : Int32} {w6 : Option Value} {h1 h2 h3 h4 : ev_AH} (hL : hh_L h) (c_0 : tr_L g d m_X8_at 0 [some (.ref 1004), some (.int ((4 * x2) + x5))] [] h (.inl (some (.int v0)), h1)) (c_1 : tr_L g d m_X7_pair 0 [some (.int x4), some (.int v0)] [] h1 (.inl (some (.int v1)), h2)) (c_2 : tr_L g d m_X8_at 0 [some (.ref 1090), some (.int v1)] [] h2 (.inl (some (.int v2)), h3)) (c_3 : tr_L g d m_X8_put 0 [some (.ref 1090), some (.int v1), some (.int (v2 + 1))] [] h3 (.inl none, h4)) (k : tr_L g (d + 1) m_X7_countPairs 60 [some (.ref 1089), some (.ref 1001), some (.int x2), some (.int x3), some (.int x4), some (.int (x5 + 1)), some (.int v1)] [] h4 r) : tr_L g (d + 1) m_X7_countPairs 66 [some (.ref 1089), some (.ref 1001), some (.int x2), some (.int x3), some (.int x4), some (.int x5), w6] [] h r := by
  refine tr_s (.iload 4) 2 68 [some (.ref 1089), some (.ref 1001), some (.int x2), some (.int x3), some (.int x4), some (.int x5), w6] [.int x4] h rfl rfl rfl ?_
  refine tr_s (.aload_n 1) 1 69 [some (.ref 1089), some (.ref 1001), some (.int x2), some (.int x3), some (.int x4), some (.int x5), w6] [.ref 1001, .int x4] h rfl rfl rfl ?_
  refine tl_gr hL 61 1 1 2 4 [1002, 1003, 1004, 1005, 1006, 1007, 0, 0, 0, 0, 0, 0, 0, 0] rfl rfl rfl rfl ?_
  refine tr_ic 4 4 (by decide) rfl ?_
  refine tr_s (.iload_n 2) 1 74 [some (.ref 1089), some (.ref 1001), some (.int x2), some (.int x3), some (.int x4), some (.int x5), w6] [.int x2, .int 4, .ref 1004, .int x4] h rfl rfl rfl ?_
  refine tr_s .imul 1 75 [some (.ref 1089), some (.ref 1001), some (.int x2), some (.int x3), some (.int x4), some (.int x5), w6] [.int (4 * x2), .ref 1004, .int x4] h rfl rfl rfl ?_
  refine tr_s (.iload 5) 2 77 [some (.ref 1089), some (.ref 1001), some (.int x2), some (.int x3), some (.int x4), some (.int x5), w6] [.int x5, .int (4 * x2), .ref 1004, .int x4] h rfl rfl rfl ?_
  refine tr_s .iadd 1 78 [some (.ref 1089), some (.ref 1001), some (.int x2), some (.int x3), some (.int x4), some (.int x5), w6] [.int ((4 * x2) + x5), .ref 1004, .int x4] h rfl rfl rfl ?_
  refine tr_call (.invokestatic 45) 45 3 2 0 m_X8_at [.ref 1004, .int ((4 * x2) + x5)] [.int x4] (some (.int v0)) h1 rfl rfl rfl rfl rfl rfl rfl rfl rfl (tr_cok rfl (Or.inl rfl)) c_0 ?_
  have hL0 := c_0.2
  refine tr_call (.invokestatic 68) 68 2 2 0 m_X7_pair [.int x4, .int v0] [] (some (.int v1)) h2 rfl rfl rfl rfl rfl rfl rfl rfl rfl (tr_cok rfl (Or.inl rfl)) c_1 ?_
  have hL1 := c_1.2
  refine tr_st (.istore 6) 2 6 0 (.int v1) rfl rfl rfl rfl rfl rfl rfl ?_
  refine tr_s (.aload_n 0) 1 87 [some (.ref 1089), some (.ref 1001), some (.int x2), some (.int x3), some (.int x4), some (.int x5), some (.int v1)] [.ref 1089] h2 rfl rfl rfl ?_
  refine tl_gr hL1 9 89 6 0 90 [1090, 1091, 1092, 0] rfl rfl rfl rfl ?_
  refine tr_s (.iload 6) 2 92 [some (.ref 1089), some (.ref 1001), some (.int x2), some (.int x3), some (.int x4), some (.int x5), some (.int v1)] [.int v1, .ref 1090] h2 rfl rfl rfl ?_
  refine tr_s (.aload_n 0) 1 93 [some (.ref 1089), some (.ref 1001), some (.int x2), some (.int x3), some (.int x4), some (.int x5), some (.int v1)] [.ref 1089, .int v1, .ref 1090] h2 rfl rfl rfl ?_
  refine tl_gr hL1 9 89 6 0 90 [1090, 1091, 1092, 0] rfl rfl rfl rfl ?_
  refine tr_s (.iload 6) 2 98 [some (.ref 1089), some (.ref 1001), some (.int x2), some (.int x3), some (.int x4), some (.int x5), some (.int v1)] [.int v1, .ref 1090, .int v1, .ref 1090] h2 rfl rfl rfl ?_
  refine tr_call (.invokestatic 45) 45 3 2 0 m_X8_at [.ref 1090, .int v1] [.int v1, .ref 1090] (some (.int v2)) h3 rfl rfl rfl rfl rfl rfl rfl rfl rfl (tr_cok rfl (Or.inl rfl)) c_2 ?_
  have hL2 := c_2.2
  refine tr_ic 1 1 (by decide) rfl ?_
  refine tr_s .iadd 1 103 [some (.ref 1089), some (.ref 1001), some (.int x2), some (.int x3), some (.int x4), some (.int x5), some (.int v1)] [.int (v2 + 1), .int v1, .ref 1090] h3 rfl rfl rfl ?_
  refine tr_call (.invokestatic 53) 53 3 3 0 m_X8_put [.ref 1090, .int v1, .int (v2 + 1)] [] none h4 rfl rfl rfl rfl rfl rfl rfl rfl rfl (tr_cok rfl (Or.inl rfl)) c_3 ?_
  have hL3 := c_3.2
  refine tr_inc 5 1 x5 1 (by decide) rfl rfl rfl ?_
  refine tr_goto (-49) 60 rfl rfl rfl ?_
  exact k
theorem sg_X7_countPairs_112 {g : tr_g} {d : Nat} {h : ev_AH} {r : ev_O × ev_AH} {x2 x3 : Int32} {w4 w5 w6 : Option Value} (hL : hh_L h) (k : tr_L g d m_X7_countPairs 36 [some (.ref 1089), some (.ref 1001), some (.int x2), some (.int (x3 + 1)), w4, w5, w6] [] h r) : tr_L g d m_X7_countPairs 112 [some (.ref 1089), some (.ref 1001), some (.int x2), some (.int x3), w4, w5, w6] [] h r := by
  refine tr_inc 3 1 x3 1 (by decide) rfl rfl rfl ?_
  refine tr_goto (-79) 36 rfl rfl rfl ?_
  exact k
theorem sg_X7_countPairs_118 {g : tr_g} {d : Nat} {h : ev_AH} {r : ev_O × ev_AH} {x2 : Int32} {w3 w4 w5 w6 : Option Value} (hL : hh_L h) (k : tr_L g d m_X7_countPairs 26 [some (.ref 1089), some (.ref 1001), some (.int (x2 + 1)), w3, w4, w5, w6] [] h r) : tr_L g d m_X7_countPairs 118 [some (.ref 1089), some (.ref 1001), some (.int x2), w3, w4, w5, w6] [] h r := by
  refine tr_inc 2 1 x2 1 (by decide) rfl rfl rfl ?_
  refine tr_goto (-95) 26 rfl rfl rfl ?_
  exact k
theorem sg_X7_countPairs_124 {g : tr_g} {d : Nat} {h : ev_AH} {r : ev_O × ev_AH} {w0 w1 w2 w3 w4 w5 w6 : Option Value} (hL : hh_L h) (hr : r = (.inl (none), h)) : tr_L g d m_X7_countPairs 124 [w0, w1, w2, w3, w4, w5, w6] [] h r := by
  exact tl_ret hL .return_ 1 none rfl rfl rfl rfl hr
theorem sg_X7_pair_0 {g : tr_g} {d : Nat} {h : ev_AH} {r : ev_O × ev_AH} {x0 x1 : Int32} (hL : hh_L h) (hr : r = (.inl (some (.int ((4 * x0) + x1))), h)) : tr_L g d m_X7_pair 0 [some (.int x0), some (.int x1)] [] h r := by
  refine tr_ic 4 4 (by decide) rfl ?_
  refine tr_s (.iload_n 0) 1 2 [some (.int x0), some (.int x1)] [.int x0, .int 4] h rfl rfl rfl ?_
  refine tr_s .imul 1 3 [some (.int x0), some (.int x1)] [.int (4 * x0)] h rfl rfl rfl ?_
  refine tr_s (.iload_n 1) 1 4 [some (.int x0), some (.int x1)] [.int x1, .int (4 * x0)] h rfl rfl rfl ?_
  refine tr_s .iadd 1 5 [some (.int x0), some (.int x1)] [.int ((4 * x0) + x1)] h rfl rfl rfl ?_
  exact tl_ret hL .ireturn 1 (some (.int ((4 * x0) + x1))) rfl rfl rfl rfl hr
theorem sg_X7_victory_0 {g : tr_g} {d : Nat} {h : ev_AH} {r : ev_O × ev_AH} {x1 x2 v0 v1 v2 v3 : Int32} {h1 h2 h3 h4 : ev_AH} (hL : hh_L h) (c_0 : tr_L g d m_X7_pair 0 [some (.int x1), some (.int x2)] [] h (.inl (some (.int v0)), h1)) (c_1 : tr_L g d m_X8_at 0 [some (.ref 1090), some (.int v0)] [] h1 (.inl (some (.int v1)), h2)) (c_2 : tr_L g d m_X7_pair 0 [some (.int x2), some (.int x1)] [] h2 (.inl (some (.int v2)), h3)) (c_3 : tr_L g d m_X8_at 0 [some (.ref 1090), some (.int v2)] [] h3 (.inl (some (.int v3)), h4)) (t : v1 ≤ v3 → tr_L g (d + 1) m_X7_victory 33 [some (.ref 1089), some (.int x1), some (.int x2), some (.int v1)] [] h4 r) (f : v3 < v1 → tr_L g (d + 1) m_X7_victory 29 [some (.ref 1089), some (.int x1), some (.int x2), some (.int v1)] [] h4 r) : tr_L g (d + 1) m_X7_victory 0 [some (.ref 1089), some (.int x1), some (.int x2), none] [] h r := by
  refine tr_s (.aload_n 0) 1 1 [some (.ref 1089), some (.int x1), some (.int x2), none] [.ref 1089] h rfl rfl rfl ?_
  refine tl_gr hL 9 89 6 0 90 [1090, 1091, 1092, 0] rfl rfl rfl rfl ?_
  refine tr_s (.iload_n 1) 1 5 [some (.ref 1089), some (.int x1), some (.int x2), none] [.int x1, .ref 1090] h rfl rfl rfl ?_
  refine tr_s (.iload_n 2) 1 6 [some (.ref 1089), some (.int x1), some (.int x2), none] [.int x2, .int x1, .ref 1090] h rfl rfl rfl ?_
  refine tr_call (.invokestatic 68) 68 2 2 0 m_X7_pair [.int x1, .int x2] [.ref 1090] (some (.int v0)) h1 rfl rfl rfl rfl rfl rfl rfl rfl rfl (tr_cok rfl (Or.inl rfl)) c_0 ?_
  have hL0 := c_0.2
  refine tr_call (.invokestatic 45) 45 3 2 0 m_X8_at [.ref 1090, .int v0] [] (some (.int v1)) h2 rfl rfl rfl rfl rfl rfl rfl rfl rfl (tr_cok rfl (Or.inl rfl)) c_1 ?_
  have hL1 := c_1.2
  refine tr_st (.istore_n 3) 1 3 0 (.int v1) rfl rfl rfl rfl rfl rfl rfl ?_
  refine tr_s (.iload_n 3) 1 14 [some (.ref 1089), some (.int x1), some (.int x2), some (.int v1)] [.int v1] h2 rfl rfl rfl ?_
  refine tr_s (.aload_n 0) 1 15 [some (.ref 1089), some (.int x1), some (.int x2), some (.int v1)] [.ref 1089, .int v1] h2 rfl rfl rfl ?_
  refine tl_gr hL1 9 89 6 0 90 [1090, 1091, 1092, 0] rfl rfl rfl rfl ?_
  refine tr_s (.iload_n 2) 1 19 [some (.ref 1089), some (.int x1), some (.int x2), some (.int v1)] [.int x2, .ref 1090, .int v1] h2 rfl rfl rfl ?_
  refine tr_s (.iload_n 1) 1 20 [some (.ref 1089), some (.int x1), some (.int x2), some (.int v1)] [.int x1, .int x2, .ref 1090, .int v1] h2 rfl rfl rfl ?_
  refine tr_call (.invokestatic 68) 68 2 2 0 m_X7_pair [.int x2, .int x1] [.ref 1090, .int v1] (some (.int v2)) h3 rfl rfl rfl rfl rfl rfl rfl rfl rfl (tr_cok rfl (Or.inl rfl)) c_2 ?_
  have hL2 := c_2.2
  refine tr_call (.invokestatic 45) 45 3 2 0 m_X8_at [.ref 1090, .int v2] [.int v1] (some (.int v3)) h4 rfl rfl rfl rfl rfl rfl rfl rfl rfl (tr_cok rfl (Or.inl rfl)) c_3 ?_
  have hL3 := c_3.2
  exact tr_if2 .le 7 33 v1 v3 rfl rfl rfl (fun hc => t ((tr_le hc).1 rfl)) (fun hc => f ((tr_le hc).2 rfl))
theorem sg_X7_victory_29 {g : tr_g} {d : Nat} {h : ev_AH} {r : ev_O × ev_AH} {w0 w1 w2 : Option Value} {x3 : Int32} (hL : hh_L h) (hr : r = (.inl (some (.int x3)), h)) : tr_L g d m_X7_victory 29 [w0, w1, w2, some (.int x3)] [] h r := by
  refine tr_s (.iload_n 3) 1 30 [w0, w1, w2, some (.int x3)] [.int x3] h rfl rfl rfl ?_
  refine tr_goto 4 34 rfl rfl rfl ?_
  exact tl_ret hL .ireturn 1 (some (.int x3)) rfl rfl rfl rfl hr
theorem sg_X7_victory_33 {g : tr_g} {d : Nat} {h : ev_AH} {r : ev_O × ev_AH} {w0 w1 w2 w3 : Option Value} (hL : hh_L h) (hr : r = (.inl (some (.int 0)), h)) : tr_L g d m_X7_victory 33 [w0, w1, w2, w3] [] h r := by
  refine tr_ic 0 0 (by decide) rfl ?_
  exact tl_ret hL .ireturn 1 (some (.int 0)) rfl rfl rfl rfl hr
theorem sg_X7_tableStrength_0 {g : tr_g} {d : Nat} {h : ev_AH} {r : ev_O × ev_AH} {x1 x2 v0 v1 : Int32} {h1 h2 : ev_AH} (hL : hh_L h) (c_0 : tr_L g d m_X7_pair 0 [some (.int x1), some (.int x2)] [] h (.inl (some (.int v0)), h1)) (c_1 : tr_L g d m_X8_at 0 [some (.ref 1091), some (.int v0)] [] h1 (.inl (some (.int v1)), h2)) (hr : r = (.inl (some (.int v1)), h2)) : tr_L g (d + 1) m_X7_tableStrength 0 [some (.ref 1089), some (.int x1), some (.int x2)] [] h r := by
  refine tr_s (.aload_n 0) 1 1 [some (.ref 1089), some (.int x1), some (.int x2)] [.ref 1089] h rfl rfl rfl ?_
  refine tl_gr hL 15 89 6 1 91 [1090, 1091, 1092, 0] rfl rfl rfl rfl ?_
  refine tr_s (.iload_n 1) 1 5 [some (.ref 1089), some (.int x1), some (.int x2)] [.int x1, .ref 1091] h rfl rfl rfl ?_
  refine tr_s (.iload_n 2) 1 6 [some (.ref 1089), some (.int x1), some (.int x2)] [.int x2, .int x1, .ref 1091] h rfl rfl rfl ?_
  refine tr_call (.invokestatic 68) 68 2 2 0 m_X7_pair [.int x1, .int x2] [.ref 1091] (some (.int v0)) h1 rfl rfl rfl rfl rfl rfl rfl rfl rfl (tr_cok rfl (Or.inl rfl)) c_0 ?_
  have hL0 := c_0.2
  refine tr_call (.invokestatic 45) 45 3 2 0 m_X8_at [.ref 1091, .int v0] [] (some (.int v1)) h2 rfl rfl rfl rfl rfl rfl rfl rfl rfl (tr_cok rfl (Or.inl rfl)) c_1 ?_
  have hL1 := c_1.2
  exact tl_ret hL1 .ireturn 1 (some (.int v1)) rfl rfl rfl rfl hr
theorem sg_X7_holdsAgainstAll_0 {g : tr_g} {d : Nat} {h : ev_AH} {r : ev_O × ev_AH} {x1 : Int32} (hL : hh_L h) (k : tr_L g d m_X7_holdsAgainstAll 2 [some (.ref 1089), some (.int x1), some (.int 0)] [] h r) : tr_L g d m_X7_holdsAgainstAll 0 [some (.ref 1089), some (.int x1), none] [] h r := by
  refine tr_ic 0 0 (by decide) rfl ?_
  refine tr_st (.istore_n 2) 1 2 0 (.int 0) rfl rfl rfl rfl rfl rfl rfl ?_
  exact k
theorem sg_X7_holdsAgainstAll_2 {g : tr_g} {d : Nat} {h : ev_AH} {r : ev_O × ev_AH} {x1 x2 : Int32} (hL : hh_L h) (t : 4 ≤ x2 → tr_L g d m_X7_holdsAgainstAll 30 [some (.ref 1089), some (.int x1), some (.int x2)] [] h r) (f : x2 < 4 → tr_L g d m_X7_holdsAgainstAll 7 [some (.ref 1089), some (.int x1), some (.int x2)] [] h r) : tr_L g d m_X7_holdsAgainstAll 2 [some (.ref 1089), some (.int x1), some (.int x2)] [] h r := by
  refine tr_s (.iload_n 2) 1 3 [some (.ref 1089), some (.int x1), some (.int x2)] [.int x2] h rfl rfl rfl ?_
  refine tr_ic 4 4 (by decide) rfl ?_
  exact tr_if2 .ge 26 30 x2 4 rfl rfl rfl (fun hc => t ((tr_ge hc).1 rfl)) (fun hc => f ((tr_ge hc).2 rfl))
theorem sg_X7_holdsAgainstAll_7 {g : tr_g} {d : Nat} {h : ev_AH} {r : ev_O × ev_AH} {x1 x2 v0 v1 : Int32} {h1 h2 : ev_AH} (hL : hh_L h) (c_0 : tr_L g d m_X7_tableStrength 0 [some (.ref 1089), some (.int x1), some (.int x2)] [] h (.inl (some (.int v0)), h1)) (c_1 : tr_L g d m_X7_tableStrength 0 [some (.ref 1089), some (.int x2), some (.int x1)] [] h1 (.inl (some (.int v1)), h2)) (t : v1 ≤ v0 → tr_L g (d + 1) m_X7_holdsAgainstAll 24 [some (.ref 1089), some (.int x1), some (.int x2)] [] h2 r) (f : v0 < v1 → tr_L g (d + 1) m_X7_holdsAgainstAll 22 [some (.ref 1089), some (.int x1), some (.int x2)] [] h2 r) : tr_L g (d + 1) m_X7_holdsAgainstAll 7 [some (.ref 1089), some (.int x1), some (.int x2)] [] h r := by
  refine tr_s (.aload_n 0) 1 8 [some (.ref 1089), some (.int x1), some (.int x2)] [.ref 1089] h rfl rfl rfl ?_
  refine tr_s (.iload_n 1) 1 9 [some (.ref 1089), some (.int x1), some (.int x2)] [.int x1, .ref 1089] h rfl rfl rfl ?_
  refine tr_s (.iload_n 2) 1 10 [some (.ref 1089), some (.int x1), some (.int x2)] [.int x2, .int x1, .ref 1089] h rfl rfl rfl ?_
  refine tr_call (.invokevirtual 78) 78 0 2 6 m_X7_tableStrength [.ref 1089, .int x1, .int x2] [] (some (.int v0)) h1 rfl rfl rfl rfl rfl rfl rfl rfl rfl (tr_cok rfl (Or.inr ⟨_, _, rfl, tr_rc (hh_rd (hh_obj hL (k := 89) rfl).1) (by decide)⟩)) c_0 ?_
  have hL0 := c_0.2
  refine tr_s (.aload_n 0) 1 14 [some (.ref 1089), some (.int x1), some (.int x2)] [.ref 1089, .int v0] h1 rfl rfl rfl ?_
  refine tr_s (.iload_n 2) 1 15 [some (.ref 1089), some (.int x1), some (.int x2)] [.int x2, .ref 1089, .int v0] h1 rfl rfl rfl ?_
  refine tr_s (.iload_n 1) 1 16 [some (.ref 1089), some (.int x1), some (.int x2)] [.int x1, .int x2, .ref 1089, .int v0] h1 rfl rfl rfl ?_
  refine tr_call (.invokevirtual 78) 78 0 2 6 m_X7_tableStrength [.ref 1089, .int x2, .int x1] [.int v0] (some (.int v1)) h2 rfl rfl rfl rfl rfl rfl rfl rfl rfl (tr_cok rfl (Or.inr ⟨_, _, rfl, tr_rc (hh_rd (hh_obj hL0 (k := 89) rfl).1) (by decide)⟩)) c_1 ?_
  have hL1 := c_1.2
  exact tr_if2 .ge 5 24 v0 v1 rfl rfl rfl (fun hc => t ((tr_ge hc).1 rfl)) (fun hc => f ((tr_ge hc).2 rfl))
theorem sg_X7_holdsAgainstAll_22 {g : tr_g} {d : Nat} {h : ev_AH} {r : ev_O × ev_AH} {w0 w1 w2 : Option Value} (hL : hh_L h) (hr : r = (.inl (some (.int 0)), h)) : tr_L g d m_X7_holdsAgainstAll 22 [w0, w1, w2] [] h r := by
  refine tr_ic 0 0 (by decide) rfl ?_
  exact tl_ret hL .ireturn 1 (some (.int 0)) rfl rfl rfl rfl hr
theorem sg_X7_holdsAgainstAll_24 {g : tr_g} {d : Nat} {h : ev_AH} {r : ev_O × ev_AH} {x1 x2 : Int32} (hL : hh_L h) (k : tr_L g d m_X7_holdsAgainstAll 2 [some (.ref 1089), some (.int x1), some (.int (x2 + 1))] [] h r) : tr_L g d m_X7_holdsAgainstAll 24 [some (.ref 1089), some (.int x1), some (.int x2)] [] h r := by
  refine tr_inc 2 1 x2 1 (by decide) rfl rfl rfl ?_
  refine tr_goto (-25) 2 rfl rfl rfl ?_
  exact k
theorem sg_X7_holdsAgainstAll_30 {g : tr_g} {d : Nat} {h : ev_AH} {r : ev_O × ev_AH} {w0 w1 w2 : Option Value} (hL : hh_L h) (hr : r = (.inl (some (.int 1)), h)) : tr_L g d m_X7_holdsAgainstAll 30 [w0, w1, w2] [] h r := by
  refine tr_ic 1 1 (by decide) rfl ?_
  exact tl_ret hL .ireturn 1 (some (.int 1)) rfl rfl rfl rfl hr
theorem sg_X7_findMostPoints_0 {g : tr_g} {d : Nat} {h : ev_AH} {r : ev_O × ev_AH} (hL : hh_L h) (k : tr_L g d m_X7_findMostPoints 4 [some (.ref 1089), some (.ref 1001), some (.int 0), some (.int 1)] [] h r) : tr_L g d m_X7_findMostPoints 0 [some (.ref 1089), some (.ref 1001), none, none] [] h r := by
  refine tr_ic 0 0 (by decide) rfl ?_
  refine tr_st (.istore_n 2) 1 2 0 (.int 0) rfl rfl rfl rfl rfl rfl rfl ?_
  refine tr_ic 1 1 (by decide) rfl ?_
  refine tr_st (.istore_n 3) 1 3 0 (.int 1) rfl rfl rfl rfl rfl rfl rfl ?_
  exact k
theorem sg_X7_findMostPoints_4 {g : tr_g} {d : Nat} {h : ev_AH} {r : ev_O × ev_AH} {x2 x3 : Int32} (hL : hh_L h) (t : 4 ≤ x3 → tr_L g d m_X7_findMostPoints 32 [some (.ref 1089), some (.ref 1001), some (.int x2), some (.int x3)] [] h r) (f : x3 < 4 → tr_L g d m_X7_findMostPoints 9 [some (.ref 1089), some (.ref 1001), some (.int x2), some (.int x3)] [] h r) : tr_L g d m_X7_findMostPoints 4 [some (.ref 1089), some (.ref 1001), some (.int x2), some (.int x3)] [] h r := by
  refine tr_s (.iload_n 3) 1 5 [some (.ref 1089), some (.ref 1001), some (.int x2), some (.int x3)] [.int x3] h rfl rfl rfl ?_
  refine tr_ic 4 4 (by decide) rfl ?_
  exact tr_if2 .ge 26 32 x3 4 rfl rfl rfl (fun hc => t ((tr_ge hc).1 rfl)) (fun hc => f ((tr_ge hc).2 rfl))
theorem sg_X7_findMostPoints_9 {g : tr_g} {d : Nat} {h : ev_AH} {r : ev_O × ev_AH} {x2 x3 v0 v1 : Int32} {h1 h2 : ev_AH} (hL : hh_L h) (c_0 : tr_L g d m_X7_countPoints 0 [some (.ref 1089), some (.ref 1001), some (.int x3), none, none] [] h (.inl (some (.int v0)), h1)) (c_1 : tr_L g d m_X7_countPoints 0 [some (.ref 1089), some (.ref 1001), some (.int x2), none, none] [] h1 (.inl (some (.int v1)), h2)) (t : v0 ≤ v1 → tr_L g (d + 1) m_X7_findMostPoints 26 [some (.ref 1089), some (.ref 1001), some (.int x2), some (.int x3)] [] h2 r) (f : v1 < v0 → tr_L g (d + 1) m_X7_findMostPoints 24 [some (.ref 1089), some (.ref 1001), some (.int x2), some (.int x3)] [] h2 r) : tr_L g (d + 1) m_X7_findMostPoints 9 [some (.ref 1089), some (.ref 1001), some (.int x2), some (.int x3)] [] h r := by
  refine tr_s (.aload_n 0) 1 10 [some (.ref 1089), some (.ref 1001), some (.int x2), some (.int x3)] [.ref 1089] h rfl rfl rfl ?_
  refine tr_s (.aload_n 1) 1 11 [some (.ref 1089), some (.ref 1001), some (.int x2), some (.int x3)] [.ref 1001, .ref 1089] h rfl rfl rfl ?_
  refine tr_s (.iload_n 3) 1 12 [some (.ref 1089), some (.ref 1001), some (.int x2), some (.int x3)] [.int x3, .ref 1001, .ref 1089] h rfl rfl rfl ?_
  refine tr_call (.invokevirtual 37) 37 0 2 6 m_X7_countPoints [.ref 1089, .ref 1001, .int x3] [] (some (.int v0)) h1 rfl rfl rfl rfl rfl rfl rfl rfl rfl (tr_cok rfl (Or.inr ⟨_, _, rfl, tr_rc (hh_rd (hh_obj hL (k := 89) rfl).1) (by decide)⟩)) c_0 ?_
  have hL0 := c_0.2
  refine tr_s (.aload_n 0) 1 16 [some (.ref 1089), some (.ref 1001), some (.int x2), some (.int x3)] [.ref 1089, .int v0] h1 rfl rfl rfl ?_
  refine tr_s (.aload_n 1) 1 17 [some (.ref 1089), some (.ref 1001), some (.int x2), some (.int x3)] [.ref 1001, .ref 1089, .int v0] h1 rfl rfl rfl ?_
  refine tr_s (.iload_n 2) 1 18 [some (.ref 1089), some (.ref 1001), some (.int x2), some (.int x3)] [.int x2, .ref 1001, .ref 1089, .int v0] h1 rfl rfl rfl ?_
  refine tr_call (.invokevirtual 37) 37 0 2 6 m_X7_countPoints [.ref 1089, .ref 1001, .int x2] [.int v0] (some (.int v1)) h2 rfl rfl rfl rfl rfl rfl rfl rfl rfl (tr_cok rfl (Or.inr ⟨_, _, rfl, tr_rc (hh_rd (hh_obj hL0 (k := 89) rfl).1) (by decide)⟩)) c_1 ?_
  have hL1 := c_1.2
  exact tr_if2 .le 5 26 v0 v1 rfl rfl rfl (fun hc => t ((tr_le hc).1 rfl)) (fun hc => f ((tr_le hc).2 rfl))
theorem sg_X7_findMostPoints_24 {g : tr_g} {d : Nat} {h : ev_AH} {r : ev_O × ev_AH} {w2 : Option Value} {x3 : Int32} (hL : hh_L h) (k : tr_L g d m_X7_findMostPoints 4 [some (.ref 1089), some (.ref 1001), some (.int x3), some (.int (x3 + 1))] [] h r) : tr_L g d m_X7_findMostPoints 24 [some (.ref 1089), some (.ref 1001), w2, some (.int x3)] [] h r := by
  refine tr_s (.iload_n 3) 1 25 [some (.ref 1089), some (.ref 1001), w2, some (.int x3)] [.int x3] h rfl rfl rfl ?_
  refine tr_st (.istore_n 2) 1 2 0 (.int x3) rfl rfl rfl rfl rfl rfl rfl ?_
  refine tr_inc 3 1 x3 1 (by decide) rfl rfl rfl ?_
  refine tr_goto (-25) 4 rfl rfl rfl ?_
  exact k
theorem sg_X7_findMostPoints_26 {g : tr_g} {d : Nat} {h : ev_AH} {r : ev_O × ev_AH} {x2 x3 : Int32} (hL : hh_L h) (k : tr_L g d m_X7_findMostPoints 4 [some (.ref 1089), some (.ref 1001), some (.int x2), some (.int (x3 + 1))] [] h r) : tr_L g d m_X7_findMostPoints 26 [some (.ref 1089), some (.ref 1001), some (.int x2), some (.int x3)] [] h r := by
  refine tr_inc 3 1 x3 1 (by decide) rfl rfl rfl ?_
  refine tr_goto (-25) 4 rfl rfl rfl ?_
  exact k
theorem sg_X7_findMostPoints_32 {g : tr_g} {d : Nat} {h : ev_AH} {r : ev_O × ev_AH} {w0 w1 w3 : Option Value} {x2 : Int32} (hL : hh_L h) (hr : r = (.inl (some (.int x2)), h)) : tr_L g d m_X7_findMostPoints 32 [w0, w1, some (.int x2), w3] [] h r := by
  refine tr_s (.iload_n 2) 1 33 [w0, w1, some (.int x2), w3] [.int x2] h rfl rfl rfl ?_
  exact tl_ret hL .ireturn 1 (some (.int x2)) rfl rfl rfl rfl hr
theorem sg_X7_countPoints_0 {g : tr_g} {d : Nat} {h : ev_AH} {r : ev_O × ev_AH} {x2 : Int32} (hL : hh_L h) (k : tr_L g d m_X7_countPoints 5 [some (.ref 1089), some (.ref 1001), some (.int x2), some (.int 0), some (.int 0)] [] h r) : tr_L g d m_X7_countPoints 0 [some (.ref 1089), some (.ref 1001), some (.int x2), none, none] [] h r := by
  refine tr_ic 0 0 (by decide) rfl ?_
  refine tr_st (.istore_n 3) 1 3 0 (.int 0) rfl rfl rfl rfl rfl rfl rfl ?_
  refine tr_ic 0 0 (by decide) rfl ?_
  refine tr_st (.istore 4) 2 4 0 (.int 0) rfl rfl rfl rfl rfl rfl rfl ?_
  exact k
theorem sg_X7_countPoints_5 {g : tr_g} {d : Nat} {h : ev_AH} {r : ev_O × ev_AH} {w0 : Option Value} {x2 x3 x4 : Int32} (hL : hh_L h) (t : (hh_i h 1 6) ≤ x4 → tr_L g d m_X7_countPoints 32 [w0, some (.ref 1001), some (.int x2), some (.int x3), some (.int x4)] [] h r) (f : x4 < (hh_i h 1 6) → tr_L g d m_X7_countPoints 14 [w0, some (.ref 1001), some (.int x2), some (.int x3), some (.int x4)] [] h r) : tr_L g d m_X7_countPoints 5 [w0, some (.ref 1001), some (.int x2), some (.int x3), some (.int x4)] [] h r := by
  refine tr_s (.iload 4) 2 7 [w0, some (.ref 1001), some (.int x2), some (.int x3), some (.int x4)] [.int x4] h rfl rfl rfl ?_
  refine tr_s (.aload_n 1) 1 8 [w0, some (.ref 1001), some (.int x2), some (.int x3), some (.int x4)] [.ref 1001, .int x4] h rfl rfl rfl ?_
  refine tl_gi hL 25 1 1 6 [1002, 1003, 1004, 1005, 1006, 1007, 0, 0, 0, 0, 0, 0, 0, 0] rfl rfl rfl rfl ?_
  exact tr_if2 .ge 21 32 x4 (hh_i h 1 6) rfl rfl rfl (fun hc => t ((tr_ge hc).1 rfl)) (fun hc => f ((tr_ge hc).2 rfl))
theorem sg_X7_countPoints_14 {g : tr_g} {d : Nat} {h : ev_AH} {r : ev_O × ev_AH} {w0 : Option Value} {x2 x3 x4 v0 : Int32} {h1 : ev_AH} (hL : hh_L h) (c_0 : tr_L g d m_X2_placeIn 0 [some (.ref 1001), some (.int x4), some (.int x2), none] [] h (.inl (some (.int v0)), h1)) (k : tr_L g (d + 1) m_X7_countPoints 5 [w0, some (.ref 1001), some (.int x2), some (.int (x3 + (3 - v0))), some (.int (x4 + 1))] [] h1 r) : tr_L g (d + 1) m_X7_countPoints 14 [w0, some (.ref 1001), some (.int x2), some (.int x3), some (.int x4)] [] h r := by
  refine tr_s (.iload_n 3) 1 15 [w0, some (.ref 1001), some (.int x2), some (.int x3), some (.int x4)] [.int x3] h rfl rfl rfl ?_
  refine tr_ic 3 3 (by decide) rfl ?_
  refine tr_s (.aload_n 1) 1 17 [w0, some (.ref 1001), some (.int x2), some (.int x3), some (.int x4)] [.ref 1001, .int 3, .int x3] h rfl rfl rfl ?_
  refine tr_s (.iload 4) 2 19 [w0, some (.ref 1001), some (.int x2), some (.int x3), some (.int x4)] [.int x4, .ref 1001, .int 3, .int x3] h rfl rfl rfl ?_
  refine tr_s (.iload_n 2) 1 20 [w0, some (.ref 1001), some (.int x2), some (.int x3), some (.int x4)] [.int x2, .int x4, .ref 1001, .int 3, .int x3] h rfl rfl rfl ?_
  refine tr_call (.invokevirtual 34) 34 1 2 1 m_X2_placeIn [.ref 1001, .int x4, .int x2] [.int 3, .int x3] (some (.int v0)) h1 rfl rfl rfl rfl rfl rfl rfl rfl rfl (tr_cok rfl (Or.inr ⟨_, _, rfl, tr_rc (hh_rd (hh_obj hL (k := 1) rfl).1) (by decide)⟩)) c_0 ?_
  have hL0 := c_0.2
  refine tr_s .isub 1 24 [w0, some (.ref 1001), some (.int x2), some (.int x3), some (.int x4)] [.int (3 - v0), .int x3] h1 rfl rfl rfl ?_
  refine tr_s .iadd 1 25 [w0, some (.ref 1001), some (.int x2), some (.int x3), some (.int x4)] [.int (x3 + (3 - v0))] h1 rfl rfl rfl ?_
  refine tr_st (.istore_n 3) 1 3 0 (.int (x3 + (3 - v0))) rfl rfl rfl rfl rfl rfl rfl ?_
  refine tr_inc 4 1 x4 1 (by decide) rfl rfl rfl ?_
  refine tr_goto (-24) 5 rfl rfl rfl ?_
  exact k
theorem sg_X7_countPoints_32 {g : tr_g} {d : Nat} {h : ev_AH} {r : ev_O × ev_AH} {w0 w1 w2 w4 : Option Value} {x3 : Int32} (hL : hh_L h) (hr : r = (.inl (some (.int x3)), h)) : tr_L g d m_X7_countPoints 32 [w0, w1, w2, some (.int x3), w4] [] h r := by
  refine tr_s (.iload_n 3) 1 33 [w0, w1, w2, some (.int x3), w4] [.int x3] h rfl rfl rfl ?_
  exact tl_ret hL .ireturn 1 (some (.int x3)) rfl rfl rfl rfl hr
theorem sg_X7_dominates_0 {g : tr_g} {d : Nat} {h : ev_AH} {r : ev_O × ev_AH} {x2 : Int32} {h1 : ev_AH} (hL : hh_L h) (c_0 : tr_L g d m_X7_countPairs 0 [some (.ref 1089), some (.ref 1001), none, none, none, none, none] [] h (.inl none, h1)) (k : tr_L g (d + 1) m_X7_dominates 7 [some (.ref 1089), some (.ref 1001), some (.int x2), some (.int 0)] [] h1 r) : tr_L g (d + 1) m_X7_dominates 0 [some (.ref 1089), some (.ref 1001), some (.int x2), none] [] h r := by
  refine tr_s (.aload_n 0) 1 1 [some (.ref 1089), some (.ref 1001), some (.int x2), none] [.ref 1089] h rfl rfl rfl ?_
  refine tr_s (.aload_n 1) 1 2 [some (.ref 1089), some (.ref 1001), some (.int x2), none] [.ref 1001, .ref 1089] h rfl rfl rfl ?_
  refine tr_call (.invokevirtual 71) 71 0 1 6 m_X7_countPairs [.ref 1089, .ref 1001] [] none h1 rfl rfl rfl rfl rfl rfl rfl rfl rfl (tr_cok rfl (Or.inr ⟨_, _, rfl, tr_rc (hh_rd (hh_obj hL (k := 89) rfl).1) (by decide)⟩)) c_0 ?_
  have hL0 := c_0.2
  refine tr_ic 0 0 (by decide) rfl ?_
  refine tr_st (.istore_n 3) 1 3 0 (.int 0) rfl rfl rfl rfl rfl rfl rfl ?_
  exact k
theorem sg_X7_dominates_7 {g : tr_g} {d : Nat} {h : ev_AH} {r : ev_O × ev_AH} {x2 x3 : Int32} (hL : hh_L h) (t : 4 ≤ x3 → tr_L g d m_X7_dominates 40 [some (.ref 1089), some (.ref 1001), some (.int x2), some (.int x3)] [] h r) (f : x3 < 4 → tr_L g d m_X7_dominates 12 [some (.ref 1089), some (.ref 1001), some (.int x2), some (.int x3)] [] h r) : tr_L g d m_X7_dominates 7 [some (.ref 1089), some (.ref 1001), some (.int x2), some (.int x3)] [] h r := by
  refine tr_s (.iload_n 3) 1 8 [some (.ref 1089), some (.ref 1001), some (.int x2), some (.int x3)] [.int x3] h rfl rfl rfl ?_
  refine tr_ic 4 4 (by decide) rfl ?_
  exact tr_if2 .ge 31 40 x3 4 rfl rfl rfl (fun hc => t ((tr_ge hc).1 rfl)) (fun hc => f ((tr_ge hc).2 rfl))
theorem sg_X7_dominates_12 {g : tr_g} {d : Nat} {h : ev_AH} {r : ev_O × ev_AH} {x2 x3 : Int32} (hL : hh_L h) (t : x3 = x2 → tr_L g d m_X7_dominates 34 [some (.ref 1089), some (.ref 1001), some (.int x2), some (.int x3)] [] h r) (f : x3 ≠ x2 → tr_L g d m_X7_dominates 17 [some (.ref 1089), some (.ref 1001), some (.int x2), some (.int x3)] [] h r) : tr_L g d m_X7_dominates 12 [some (.ref 1089), some (.ref 1001), some (.int x2), some (.int x3)] [] h r := by
  refine tr_s (.iload_n 3) 1 13 [some (.ref 1089), some (.ref 1001), some (.int x2), some (.int x3)] [.int x3] h rfl rfl rfl ?_
  refine tr_s (.iload_n 2) 1 14 [some (.ref 1089), some (.ref 1001), some (.int x2), some (.int x3)] [.int x2, .int x3] h rfl rfl rfl ?_
  exact tr_if2 .eq 20 34 x3 x2 rfl rfl rfl (fun hc => t ((tr_eq hc).1 rfl)) (fun hc => f ((tr_eq hc).2 rfl))
theorem sg_X7_dominates_17 {g : tr_g} {d : Nat} {h : ev_AH} {r : ev_O × ev_AH} {x2 x3 v0 : Int32} {h1 : ev_AH} (hL : hh_L h) (c_0 : tr_L g d m_X7_preferring 0 [some (.ref 1089), some (.int x2), some (.int x3)] [] h (.inl (some (.int v0)), h1)) (t : (hh_i h1 1 6) < (2 * v0) → tr_L g (d + 1) m_X7_dominates 34 [some (.ref 1089), some (.ref 1001), some (.int x2), some (.int x3)] [] h1 r) (f : (2 * v0) ≤ (hh_i h1 1 6) → tr_L g (d + 1) m_X7_dominates 32 [some (.ref 1089), some (.ref 1001), some (.int x2), some (.int x3)] [] h1 r) : tr_L g (d + 1) m_X7_dominates 17 [some (.ref 1089), some (.ref 1001), some (.int x2), some (.int x3)] [] h r := by
  refine tr_ic 2 2 (by decide) rfl ?_
  refine tr_s (.aload_n 0) 1 19 [some (.ref 1089), some (.ref 1001), some (.int x2), some (.int x3)] [.ref 1089, .int 2] h rfl rfl rfl ?_
  refine tr_s (.iload_n 2) 1 20 [some (.ref 1089), some (.ref 1001), some (.int x2), some (.int x3)] [.int x2, .ref 1089, .int 2] h rfl rfl rfl ?_
  refine tr_s (.iload_n 3) 1 21 [some (.ref 1089), some (.ref 1001), some (.int x2), some (.int x3)] [.int x3, .int x2, .ref 1089, .int 2] h rfl rfl rfl ?_
  refine tr_call (.invokevirtual 99) 99 0 2 6 m_X7_preferring [.ref 1089, .int x2, .int x3] [.int 2] (some (.int v0)) h1 rfl rfl rfl rfl rfl rfl rfl rfl rfl (tr_cok rfl (Or.inr ⟨_, _, rfl, tr_rc (hh_rd (hh_obj hL (k := 89) rfl).1) (by decide)⟩)) c_0 ?_
  have hL0 := c_0.2
  refine tr_s .imul 1 25 [some (.ref 1089), some (.ref 1001), some (.int x2), some (.int x3)] [.int (2 * v0)] h1 rfl rfl rfl ?_
  refine tr_s (.aload_n 1) 1 26 [some (.ref 1089), some (.ref 1001), some (.int x2), some (.int x3)] [.ref 1001, .int (2 * v0)] h1 rfl rfl rfl ?_
  refine tl_gi hL0 25 1 1 6 [1002, 1003, 1004, 1005, 1006, 1007, 0, 0, 0, 0, 0, 0, 0, 0] rfl rfl rfl rfl ?_
  exact tr_if2 .gt 5 34 (2 * v0) (hh_i h1 1 6) rfl rfl rfl (fun hc => t ((tr_gt hc).1 rfl)) (fun hc => f ((tr_gt hc).2 rfl))
theorem sg_X7_dominates_32 {g : tr_g} {d : Nat} {h : ev_AH} {r : ev_O × ev_AH} {w0 w1 w2 w3 : Option Value} (hL : hh_L h) (hr : r = (.inl (some (.int 0)), h)) : tr_L g d m_X7_dominates 32 [w0, w1, w2, w3] [] h r := by
  refine tr_ic 0 0 (by decide) rfl ?_
  exact tl_ret hL .ireturn 1 (some (.int 0)) rfl rfl rfl rfl hr
theorem sg_X7_dominates_34 {g : tr_g} {d : Nat} {h : ev_AH} {r : ev_O × ev_AH} {x2 x3 : Int32} (hL : hh_L h) (k : tr_L g d m_X7_dominates 7 [some (.ref 1089), some (.ref 1001), some (.int x2), some (.int (x3 + 1))] [] h r) : tr_L g d m_X7_dominates 34 [some (.ref 1089), some (.ref 1001), some (.int x2), some (.int x3)] [] h r := by
  refine tr_inc 3 1 x3 1 (by decide) rfl rfl rfl ?_
  refine tr_goto (-30) 7 rfl rfl rfl ?_
  exact k
theorem sg_X7_dominates_40 {g : tr_g} {d : Nat} {h : ev_AH} {r : ev_O × ev_AH} {w0 w1 w2 w3 : Option Value} (hL : hh_L h) (hr : r = (.inl (some (.int 1)), h)) : tr_L g d m_X7_dominates 40 [w0, w1, w2, w3] [] h r := by
  refine tr_ic 1 1 (by decide) rfl ?_
  exact tl_ret hL .ireturn 1 (some (.int 1)) rfl rfl rfl rfl hr
theorem sg_X7_preferring_0 {g : tr_g} {d : Nat} {h : ev_AH} {r : ev_O × ev_AH} {x1 x2 v0 v1 : Int32} {h1 h2 : ev_AH} (hL : hh_L h) (c_0 : tr_L g d m_X7_pair 0 [some (.int x1), some (.int x2)] [] h (.inl (some (.int v0)), h1)) (c_1 : tr_L g d m_X8_at 0 [some (.ref 1090), some (.int v0)] [] h1 (.inl (some (.int v1)), h2)) (hr : r = (.inl (some (.int v1)), h2)) : tr_L g (d + 1) m_X7_preferring 0 [some (.ref 1089), some (.int x1), some (.int x2)] [] h r := by
  refine tr_s (.aload_n 0) 1 1 [some (.ref 1089), some (.int x1), some (.int x2)] [.ref 1089] h rfl rfl rfl ?_
  refine tl_gr hL 9 89 6 0 90 [1090, 1091, 1092, 0] rfl rfl rfl rfl ?_
  refine tr_s (.iload_n 1) 1 5 [some (.ref 1089), some (.int x1), some (.int x2)] [.int x1, .ref 1090] h rfl rfl rfl ?_
  refine tr_s (.iload_n 2) 1 6 [some (.ref 1089), some (.int x1), some (.int x2)] [.int x2, .int x1, .ref 1090] h rfl rfl rfl ?_
  refine tr_call (.invokestatic 68) 68 2 2 0 m_X7_pair [.int x1, .int x2] [.ref 1090] (some (.int v0)) h1 rfl rfl rfl rfl rfl rfl rfl rfl rfl (tr_cok rfl (Or.inl rfl)) c_0 ?_
  have hL0 := c_0.2
  refine tr_call (.invokestatic 45) 45 3 2 0 m_X8_at [.ref 1090, .int v0] [] (some (.int v1)) h2 rfl rfl rfl rfl rfl rfl rfl rfl rfl (tr_cok rfl (Or.inl rfl)) c_1 ?_
  have hL1 := c_1.2
  exact tl_ret hL1 .ireturn 1 (some (.int v1)) rfl rfl rfl rfl hr
theorem sg_X7_triedStrength_0 {g : tr_g} {d : Nat} {h : ev_AH} {r : ev_O × ev_AH} {x1 x2 x3 : Int32} (hL : hh_L h) (k : tr_L g d m_X7_triedStrength 3 [some (.ref 1089), some (.int x1), some (.int x2), some (.int x3), some (.int x1)] [] h r) : tr_L g d m_X7_triedStrength 0 [some (.ref 1089), some (.int x1), some (.int x2), some (.int x3), none] [] h r := by
  refine tr_s (.iload_n 1) 1 1 [some (.ref 1089), some (.int x1), some (.int x2), some (.int x3), none] [.int x1] h rfl rfl rfl ?_
  refine tr_st (.istore 4) 2 4 0 (.int x1) rfl rfl rfl rfl rfl rfl rfl ?_
  exact k
theorem sg_X7_triedStrength_3 {g : tr_g} {d : Nat} {h : ev_AH} {r : ev_O × ev_AH} {w1 : Option Value} {x2 x3 x4 : Int32} (hL : hh_L h) (t : x4 ≤ 0 → tr_L g d m_X7_triedStrength 31 [some (.ref 1089), w1, some (.int x2), some (.int x3), some (.int x4)] [] h r) (f : 0 < x4 → tr_L g d m_X7_triedStrength 8 [some (.ref 1089), w1, some (.int x2), some (.int x3), some (.int x4)] [] h r) : tr_L g d m_X7_triedStrength 3 [some (.ref 1089), w1, some (.int x2), some (.int x3), some (.int x4)] [] h r := by
  refine tr_s (.iload 4) 2 5 [some (.ref 1089), w1, some (.int x2), some (.int x3), some (.int x4)] [.int x4] h rfl rfl rfl ?_
  exact tr_if1 .le 26 31 x4 rfl rfl rfl (fun hc => t ((tr_le hc).1 rfl)) (fun hc => f ((tr_le hc).2 rfl))
theorem sg_X7_triedStrength_8 {g : tr_g} {d : Nat} {h : ev_AH} {r : ev_O × ev_AH} {w1 : Option Value} {x2 x3 x4 v0 v1 : Int32} {h1 h2 : ev_AH} (hL : hh_L h) (c_0 : tr_L g d m_X7_reachedWith 0 [some (.ref 1089), some (.int x4), some (.int x2), none, none, none, none] [] h (.inl (some (.int v0)), h1)) (c_1 : tr_L g d m_X7_isIn 0 [some (.int v0), some (.int x3)] [] h1 (.inl (some (.int v1)), h2)) (t : v1 = 0 → tr_L g (d + 1) m_X7_triedStrength 25 [some (.ref 1089), w1, some (.int x2), some (.int x3), some (.int x4)] [] h2 r) (f : v1 ≠ 0 → tr_L g (d + 1) m_X7_triedStrength 22 [some (.ref 1089), w1, some (.int x2), some (.int x3), some (.int x4)] [] h2 r) : tr_L g (d + 1) m_X7_triedStrength 8 [some (.ref 1089), w1, some (.int x2), some (.int x3), some (.int x4)] [] h r := by
  refine tr_s (.aload_n 0) 1 9 [some (.ref 1089), w1, some (.int x2), some (.int x3), some (.int x4)] [.ref 1089] h rfl rfl rfl ?_
  refine tr_s (.iload 4) 2 11 [some (.ref 1089), w1, some (.int x2), some (.int x3), some (.int x4)] [.int x4, .ref 1089] h rfl rfl rfl ?_
  refine tr_s (.iload_n 2) 1 12 [some (.ref 1089), w1, some (.int x2), some (.int x3), some (.int x4)] [.int x2, .int x4, .ref 1089] h rfl rfl rfl ?_
  refine tr_call (.invokevirtual 89) 89 0 2 6 m_X7_reachedWith [.ref 1089, .int x4, .int x2] [] (some (.int v0)) h1 rfl rfl rfl rfl rfl rfl rfl rfl rfl (tr_cok rfl (Or.inr ⟨_, _, rfl, tr_rc (hh_rd (hh_obj hL (k := 89) rfl).1) (by decide)⟩)) c_0 ?_
  have hL0 := c_0.2
  refine tr_s (.iload_n 3) 1 16 [some (.ref 1089), w1, some (.int x2), some (.int x3), some (.int x4)] [.int x3, .int v0] h1 rfl rfl rfl ?_
  refine tr_call (.invokestatic 64) 64 2 2 0 m_X7_isIn [.int v0, .int x3] [] (some (.int v1)) h2 rfl rfl rfl rfl rfl rfl rfl rfl rfl (tr_cok rfl (Or.inl rfl)) c_1 ?_
  have hL1 := c_1.2
  exact tr_if1 .eq 6 25 v1 rfl rfl rfl (fun hc => t ((tr_eq hc).1 rfl)) (fun hc => f ((tr_eq hc).2 rfl))
theorem sg_X7_triedStrength_22 {g : tr_g} {d : Nat} {h : ev_AH} {r : ev_O × ev_AH} {w0 w1 w2 w3 : Option Value} {x4 : Int32} (hL : hh_L h) (hr : r = (.inl (some (.int x4)), h)) : tr_L g d m_X7_triedStrength 22 [w0, w1, w2, w3, some (.int x4)] [] h r := by
  refine tr_s (.iload 4) 2 24 [w0, w1, w2, w3, some (.int x4)] [.int x4] h rfl rfl rfl ?_
  exact tl_ret hL .ireturn 1 (some (.int x4)) rfl rfl rfl rfl hr
theorem sg_X7_triedStrength_25 {g : tr_g} {d : Nat} {h : ev_AH} {r : ev_O × ev_AH} {w1 : Option Value} {x2 x3 x4 : Int32} (hL : hh_L h) (k : tr_L g d m_X7_triedStrength 3 [some (.ref 1089), w1, some (.int x2), some (.int x3), some (.int (x4 + (-1)))] [] h r) : tr_L g d m_X7_triedStrength 25 [some (.ref 1089), w1, some (.int x2), some (.int x3), some (.int x4)] [] h r := by
  refine tr_inc 4 (-1) x4 (-1) (by decide) rfl rfl rfl ?_
  refine tr_goto (-25) 3 rfl rfl rfl ?_
  exact k
theorem sg_X7_triedStrength_31 {g : tr_g} {d : Nat} {h : ev_AH} {r : ev_O × ev_AH} {w0 w1 w2 w3 w4 : Option Value} (hL : hh_L h) (hr : r = (.inl (some (.int 0)), h)) : tr_L g d m_X7_triedStrength 31 [w0, w1, w2, w3, w4] [] h r := by
  refine tr_ic 0 0 (by decide) rfl ?_
  exact tl_ret hL .ireturn 1 (some (.int 0)) rfl rfl rfl rfl hr
theorem sg_X7_reachedWith_0 {g : tr_g} {d : Nat} {h : ev_AH} {r : ev_O × ev_AH} {x1 x2 : Int32} (hL : hh_L h) (k : tr_L g d m_X7_reachedWith 7 [some (.ref 1089), some (.int x1), some (.int x2), some (.int (1 <<< (x2 &&& 31))), some (.int 1), none, none] [] h r) : tr_L g d m_X7_reachedWith 0 [some (.ref 1089), some (.int x1), some (.int x2), none, none, none, none] [] h r := by
  refine tr_ic 1 1 (by decide) rfl ?_
  refine tr_s (.iload_n 2) 1 2 [some (.ref 1089), some (.int x1), some (.int x2), none, none, none, none] [.int x2, .int 1] h rfl rfl rfl ?_
  refine tr_s .ishl 1 3 [some (.ref 1089), some (.int x1), some (.int x2), none, none, none, none] [.int (1 <<< (x2 &&& 31))] h rfl rfl rfl ?_
  refine tr_st (.istore_n 3) 1 3 0 (.int (1 <<< (x2 &&& 31))) rfl rfl rfl rfl rfl rfl rfl ?_
  refine tr_ic 1 1 (by decide) rfl ?_
  refine tr_st (.istore 4) 2 4 0 (.int 1) rfl rfl rfl rfl rfl rfl rfl ?_
  exact k
theorem sg_X7_reachedWith_7 {g : tr_g} {d : Nat} {h : ev_AH} {r : ev_O × ev_AH} {x1 x3 x4 : Int32} {w2 w5 w6 : Option Value} (hL : hh_L h) (t : 4 ≤ x4 → tr_L g d m_X7_reachedWith 77 [some (.ref 1089), some (.int x1), w2, some (.int x3), some (.int x4), w5, w6] [] h r) (f : x4 < 4 → tr_L g d m_X7_reachedWith 13 [some (.ref 1089), some (.int x1), w2, some (.int x3), some (.int x4), w5, w6] [] h r) : tr_L g d m_X7_reachedWith 7 [some (.ref 1089), some (.int x1), w2, some (.int x3), some (.int x4), w5, w6] [] h r := by
  refine tr_s (.iload 4) 2 9 [some (.ref 1089), some (.int x1), w2, some (.int x3), some (.int x4), w5, w6] [.int x4] h rfl rfl rfl ?_
  refine tr_ic 4 4 (by decide) rfl ?_
  exact tr_if2 .ge 67 77 x4 4 rfl rfl rfl (fun hc => t ((tr_ge hc).1 rfl)) (fun hc => f ((tr_ge hc).2 rfl))
theorem sg_X7_reachedWith_13 {g : tr_g} {d : Nat} {h : ev_AH} {r : ev_O × ev_AH} {x1 x3 x4 : Int32} {w2 w5 w6 : Option Value} (hL : hh_L h) (k : tr_L g d m_X7_reachedWith 16 [some (.ref 1089), some (.int x1), w2, some (.int x3), some (.int x4), some (.int 0), w6] [] h r) : tr_L g d m_X7_reachedWith 13 [some (.ref 1089), some (.int x1), w2, some (.int x3), some (.int x4), w5, w6] [] h r := by
  refine tr_ic 0 0 (by decide) rfl ?_
  refine tr_st (.istore 5) 2 5 0 (.int 0) rfl rfl rfl rfl rfl rfl rfl ?_
  exact k
theorem sg_X7_reachedWith_16 {g : tr_g} {d : Nat} {h : ev_AH} {r : ev_O × ev_AH} {x1 x3 x4 x5 : Int32} {w2 w6 : Option Value} (hL : hh_L h) (t : 4 ≤ x5 → tr_L g d m_X7_reachedWith 71 [some (.ref 1089), some (.int x1), w2, some (.int x3), some (.int x4), some (.int x5), w6] [] h r) (f : x5 < 4 → tr_L g d m_X7_reachedWith 22 [some (.ref 1089), some (.int x1), w2, some (.int x3), some (.int x4), some (.int x5), w6] [] h r) : tr_L g d m_X7_reachedWith 16 [some (.ref 1089), some (.int x1), w2, some (.int x3), some (.int x4), some (.int x5), w6] [] h r := by
  refine tr_s (.iload 5) 2 18 [some (.ref 1089), some (.int x1), w2, some (.int x3), some (.int x4), some (.int x5), w6] [.int x5] h rfl rfl rfl ?_
  refine tr_ic 4 4 (by decide) rfl ?_
  exact tr_if2 .ge 52 71 x5 4 rfl rfl rfl (fun hc => t ((tr_ge hc).1 rfl)) (fun hc => f ((tr_ge hc).2 rfl))
theorem sg_X7_reachedWith_22 {g : tr_g} {d : Nat} {h : ev_AH} {r : ev_O × ev_AH} {x1 x3 x4 x5 : Int32} {w2 w6 : Option Value} (hL : hh_L h) (k : tr_L g d m_X7_reachedWith 25 [some (.ref 1089), some (.int x1), w2, some (.int x3), some (.int x4), some (.int x5), some (.int 0)] [] h r) : tr_L g d m_X7_reachedWith 22 [some (.ref 1089), some (.int x1), w2, some (.int x3), some (.int x4), some (.int x5), w6] [] h r := by
  refine tr_ic 0 0 (by decide) rfl ?_
  refine tr_st (.istore 6) 2 6 0 (.int 0) rfl rfl rfl rfl rfl rfl rfl ?_
  exact k
theorem sg_X7_reachedWith_25 {g : tr_g} {d : Nat} {h : ev_AH} {r : ev_O × ev_AH} {x1 x3 x4 x5 x6 : Int32} {w2 : Option Value} (hL : hh_L h) (t : 4 ≤ x6 → tr_L g d m_X7_reachedWith 65 [some (.ref 1089), some (.int x1), w2, some (.int x3), some (.int x4), some (.int x5), some (.int x6)] [] h r) (f : x6 < 4 → tr_L g d m_X7_reachedWith 31 [some (.ref 1089), some (.int x1), w2, some (.int x3), some (.int x4), some (.int x5), some (.int x6)] [] h r) : tr_L g d m_X7_reachedWith 25 [some (.ref 1089), some (.int x1), w2, some (.int x3), some (.int x4), some (.int x5), some (.int x6)] [] h r := by
  refine tr_s (.iload 6) 2 27 [some (.ref 1089), some (.int x1), w2, some (.int x3), some (.int x4), some (.int x5), some (.int x6)] [.int x6] h rfl rfl rfl ?_
  refine tr_ic 4 4 (by decide) rfl ?_
  exact tr_if2 .ge 37 65 x6 4 rfl rfl rfl (fun hc => t ((tr_ge hc).1 rfl)) (fun hc => f ((tr_ge hc).2 rfl))
theorem sg_X7_reachedWith_31 {g : tr_g} {d : Nat} {h : ev_AH} {r : ev_O × ev_AH} {x1 x3 x4 x5 x6 v0 : Int32} {w2 : Option Value} {h1 : ev_AH} (hL : hh_L h) (c_0 : tr_L g d m_X7_isIn 0 [some (.int x3), some (.int x5)] [] h (.inl (some (.int v0)), h1)) (t : v0 = 0 → tr_L g (d + 1) m_X7_reachedWith 59 [some (.ref 1089), some (.int x1), w2, some (.int x3), some (.int x4), some (.int x5), some (.int x6)] [] h1 r) (f : v0 ≠ 0 → tr_L g (d + 1) m_X7_reachedWith 40 [some (.ref 1089), some (.int x1), w2, some (.int x3), some (.int x4), some (.int x5), some (.int x6)] [] h1 r) : tr_L g (d + 1) m_X7_reachedWith 31 [some (.ref 1089), some (.int x1), w2, some (.int x3), some (.int x4), some (.int x5), some (.int x6)] [] h r := by
  refine tr_s (.iload_n 3) 1 32 [some (.ref 1089), some (.int x1), w2, some (.int x3), some (.int x4), some (.int x5), some (.int x6)] [.int x3] h rfl rfl rfl ?_
  refine tr_s (.iload 5) 2 34 [some (.ref 1089), some (.int x1), w2, some (.int x3), some (.int x4), some (.int x5), some (.int x6)] [.int x5, .int x3] h rfl rfl rfl ?_
  refine tr_call (.invokestatic 64) 64 2 2 0 m_X7_isIn [.int x3, .int x5] [] (some (.int v0)) h1 rfl rfl rfl rfl rfl rfl rfl rfl rfl (tr_cok rfl (Or.inl rfl)) c_0 ?_
  have hL0 := c_0.2
  exact tr_if1 .eq 22 59 v0 rfl rfl rfl (fun hc => t ((tr_eq hc).1 rfl)) (fun hc => f ((tr_eq hc).2 rfl))
theorem sg_X7_reachedWith_40 {g : tr_g} {d : Nat} {h : ev_AH} {r : ev_O × ev_AH} {x1 x3 x4 x5 x6 v0 : Int32} {w2 : Option Value} {h1 : ev_AH} (hL : hh_L h) (c_0 : tr_L g d m_X7_victory 0 [some (.ref 1089), some (.int x5), some (.int x6), none] [] h (.inl (some (.int v0)), h1)) (t : v0 < x1 → tr_L g (d + 1) m_X7_reachedWith 59 [some (.ref 1089), some (.int x1), w2, some (.int x3), some (.int x4), some (.int x5), some (.int x6)] [] h1 r) (f : x1 ≤ v0 → tr_L g (d + 1) m_X7_reachedWith 52 [some (.ref 1089), some (.int x1), w2, some (.int x3), some (.int x4), some (.int x5), some (.int x6)] [] h1 r) : tr_L g (d + 1) m_X7_reachedWith 40 [some (.ref 1089), some (.int x1), w2, some (.int x3), some (.int x4), some (.int x5), some (.int x6)] [] h r := by
  refine tr_s (.aload_n 0) 1 41 [some (.ref 1089), some (.int x1), w2, some (.int x3), some (.int x4), some (.int x5), some (.int x6)] [.ref 1089] h rfl rfl rfl ?_
  refine tr_s (.iload 5) 2 43 [some (.ref 1089), some (.int x1), w2, some (.int x3), some (.int x4), some (.int x5), some (.int x6)] [.int x5, .ref 1089] h rfl rfl rfl ?_
  refine tr_s (.iload 6) 2 45 [some (.ref 1089), some (.int x1), w2, some (.int x3), some (.int x4), some (.int x5), some (.int x6)] [.int x6, .int x5, .ref 1089] h rfl rfl rfl ?_
  refine tr_call (.invokevirtual 75) 75 0 2 6 m_X7_victory [.ref 1089, .int x5, .int x6] [] (some (.int v0)) h1 rfl rfl rfl rfl rfl rfl rfl rfl rfl (tr_cok rfl (Or.inr ⟨_, _, rfl, tr_rc (hh_rd (hh_obj hL (k := 89) rfl).1) (by decide)⟩)) c_0 ?_
  have hL0 := c_0.2
  refine tr_s (.iload_n 1) 1 49 [some (.ref 1089), some (.int x1), w2, some (.int x3), some (.int x4), some (.int x5), some (.int x6)] [.int x1, .int v0] h1 rfl rfl rfl ?_
  exact tr_if2 .lt 10 59 v0 x1 rfl rfl rfl (fun hc => t ((tr_lt hc).1 rfl)) (fun hc => f ((tr_lt hc).2 rfl))
theorem sg_X7_reachedWith_52 {g : tr_g} {d : Nat} {h : ev_AH} {r : ev_O × ev_AH} {x1 x3 x4 x5 x6 : Int32} {w2 : Option Value} (hL : hh_L h) (o2 : tr_ow w2 = true) (k : tr_L g d m_X7_reachedWith 25 [some (.ref 1089), some (.int x1), w2, some (.int (x3 ||| (1 <<< (x6 &&& 31)))), some (.int x4), some (.int x5), some (.int (x6 + 1))] [] h r) : tr_L g d m_X7_reachedWith 52 [some (.ref 1089), some (.int x1), w2, some (.int x3), some (.int x4), some (.int x5), some (.int x6)] [] h r := by
  refine tr_s (.iload_n 3) 1 53 [some (.ref 1089), some (.int x1), w2, some (.int x3), some (.int x4), some (.int x5), some (.int x6)] [.int x3] h rfl rfl rfl ?_
  refine tr_ic 1 1 (by decide) rfl ?_
  refine tr_s (.iload 6) 2 56 [some (.ref 1089), some (.int x1), w2, some (.int x3), some (.int x4), some (.int x5), some (.int x6)] [.int x6, .int 1, .int x3] h rfl rfl rfl ?_
  refine tr_s .ishl 1 57 [some (.ref 1089), some (.int x1), w2, some (.int x3), some (.int x4), some (.int x5), some (.int x6)] [.int (1 <<< (x6 &&& 31)), .int x3] h rfl rfl rfl ?_
  refine tr_s .ior 1 58 [some (.ref 1089), some (.int x1), w2, some (.int x3), some (.int x4), some (.int x5), some (.int x6)] [.int (x3 ||| (1 <<< (x6 &&& 31)))] h rfl rfl rfl ?_
  refine tr_st (.istore_n 3) 1 3 0 (.int (x3 ||| (1 <<< (x6 &&& 31)))) rfl rfl rfl rfl rfl rfl (tr_sok (Nat.le_of_ble_eq_true rfl) rfl o2) ?_
  refine tr_inc 6 1 x6 1 (by decide) rfl rfl rfl ?_
  refine tr_goto (-37) 25 rfl rfl rfl ?_
  exact k
theorem sg_X7_reachedWith_59 {g : tr_g} {d : Nat} {h : ev_AH} {r : ev_O × ev_AH} {x1 x3 x4 x5 x6 : Int32} {w2 : Option Value} (hL : hh_L h) (k : tr_L g d m_X7_reachedWith 25 [some (.ref 1089), some (.int x1), w2, some (.int x3), some (.int x4), some (.int x5), some (.int (x6 + 1))] [] h r) : tr_L g d m_X7_reachedWith 59 [some (.ref 1089), some (.int x1), w2, some (.int x3), some (.int x4), some (.int x5), some (.int x6)] [] h r := by
  refine tr_inc 6 1 x6 1 (by decide) rfl rfl rfl ?_
  refine tr_goto (-37) 25 rfl rfl rfl ?_
  exact k
theorem sg_X7_reachedWith_65 {g : tr_g} {d : Nat} {h : ev_AH} {r : ev_O × ev_AH} {x1 x3 x4 x5 : Int32} {w2 w6 : Option Value} (hL : hh_L h) (k : tr_L g d m_X7_reachedWith 16 [some (.ref 1089), some (.int x1), w2, some (.int x3), some (.int x4), some (.int (x5 + 1)), w6] [] h r) : tr_L g d m_X7_reachedWith 65 [some (.ref 1089), some (.int x1), w2, some (.int x3), some (.int x4), some (.int x5), w6] [] h r := by
  refine tr_inc 5 1 x5 1 (by decide) rfl rfl rfl ?_
  refine tr_goto (-52) 16 rfl rfl rfl ?_
  exact k
theorem sg_X7_reachedWith_71 {g : tr_g} {d : Nat} {h : ev_AH} {r : ev_O × ev_AH} {x1 x3 x4 : Int32} {w2 w5 w6 : Option Value} (hL : hh_L h) (k : tr_L g d m_X7_reachedWith 7 [some (.ref 1089), some (.int x1), w2, some (.int x3), some (.int (x4 + 1)), w5, w6] [] h r) : tr_L g d m_X7_reachedWith 71 [some (.ref 1089), some (.int x1), w2, some (.int x3), some (.int x4), w5, w6] [] h r := by
  refine tr_inc 4 1 x4 1 (by decide) rfl rfl rfl ?_
  refine tr_goto (-67) 7 rfl rfl rfl ?_
  exact k
theorem sg_X7_reachedWith_77 {g : tr_g} {d : Nat} {h : ev_AH} {r : ev_O × ev_AH} {w0 w1 w2 w4 w5 w6 : Option Value} {x3 : Int32} (hL : hh_L h) (hr : r = (.inl (some (.int x3)), h)) : tr_L g d m_X7_reachedWith 77 [w0, w1, w2, some (.int x3), w4, w5, w6] [] h r := by
  refine tr_s (.iload_n 3) 1 78 [w0, w1, w2, some (.int x3), w4, w5, w6] [.int x3] h rfl rfl rfl ?_
  exact tl_ret hL .ireturn 1 (some (.int x3)) rfl rfl rfl rfl hr
theorem sg_X1_searchByQueue_0 {g : tr_g} {d : Nat} {h : ev_AH} {r : ev_O × ev_AH} {x2 v0 : Int32} {h1 h2 : ev_AH} (hL : hh_L h) (c_0 : tr_L g d m_X1_start 0 [some (.ref 1083), some (.int x2), none] [] (hh_si (hh_si h 83 5 2 0) 83 5 3 0) (.inl (some (.int v0)), h1)) (c_1 : tr_L g d m_X1_putAhead 0 [some (.ref 1083), some (.int v0)] [] h1 (.inl none, h2)) (k : tr_L g (d + 1) m_X1_searchByQueue 21 [some (.ref 1083), some (.ref 1001), some (.int x2), some (.int 0)] [] h2 r) : tr_L g (d + 1) m_X1_searchByQueue 0 [some (.ref 1083), some (.ref 1001), some (.int x2), none] [] h r := by
  refine tr_s (.aload_n 0) 1 1 [some (.ref 1083), some (.ref 1001), some (.int x2), none] [.ref 1083] h rfl rfl rfl ?_
  refine tr_ic 0 0 (by decide) rfl ?_
  refine tl_pf hL 18 83 5 2 [1084, 1085, 0, 0] 0 .int rfl rfl rfl rfl rfl tr_oki ?_
  have hL0 := hh_L_si (sl := 2) (x := 0) hL (show hh_t[83]? = some (.inr (5, [1084, 1085, 0, 0])) from rfl) rfl
  refine tr_s (.aload_n 0) 1 6 [some (.ref 1083), some (.ref 1001), some (.int x2), none] [.ref 1083] (hh_si h 83 5 2 0) rfl rfl rfl ?_
  refine tr_ic 0 0 (by decide) rfl ?_
  refine tl_pf hL0 22 83 5 3 [1084, 1085, 0, 0] 0 .int rfl rfl rfl rfl rfl tr_oki ?_
  have hL1 := hh_L_si (sl := 3) (x := 0) hL0 (show hh_t[83]? = some (.inr (5, [1084, 1085, 0, 0])) from rfl) rfl
  refine tr_s (.aload_n 0) 1 11 [some (.ref 1083), some (.ref 1001), some (.int x2), none] [.ref 1083] (hh_si (hh_si h 83 5 2 0) 83 5 3 0) rfl rfl rfl ?_
  refine tr_s (.aload_n 0) 1 12 [some (.ref 1083), some (.ref 1001), some (.int x2), none] [.ref 1083, .ref 1083] (hh_si (hh_si h 83 5 2 0) 83 5 3 0) rfl rfl rfl ?_
  refine tr_s (.iload_n 2) 1 13 [some (.ref 1083), some (.ref 1001), some (.int x2), none] [.int x2, .ref 1083, .ref 1083] (hh_si (hh_si h 83 5 2 0) 83 5 3 0) rfl rfl rfl ?_
  refine tr_call (.invokevirtual 46) 46 0 1 5 m_X1_start [.ref 1083, .int x2] [.ref 1083] (some (.int v0)) h1 rfl rfl rfl rfl rfl rfl rfl rfl rfl (tr_cok rfl (Or.inr ⟨_, _, rfl, tr_rc (hh_rd (hh_obj hL1 (k := 83) rfl).1) (by decide)⟩)) c_0 ?_
  have hL2 := c_0.2
  refine tr_call (.invokevirtual 49) 49 0 1 5 m_X1_putAhead [.ref 1083, .int v0] [] none h2 rfl rfl rfl rfl rfl rfl rfl rfl rfl (tr_cok rfl (Or.inr ⟨_, _, rfl, tr_rc (hh_rd (hh_obj hL2 (k := 83) rfl).1) (by decide)⟩)) c_1 ?_
  have hL3 := c_1.2
  refine tr_ic 0 0 (by decide) rfl ?_
  refine tr_st (.istore_n 3) 1 3 0 (.int 0) rfl rfl rfl rfl rfl rfl rfl ?_
  exact k
theorem sg_X1_searchByQueue_21 {g : tr_g} {d : Nat} {h : ev_AH} {r : ev_O × ev_AH} {w2 : Option Value} {x3 : Int32} (hL : hh_L h) (t : 512 ≤ x3 → tr_L g d m_X1_searchByQueue 50 [some (.ref 1083), some (.ref 1001), w2, some (.int x3)] [] h r) (f : x3 < 512 → tr_L g d m_X1_searchByQueue 28 [some (.ref 1083), some (.ref 1001), w2, some (.int x3)] [] h r) : tr_L g d m_X1_searchByQueue 21 [some (.ref 1083), some (.ref 1001), w2, some (.int x3)] [] h r := by
  refine tr_s (.iload_n 3) 1 22 [some (.ref 1083), some (.ref 1001), w2, some (.int x3)] [.int x3] h rfl rfl rfl ?_
  refine tr_si 512 512 (by decide) rfl ?_
  exact tr_if2 .ge 25 50 x3 512 rfl rfl rfl (fun hc => t ((tr_ge hc).1 rfl)) (fun hc => f ((tr_ge hc).2 rfl))
theorem sg_X1_searchByQueue_28 {g : tr_g} {d : Nat} {h : ev_AH} {r : ev_O × ev_AH} {w2 : Option Value} {x3 : Int32} (hL : hh_L h) (t : (hh_i h 83 3) ≤ 0 → tr_L g d m_X1_searchByQueue 50 [some (.ref 1083), some (.ref 1001), w2, some (.int x3)] [] h r) (f : 0 < (hh_i h 83 3) → tr_L g d m_X1_searchByQueue 35 [some (.ref 1083), some (.ref 1001), w2, some (.int x3)] [] h r) : tr_L g d m_X1_searchByQueue 28 [some (.ref 1083), some (.ref 1001), w2, some (.int x3)] [] h r := by
  refine tr_s (.aload_n 0) 1 29 [some (.ref 1083), some (.ref 1001), w2, some (.int x3)] [.ref 1083] h rfl rfl rfl ?_
  refine tl_gi hL 22 83 5 3 [1084, 1085, 0, 0] rfl rfl rfl rfl ?_
  exact tr_if1 .le 18 50 (hh_i h 83 3) rfl rfl rfl (fun hc => t ((tr_le hc).1 rfl)) (fun hc => f ((tr_le hc).2 rfl))
theorem sg_X1_searchByQueue_35 {g : tr_g} {d : Nat} {h : ev_AH} {r : ev_O × ev_AH} {w2 : Option Value} {x3 v0 : Int32} {h1 h2 : ev_AH} (hL : hh_L h) (c_0 : tr_L g d m_X1_takeFirst 0 [some (.ref 1083), none] [] h (.inl (some (.int v0)), h1)) (c_1 : tr_L g d m_X1_goOn 0 [some (.ref 1083), some (.ref 1001), some (.int v0), none, none, none, none, none, none, none] [] h1 (.inl none, h2)) (o2 : tr_ow w2 = true) (k : tr_L g (d + 1) m_X1_searchByQueue 21 [some (.ref 1083), some (.ref 1001), w2, some (.int (x3 + 1))] [] h2 r) : tr_L g (d + 1) m_X1_searchByQueue 35 [some (.ref 1083), some (.ref 1001), w2, some (.int x3)] [] h r := by
  refine tr_s (.aload_n 0) 1 36 [some (.ref 1083), some (.ref 1001), w2, some (.int x3)] [.ref 1083] h rfl rfl rfl ?_
  refine tr_s (.aload_n 1) 1 37 [some (.ref 1083), some (.ref 1001), w2, some (.int x3)] [.ref 1001, .ref 1083] h rfl rfl rfl ?_
  refine tr_s (.aload_n 0) 1 38 [some (.ref 1083), some (.ref 1001), w2, some (.int x3)] [.ref 1083, .ref 1001, .ref 1083] h rfl rfl rfl ?_
  refine tr_call (.invokevirtual 53) 53 0 0 5 m_X1_takeFirst [.ref 1083] [.ref 1001, .ref 1083] (some (.int v0)) h1 rfl rfl rfl rfl rfl rfl rfl rfl rfl (tr_cok rfl (Or.inr ⟨_, _, rfl, tr_rc (hh_rd (hh_obj hL (k := 83) rfl).1) (by decide)⟩)) c_0 ?_
  have hL0 := c_0.2
  refine tr_call (.invokevirtual 57) 57 0 2 5 m_X1_goOn [.ref 1083, .ref 1001, .int v0] [] none h2 rfl rfl rfl rfl rfl rfl rfl rfl rfl (tr_cok rfl (Or.inr ⟨_, _, rfl, tr_rc (hh_rd (hh_obj hL0 (k := 83) rfl).1) (by decide)⟩)) c_1 ?_
  have hL1 := c_1.2
  refine tr_inc 3 1 x3 1 (by decide) rfl rfl (tr_sok (Nat.le_of_ble_eq_true rfl) rfl o2) ?_
  refine tr_goto (-26) 21 rfl rfl rfl ?_
  exact k
theorem sg_X1_searchByQueue_50 {g : tr_g} {d : Nat} {h : ev_AH} {r : ev_O × ev_AH} {w0 w1 w2 w3 : Option Value} (hL : hh_L h) (hr : r = (.inl (none), h)) : tr_L g d m_X1_searchByQueue 50 [w0, w1, w2, w3] [] h r := by
  exact tl_ret hL .return_ 1 none rfl rfl rfl rfl hr
theorem sg_X1_start_0 {g : tr_g} {d : Nat} {h : ev_AH} {r : ev_O × ev_AH} {x1 : Int32} (hL : hh_L h) (k : tr_L g d m_X1_start 2 [some (.ref 1083), some (.int x1), some (.int 0)] [] h r) : tr_L g d m_X1_start 0 [some (.ref 1083), some (.int x1), none] [] h r := by
  refine tr_ic 0 0 (by decide) rfl ?_
  refine tr_st (.istore_n 2) 1 2 0 (.int 0) rfl rfl rfl rfl rfl rfl rfl ?_
  exact k
theorem sg_X1_start_2 {g : tr_g} {d : Nat} {h : ev_AH} {r : ev_O × ev_AH} {x1 x2 : Int32} (hL : hh_L h) (t : 140 ≤ x2 → tr_L g d m_X1_start 26 [some (.ref 1083), some (.int x1), some (.int x2)] [] h r) (f : x2 < 140 → tr_L g d m_X1_start 11 [some (.ref 1083), some (.int x1), some (.int x2)] [] h r) : tr_L g d m_X1_start 2 [some (.ref 1083), some (.int x1), some (.int x2)] [] h r := by
  refine tr_s (.iload_n 2) 1 3 [some (.ref 1083), some (.int x1), some (.int x2)] [.int x2] h rfl rfl rfl ?_
  refine tr_s (.aload_n 0) 1 4 [some (.ref 1083), some (.int x1), some (.int x2)] [.ref 1083, .int x2] h rfl rfl rfl ?_
  refine tl_gr hL 9 83 5 0 84 [1084, 1085, 0, 0] rfl rfl rfl rfl ?_
  refine tl_al hL 84 0 140 rfl rfl (by decide) 140 (by decide) ?_
  exact tr_if2 .ge 18 26 x2 140 rfl rfl rfl (fun hc => t ((tr_ge hc).1 rfl)) (fun hc => f ((tr_ge hc).2 rfl))
theorem sg_X1_start_11 {g : tr_g} {d : Nat} {h : ev_AH} {r : ev_O × ev_AH} {x1 x2 : Int32} {j0 : Nat} (hL : hh_L h) (e0 : x2 = Int32.ofNat j0) (b0 : j0 < 140) (k : tr_L g d m_X1_start 2 [some (.ref 1083), some (.int x1), some (.int (x2 + 1))] [] (hh_sa h 84 0 ((hh_a h 84).set j0 1000)) r) : tr_L g d m_X1_start 11 [some (.ref 1083), some (.int x1), some (.int x2)] [] h r := by
  refine tr_s (.aload_n 0) 1 12 [some (.ref 1083), some (.int x1), some (.int x2)] [.ref 1083] h rfl rfl rfl ?_
  refine tl_gr hL 9 83 5 0 84 [1084, 1085, 0, 0] rfl rfl rfl rfl ?_
  refine tr_s (.iload_n 2) 1 16 [some (.ref 1083), some (.int x1), some (.int x2)] [.int x2, .ref 1084] h rfl rfl rfl ?_
  refine tr_si 1000 1000 (by decide) rfl ?_
  refine tl_ias hL 84 140 j0 x2 1000 rfl rfl e0 b0 (by decide) ?_
  have hL0 := hh_L_ss (j := j0) (x := 1000) hL (show hh_t[84]? = some (.inl (0, 140)) from rfl)
  refine tr_inc 2 1 x2 1 (by decide) rfl rfl rfl ?_
  refine tr_goto (-21) 2 rfl rfl rfl ?_
  exact k
theorem sg_X1_start_26 {g : tr_g} {d : Nat} {h : ev_AH} {r : ev_O × ev_AH} {x1 v0 v1 v2 : Int32} {w2 : Option Value} {h1 h2 h3 h4 : ev_AH} (hL : hh_L h) (c_0 : tr_L g d m_X0_cellAt 0 [some (.int x1)] [] h (.inl (some (.int v0)), h1)) (c_1 : tr_L g d m_X0_directionAt 0 [some (.int x1)] [] h1 (.inl (some (.int v1)), h2)) (c_2 : tr_L g d m_X0_side 0 [some (.int v0), some (.int v1)] [] h2 (.inl (some (.int v2)), h3)) (c_3 : tr_L g d m_X8_put 0 [some (.ref 1084), some (.int v2), some (.int 0)] [] h3 (.inl none, h4)) (hr : r = (.inl (some (.int v2)), h4)) : tr_L g (d + 1) m_X1_start 26 [some (.ref 1083), some (.int x1), w2] [] h r := by
  refine tr_s (.iload_n 1) 1 27 [some (.ref 1083), some (.int x1), w2] [.int x1] h rfl rfl rfl ?_
  refine tr_call (.invokestatic 25) 25 3 1 0 m_X0_cellAt [.int x1] [] (some (.int v0)) h1 rfl rfl rfl rfl rfl rfl rfl rfl rfl (tr_cok rfl (Or.inl rfl)) c_0 ?_
  have hL0 := c_0.2
  refine tr_s (.iload_n 1) 1 31 [some (.ref 1083), some (.int x1), w2] [.int x1, .int v0] h1 rfl rfl rfl ?_
  refine tr_call (.invokestatic 31) 31 3 1 0 m_X0_directionAt [.int x1] [.int v0] (some (.int v1)) h2 rfl rfl rfl rfl rfl rfl rfl rfl rfl (tr_cok rfl (Or.inl rfl)) c_1 ?_
  have hL1 := c_1.2
  refine tr_call (.invokestatic 34) 34 3 2 0 m_X0_side [.int v0, .int v1] [] (some (.int v2)) h3 rfl rfl rfl rfl rfl rfl rfl rfl rfl (tr_cok rfl (Or.inl rfl)) c_2 ?_
  have hL2 := c_2.2
  refine tr_st (.istore_n 2) 1 2 0 (.int v2) rfl rfl rfl rfl rfl rfl rfl ?_
  refine tr_s (.aload_n 0) 1 39 [some (.ref 1083), some (.int x1), some (.int v2)] [.ref 1083] h3 rfl rfl rfl ?_
  refine tl_gr hL2 9 83 5 0 84 [1084, 1085, 0, 0] rfl rfl rfl rfl ?_
  refine tr_s (.iload_n 2) 1 43 [some (.ref 1083), some (.int x1), some (.int v2)] [.int v2, .ref 1084] h3 rfl rfl rfl ?_
  refine tr_ic 0 0 (by decide) rfl ?_
  refine tr_call (.invokestatic 38) 38 3 3 0 m_X8_put [.ref 1084, .int v2, .int 0] [] none h4 rfl rfl rfl rfl rfl rfl rfl rfl rfl (tr_cok rfl (Or.inl rfl)) c_3 ?_
  have hL3 := c_3.2
  refine tr_s (.iload_n 2) 1 48 [some (.ref 1083), some (.int x1), some (.int v2)] [.int v2] h4 rfl rfl rfl ?_
  exact tl_ret hL3 .ireturn 1 (some (.int v2)) rfl rfl rfl rfl hr
theorem sg_X1_start_l_0 {g : tr_g} {d : Nat} {h : ev_AH} {r : ev_O × ev_AH} {x1 : Int32} (hL : hh_L h) (k : tr_L g d m_X1_start 2 [some (.ref 1086), some (.int x1), some (.int 0)] [] h r) : tr_L g d m_X1_start 0 [some (.ref 1086), some (.int x1), none] [] h r := by
  refine tr_ic 0 0 (by decide) rfl ?_
  refine tr_st (.istore_n 2) 1 2 0 (.int 0) rfl rfl rfl rfl rfl rfl rfl ?_
  exact k
theorem sg_X1_start_l_2 {g : tr_g} {d : Nat} {h : ev_AH} {r : ev_O × ev_AH} {x1 x2 : Int32} (hL : hh_L h) (t : 140 ≤ x2 → tr_L g d m_X1_start 26 [some (.ref 1086), some (.int x1), some (.int x2)] [] h r) (f : x2 < 140 → tr_L g d m_X1_start 11 [some (.ref 1086), some (.int x1), some (.int x2)] [] h r) : tr_L g d m_X1_start 2 [some (.ref 1086), some (.int x1), some (.int x2)] [] h r := by
  refine tr_s (.iload_n 2) 1 3 [some (.ref 1086), some (.int x1), some (.int x2)] [.int x2] h rfl rfl rfl ?_
  refine tr_s (.aload_n 0) 1 4 [some (.ref 1086), some (.int x1), some (.int x2)] [.ref 1086, .int x2] h rfl rfl rfl ?_
  refine tl_gr hL 9 86 5 0 87 [1087, 1088, 0, 0] rfl rfl rfl rfl ?_
  refine tl_al hL 87 0 140 rfl rfl (by decide) 140 (by decide) ?_
  exact tr_if2 .ge 18 26 x2 140 rfl rfl rfl (fun hc => t ((tr_ge hc).1 rfl)) (fun hc => f ((tr_ge hc).2 rfl))
theorem sg_X1_start_l_11 {g : tr_g} {d : Nat} {h : ev_AH} {r : ev_O × ev_AH} {x1 x2 : Int32} {j0 : Nat} (hL : hh_L h) (e0 : x2 = Int32.ofNat j0) (b0 : j0 < 140) (k : tr_L g d m_X1_start 2 [some (.ref 1086), some (.int x1), some (.int (x2 + 1))] [] (hh_sa h 87 0 ((hh_a h 87).set j0 1000)) r) : tr_L g d m_X1_start 11 [some (.ref 1086), some (.int x1), some (.int x2)] [] h r := by
  refine tr_s (.aload_n 0) 1 12 [some (.ref 1086), some (.int x1), some (.int x2)] [.ref 1086] h rfl rfl rfl ?_
  refine tl_gr hL 9 86 5 0 87 [1087, 1088, 0, 0] rfl rfl rfl rfl ?_
  refine tr_s (.iload_n 2) 1 16 [some (.ref 1086), some (.int x1), some (.int x2)] [.int x2, .ref 1087] h rfl rfl rfl ?_
  refine tr_si 1000 1000 (by decide) rfl ?_
  refine tl_ias hL 87 140 j0 x2 1000 rfl rfl e0 b0 (by decide) ?_
  have hL0 := hh_L_ss (j := j0) (x := 1000) hL (show hh_t[87]? = some (.inl (0, 140)) from rfl)
  refine tr_inc 2 1 x2 1 (by decide) rfl rfl rfl ?_
  refine tr_goto (-21) 2 rfl rfl rfl ?_
  exact k
theorem sg_X1_start_l_26 {g : tr_g} {d : Nat} {h : ev_AH} {r : ev_O × ev_AH} {x1 v0 v1 v2 : Int32} {w2 : Option Value} {h1 h2 h3 h4 : ev_AH} (hL : hh_L h) (c_0 : tr_L g d m_X0_cellAt 0 [some (.int x1)] [] h (.inl (some (.int v0)), h1)) (c_1 : tr_L g d m_X0_directionAt 0 [some (.int x1)] [] h1 (.inl (some (.int v1)), h2)) (c_2 : tr_L g d m_X0_side 0 [some (.int v0), some (.int v1)] [] h2 (.inl (some (.int v2)), h3)) (c_3 : tr_L g d m_X8_put 0 [some (.ref 1087), some (.int v2), some (.int 0)] [] h3 (.inl none, h4)) (hr : r = (.inl (some (.int v2)), h4)) : tr_L g (d + 1) m_X1_start 26 [some (.ref 1086), some (.int x1), w2] [] h r := by
  refine tr_s (.iload_n 1) 1 27 [some (.ref 1086), some (.int x1), w2] [.int x1] h rfl rfl rfl ?_
  refine tr_call (.invokestatic 25) 25 3 1 0 m_X0_cellAt [.int x1] [] (some (.int v0)) h1 rfl rfl rfl rfl rfl rfl rfl rfl rfl (tr_cok rfl (Or.inl rfl)) c_0 ?_
  have hL0 := c_0.2
  refine tr_s (.iload_n 1) 1 31 [some (.ref 1086), some (.int x1), w2] [.int x1, .int v0] h1 rfl rfl rfl ?_
  refine tr_call (.invokestatic 31) 31 3 1 0 m_X0_directionAt [.int x1] [.int v0] (some (.int v1)) h2 rfl rfl rfl rfl rfl rfl rfl rfl rfl (tr_cok rfl (Or.inl rfl)) c_1 ?_
  have hL1 := c_1.2
  refine tr_call (.invokestatic 34) 34 3 2 0 m_X0_side [.int v0, .int v1] [] (some (.int v2)) h3 rfl rfl rfl rfl rfl rfl rfl rfl rfl (tr_cok rfl (Or.inl rfl)) c_2 ?_
  have hL2 := c_2.2
  refine tr_st (.istore_n 2) 1 2 0 (.int v2) rfl rfl rfl rfl rfl rfl rfl ?_
  refine tr_s (.aload_n 0) 1 39 [some (.ref 1086), some (.int x1), some (.int v2)] [.ref 1086] h3 rfl rfl rfl ?_
  refine tl_gr hL2 9 86 5 0 87 [1087, 1088, 0, 0] rfl rfl rfl rfl ?_
  refine tr_s (.iload_n 2) 1 43 [some (.ref 1086), some (.int x1), some (.int v2)] [.int v2, .ref 1087] h3 rfl rfl rfl ?_
  refine tr_ic 0 0 (by decide) rfl ?_
  refine tr_call (.invokestatic 38) 38 3 3 0 m_X8_put [.ref 1087, .int v2, .int 0] [] none h4 rfl rfl rfl rfl rfl rfl rfl rfl rfl (tr_cok rfl (Or.inl rfl)) c_3 ?_
  have hL3 := c_3.2
  refine tr_s (.iload_n 2) 1 48 [some (.ref 1086), some (.int x1), some (.int v2)] [.int v2] h4 rfl rfl rfl ?_
  exact tl_ret hL3 .ireturn 1 (some (.int v2)) rfl rfl rfl rfl hr
theorem sg_X1_putAhead_0 {g : tr_g} {d : Nat} {h : ev_AH} {r : ev_O × ev_AH} {x1 : Int32} (hL : hh_L h) (t : 512 ≤ (hh_i h 83 3) → tr_L g d m_X1_putAhead 50 [some (.ref 1083), some (.int x1)] [] h r) (f : (hh_i h 83 3) < 512 → tr_L g d m_X1_putAhead 10 [some (.ref 1083), some (.int x1)] [] h r) : tr_L g d m_X1_putAhead 0 [some (.ref 1083), some (.int x1)] [] h r := by
  refine tr_s (.aload_n 0) 1 1 [some (.ref 1083), some (.int x1)] [.ref 1083] h rfl rfl rfl ?_
  refine tl_gi hL 22 83 5 3 [1084, 1085, 0, 0] rfl rfl rfl rfl ?_
  refine tr_si 512 512 (by decide) rfl ?_
  exact tr_if2 .ge 43 50 (hh_i h 83 3) 512 rfl rfl rfl (fun hc => t ((tr_ge hc).1 rfl)) (fun hc => f ((tr_ge hc).2 rfl))
theorem sg_X1_putAhead_10 {g : tr_g} {d : Nat} {h : ev_AH} {r : ev_O × ev_AH} {x1 : Int32} {h1 : ev_AH} (hL : hh_L h) (c_0 : tr_L g d m_X8_put 0 [some (.ref 1085), some (.int (hh_i (hh_si h 83 5 2 ((((hh_i h 83 2) + 512) - 1) - (((hh_i h 83 2) + 512) - 1) / 512 * 512)) 83 2)), some (.int x1)] [] (hh_si h 83 5 2 ((((hh_i h 83 2) + 512) - 1) - (((hh_i h 83 2) + 512) - 1) / 512 * 512)) (.inl none, h1)) (hr : r = (.inl (none), hh_si h1 83 5 3 ((hh_i h1 83 3) + 1))) : tr_L g (d + 1) m_X1_putAhead 10 [some (.ref 1083), some (.int x1)] [] h r := by
  refine tr_s (.aload_n 0) 1 11 [some (.ref 1083), some (.int x1)] [.ref 1083] h rfl rfl rfl ?_
  refine tr_s (.aload_n 0) 1 12 [some (.ref 1083), some (.int x1)] [.ref 1083, .ref 1083] h rfl rfl rfl ?_
  refine tl_gi hL 18 83 5 2 [1084, 1085, 0, 0] rfl rfl rfl rfl ?_
  refine tr_si 512 512 (by decide) rfl ?_
  refine tr_s .iadd 1 19 [some (.ref 1083), some (.int x1)] [.int ((hh_i h 83 2) + 512), .ref 1083] h rfl rfl rfl ?_
  refine tr_ic 1 1 (by decide) rfl ?_
  refine tr_s .isub 1 21 [some (.ref 1083), some (.int x1)] [.int (((hh_i h 83 2) + 512) - 1), .ref 1083] h rfl rfl rfl ?_
  refine tr_si 512 512 (by decide) rfl ?_
  refine tr_s .irem 1 25 [some (.ref 1083), some (.int x1)] [.int ((((hh_i h 83 2) + 512) - 1) - (((hh_i h 83 2) + 512) - 1) / 512 * 512), .ref 1083] h rfl rfl rfl ?_
  refine tl_pf hL 18 83 5 2 [1084, 1085, 0, 0] ((((hh_i h 83 2) + 512) - 1) - (((hh_i h 83 2) + 512) - 1) / 512 * 512) .int rfl rfl rfl rfl rfl tr_oki ?_
  have hL0 := hh_L_si (sl := 2) (x := ((((hh_i h 83 2) + 512) - 1) - (((hh_i h 83 2) + 512) - 1) / 512 * 512)) hL (show hh_t[83]? = some (.inr (5, [1084, 1085, 0, 0])) from rfl) rfl
  refine tr_s (.aload_n 0) 1 29 [some (.ref 1083), some (.int x1)] [.ref 1083] (hh_si h 83 5 2 ((((hh_i h 83 2) + 512) - 1) - (((hh_i h 83 2) + 512) - 1) / 512 * 512)) rfl rfl rfl ?_
  refine tl_gr hL0 15 83 5 1 85 [1084, 1085, 0, 0] rfl rfl rfl rfl ?_
  refine tr_s (.aload_n 0) 1 33 [some (.ref 1083), some (.int x1)] [.ref 1083, .ref 1085] (hh_si h 83 5 2 ((((hh_i h 83 2) + 512) - 1) - (((hh_i h 83 2) + 512) - 1) / 512 * 512)) rfl rfl rfl ?_
  refine tl_gi hL0 18 83 5 2 [1084, 1085, 0, 0] rfl rfl rfl rfl ?_
  refine tr_s (.iload_n 1) 1 37 [some (.ref 1083), some (.int x1)] [.int x1, .int (hh_i (hh_si h 83 5 2 ((((hh_i h 83 2) + 512) - 1) - (((hh_i h 83 2) + 512) - 1) / 512 * 512)) 83 2), .ref 1085] (hh_si h 83 5 2 ((((hh_i h 83 2) + 512) - 1) - (((hh_i h 83 2) + 512) - 1) / 512 * 512)) rfl rfl rfl ?_
  refine tr_call (.invokestatic 38) 38 3 3 0 m_X8_put [.ref 1085, .int (hh_i (hh_si h 83 5 2 ((((hh_i h 83 2) + 512) - 1) - (((hh_i h 83 2) + 512) - 1) / 512 * 512)) 83 2), .int x1] [] none h1 rfl rfl rfl rfl rfl rfl rfl rfl rfl (tr_cok rfl (Or.inl rfl)) c_0 ?_
  have hL1 := c_0.2
  refine tr_s (.aload_n 0) 1 41 [some (.ref 1083), some (.int x1)] [.ref 1083] h1 rfl rfl rfl ?_
  refine tr_s .dup 1 42 [some (.ref 1083), some (.int x1)] [.ref 1083, .ref 1083] h1 rfl rfl rfl ?_
  refine tl_gi hL1 22 83 5 3 [1084, 1085, 0, 0] rfl rfl rfl rfl ?_
  refine tr_ic 1 1 (by decide) rfl ?_
  refine tr_s .iadd 1 47 [some (.ref 1083), some (.int x1)] [.int ((hh_i h1 83 3) + 1), .ref 1083] h1 rfl rfl rfl ?_
  refine tl_pf hL1 22 83 5 3 [1084, 1085, 0, 0] ((hh_i h1 83 3) + 1) .int rfl rfl rfl rfl rfl tr_oki ?_
  have hL2 := hh_L_si (sl := 3) (x := ((hh_i h1 83 3) + 1)) hL1 (show hh_t[83]? = some (.inr (5, [1084, 1085, 0, 0])) from rfl) rfl
  exact tl_ret hL2 .return_ 1 none rfl rfl rfl rfl hr
theorem sg_X1_putAhead_50 {g : tr_g} {d : Nat} {h : ev_AH} {r : ev_O × ev_AH} {w0 w1 : Option Value} (hL : hh_L h) (hr : r = (.inl (none), h)) : tr_L g d m_X1_putAhead 50 [w0, w1] [] h r := by
  exact tl_ret hL .return_ 1 none rfl rfl rfl rfl hr
theorem sg_X1_takeFirst_0 {g : tr_g} {d : Nat} {h : ev_AH} {r : ev_O × ev_AH} {h1 : ev_AH} {v0 : Int32} (hL : hh_L h) (c_0 : tr_L g d m_X8_at 0 [some (.ref 1085), some (.int (hh_i h 83 2))] [] h (.inl (some (.int v0)), h1)) (hr : r = (.inl (some (.int v0)), hh_si (hh_si h1 83 5 2 (((hh_i h1 83 2) + 1) - ((hh_i h1 83 2) + 1) / 512 * 512)) 83 5 3 ((hh_i (hh_si h1 83 5 2 (((hh_i h1 83 2) + 1) - ((hh_i h1 83 2) + 1) / 512 * 512)) 83 3) - 1))) : tr_L g (d + 1) m_X1_takeFirst 0 [some (.ref 1083), none] [] h r := by
  refine tr_s (.aload_n 0) 1 1 [some (.ref 1083), none] [.ref 1083] h rfl rfl rfl ?_
  refine tl_gr hL 15 83 5 1 85 [1084, 1085, 0, 0] rfl rfl rfl rfl ?_
  refine tr_s (.aload_n 0) 1 5 [some (.ref 1083), none] [.ref 1083, .ref 1085] h rfl rfl rfl ?_
  refine tl_gi hL 18 83 5 2 [1084, 1085, 0, 0] rfl rfl rfl rfl ?_
  refine tr_call (.invokestatic 42) 42 3 2 0 m_X8_at [.ref 1085, .int (hh_i h 83 2)] [] (some (.int v0)) h1 rfl rfl rfl rfl rfl rfl rfl rfl rfl (tr_cok rfl (Or.inl rfl)) c_0 ?_
  have hL0 := c_0.2
  refine tr_st (.istore_n 1) 1 1 0 (.int v0) rfl rfl rfl rfl rfl rfl rfl ?_
  refine tr_s (.aload_n 0) 1 13 [some (.ref 1083), some (.int v0)] [.ref 1083] h1 rfl rfl rfl ?_
  refine tr_s (.aload_n 0) 1 14 [some (.ref 1083), some (.int v0)] [.ref 1083, .ref 1083] h1 rfl rfl rfl ?_
  refine tl_gi hL0 18 83 5 2 [1084, 1085, 0, 0] rfl rfl rfl rfl ?_
  refine tr_ic 1 1 (by decide) rfl ?_
  refine tr_s .iadd 1 19 [some (.ref 1083), some (.int v0)] [.int ((hh_i h1 83 2) + 1), .ref 1083] h1 rfl rfl rfl ?_
  refine tr_si 512 512 (by decide) rfl ?_
  refine tr_s .irem 1 23 [some (.ref 1083), some (.int v0)] [.int (((hh_i h1 83 2) + 1) - ((hh_i h1 83 2) + 1) / 512 * 512), .ref 1083] h1 rfl rfl rfl ?_
  refine tl_pf hL0 18 83 5 2 [1084, 1085, 0, 0] (((hh_i h1 83 2) + 1) - ((hh_i h1 83 2) + 1) / 512 * 512) .int rfl rfl rfl rfl rfl tr_oki ?_
  have hL1 := hh_L_si (sl := 2) (x := (((hh_i h1 83 2) + 1) - ((hh_i h1 83 2) + 1) / 512 * 512)) hL0 (show hh_t[83]? = some (.inr (5, [1084, 1085, 0, 0])) from rfl) rfl
  refine tr_s (.aload_n 0) 1 27 [some (.ref 1083), some (.int v0)] [.ref 1083] (hh_si h1 83 5 2 (((hh_i h1 83 2) + 1) - ((hh_i h1 83 2) + 1) / 512 * 512)) rfl rfl rfl ?_
  refine tr_s .dup 1 28 [some (.ref 1083), some (.int v0)] [.ref 1083, .ref 1083] (hh_si h1 83 5 2 (((hh_i h1 83 2) + 1) - ((hh_i h1 83 2) + 1) / 512 * 512)) rfl rfl rfl ?_
  refine tl_gi hL1 22 83 5 3 [1084, 1085, 0, 0] rfl rfl rfl rfl ?_
  refine tr_ic 1 1 (by decide) rfl ?_
  refine tr_s .isub 1 33 [some (.ref 1083), some (.int v0)] [.int ((hh_i (hh_si h1 83 5 2 (((hh_i h1 83 2) + 1) - ((hh_i h1 83 2) + 1) / 512 * 512)) 83 3) - 1), .ref 1083] (hh_si h1 83 5 2 (((hh_i h1 83 2) + 1) - ((hh_i h1 83 2) + 1) / 512 * 512)) rfl rfl rfl ?_
  refine tl_pf hL1 22 83 5 3 [1084, 1085, 0, 0] ((hh_i (hh_si h1 83 5 2 (((hh_i h1 83 2) + 1) - ((hh_i h1 83 2) + 1) / 512 * 512)) 83 3) - 1) .int rfl rfl rfl rfl rfl tr_oki ?_
  have hL2 := hh_L_si (sl := 3) (x := ((hh_i (hh_si h1 83 5 2 (((hh_i h1 83 2) + 1) - ((hh_i h1 83 2) + 1) / 512 * 512)) 83 3) - 1)) hL1 (show hh_t[83]? = some (.inr (5, [1084, 1085, 0, 0])) from rfl) rfl
  refine tr_s (.iload_n 1) 1 37 [some (.ref 1083), some (.int v0)] [.int v0] (hh_si (hh_si h1 83 5 2 (((hh_i h1 83 2) + 1) - ((hh_i h1 83 2) + 1) / 512 * 512)) 83 5 3 ((hh_i (hh_si h1 83 5 2 (((hh_i h1 83 2) + 1) - ((hh_i h1 83 2) + 1) / 512 * 512)) 83 3) - 1)) rfl rfl rfl ?_
  exact tl_ret hL2 .ireturn 1 (some (.int v0)) rfl rfl rfl rfl hr
theorem sg_X1_goOn_0 {g : tr_g} {d : Nat} {h : ev_AH} {r : ev_O × ev_AH} {x2 v0 : Int32} {h1 : ev_AH} (hL : hh_L h) (c_0 : tr_L g d m_X8_at_ 0 [some (.ref 1002), some (.int (x2 / 4))] [] h (.inl (some (.int v0)), h1)) (t : v0 ≠ 99 → tr_L g (d + 1) m_X1_goOn 27 [some (.ref 1083), some (.ref 1001), some (.int x2), some (.int (x2 / 4)), some (.int (x2 - x2 / 4 * 4)), some (.int v0), none, none, none, none] [] h1 r) (f : v0 = 99 → tr_L g (d + 1) m_X1_goOn 26 [some (.ref 1083), some (.ref 1001), some (.int x2), some (.int (x2 / 4)), some (.int (x2 - x2 / 4 * 4)), some (.int v0), none, none, none, none] [] h1 r) : tr_L g (d + 1) m_X1_goOn 0 [some (.ref 1083), some (.ref 1001), some (.int x2), none, none, none, none, none, none, none] [] h r := by
  refine tr_s (.iload_n 2) 1 1 [some (.ref 1083), some (.ref 1001), some (.int x2), none, none, none, none, none, none, none] [.int x2] h rfl rfl rfl ?_
  refine tr_ic 4 4 (by decide) rfl ?_
  refine tr_s .idiv 1 3 [some (.ref 1083), some (.ref 1001), some (.int x2), none, none, none, none, none, none, none] [.int (x2 / 4)] h rfl rfl rfl ?_
  refine tr_st (.istore_n 3) 1 3 0 (.int (x2 / 4)) rfl rfl rfl rfl rfl rfl rfl ?_
  refine tr_s (.iload_n 2) 1 5 [some (.ref 1083), some (.ref 1001), some (.int x2), some (.int (x2 / 4)), none, none, none, none, none, none] [.int x2] h rfl rfl rfl ?_
  refine tr_ic 4 4 (by decide) rfl ?_
  refine tr_s .irem 1 7 [some (.ref 1083), some (.ref 1001), some (.int x2), some (.int (x2 / 4)), none, none, none, none, none, none] [.int (x2 - x2 / 4 * 4)] h rfl rfl rfl ?_
  refine tr_st (.istore 4) 2 4 0 (.int (x2 - x2 / 4 * 4)) rfl rfl rfl rfl rfl rfl rfl ?_
  refine tr_s (.aload_n 1) 1 10 [some (.ref 1083), some (.ref 1001), some (.int x2), some (.int (x2 / 4)), some (.int (x2 - x2 / 4 * 4)), none, none, none, none, none] [.ref 1001] h rfl rfl rfl ?_
  refine tl_gr hL 61 1 1 0 2 [1002, 1003, 1004, 1005, 1006, 1007, 0, 0, 0, 0, 0, 0, 0, 0] rfl rfl rfl rfl ?_
  refine tr_s (.iload_n 3) 1 14 [some (.ref 1083), some (.ref 1001), some (.int x2), some (.int (x2 / 4)), some (.int (x2 - x2 / 4 * 4)), none, none, none, none, none] [.int (x2 / 4), .ref 1002] h rfl rfl rfl ?_
  refine tr_call (.invokestatic 67) 67 3 2 0 m_X8_at_ [.ref 1002, .int (x2 / 4)] [] (some (.int v0)) h1 rfl rfl rfl rfl rfl rfl rfl rfl rfl (tr_cok rfl (Or.inl rfl)) c_0 ?_
  have hL0 := c_0.2
  refine tr_st (.istore 5) 2 5 0 (.int v0) rfl rfl rfl rfl rfl rfl rfl ?_
  refine tr_s (.iload 5) 2 21 [some (.ref 1083), some (.ref 1001), some (.int x2), some (.int (x2 / 4)), some (.int (x2 - x2 / 4 * 4)), some (.int v0), none, none, none, none] [.int v0] h1 rfl rfl rfl ?_
  refine tr_bi 99 99 (by decide) rfl ?_
  exact tr_if2 .ne 4 27 v0 99 rfl rfl rfl (fun hc => t ((tr_ne hc).1 rfl)) (fun hc => f ((tr_ne hc).2 rfl))
theorem sg_X1_goOn_26 {g : tr_g} {d : Nat} {h : ev_AH} {r : ev_O × ev_AH} {w0 w1 w2 w3 w4 w5 w6 w7 w8 w9 : Option Value} (hL : hh_L h) (hr : r = (.inl (none), h)) : tr_L g d m_X1_goOn 26 [w0, w1, w2, w3, w4, w5, w6, w7, w8, w9] [] h r := by
  exact tl_ret hL .return_ 1 none rfl rfl rfl rfl hr
theorem sg_X1_goOn_27 {g : tr_g} {d : Nat} {h : ev_AH} {r : ev_O × ev_AH} {w1 w6 w7 w8 w9 : Option Value} {x2 x3 x4 x5 v0 v1 : Int32} {h1 h2 : ev_AH} (hL : hh_L h) (c_0 : tr_L g d m_X0_reflected 0 [some (.int x5), some (.int x4)] [] h (.inl (some (.int v0)), h1)) (c_1 : tr_L g d m_X8_at 0 [some (.ref 1084), some (.int x2)] [] h1 (.inl (some (.int v1)), h2)) (k : tr_L g (d + 1) m_X1_goOn 49 [some (.ref 1083), w1, some (.int x2), some (.int x3), some (.int x4), some (.int x5), some (.int v0), some (.int v1), some (.int 0), w9] [] h2 r) : tr_L g (d + 1) m_X1_goOn 27 [some (.ref 1083), w1, some (.int x2), some (.int x3), some (.int x4), some (.int x5), w6, w7, w8, w9] [] h r := by
  refine tr_s (.iload 5) 2 29 [some (.ref 1083), w1, some (.int x2), some (.int x3), some (.int x4), some (.int x5), w6, w7, w8, w9] [.int x5] h rfl rfl rfl ?_
  refine tr_s (.iload 4) 2 31 [some (.ref 1083), w1, some (.int x2), some (.int x3), some (.int x4), some (.int x5), w6, w7, w8, w9] [.int x4, .int x5] h rfl rfl rfl ?_
  refine tr_call (.invokestatic 70) 70 3 2 0 m_X0_reflected [.int x5, .int x4] [] (some (.int v0)) h1 rfl rfl rfl rfl rfl rfl rfl rfl rfl (tr_cok rfl (Or.inl rfl)) c_0 ?_
  have hL0 := c_0.2
  refine tr_st (.istore 6) 2 6 0 (.int v0) rfl rfl rfl rfl rfl rfl rfl ?_
  refine tr_s (.aload_n 0) 1 37 [some (.ref 1083), w1, some (.int x2), some (.int x3), some (.int x4), some (.int x5), some (.int v0), w7, w8, w9] [.ref 1083] h1 rfl rfl rfl ?_
  refine tl_gr hL0 9 83 5 0 84 [1084, 1085, 0, 0] rfl rfl rfl rfl ?_
  refine tr_s (.iload_n 2) 1 41 [some (.ref 1083), w1, some (.int x2), some (.int x3), some (.int x4), some (.int x5), some (.int v0), w7, w8, w9] [.int x2, .ref 1084] h1 rfl rfl rfl ?_
  refine tr_call (.invokestatic 42) 42 3 2 0 m_X8_at [.ref 1084, .int x2] [] (some (.int v1)) h2 rfl rfl rfl rfl rfl rfl rfl rfl rfl (tr_cok rfl (Or.inl rfl)) c_1 ?_
  have hL1 := c_1.2
  refine tr_st (.istore 7) 2 7 0 (.int v1) rfl rfl rfl rfl rfl rfl rfl ?_
  refine tr_ic 0 0 (by decide) rfl ?_
  refine tr_st (.istore 8) 2 8 0 (.int 0) rfl rfl rfl rfl rfl rfl rfl ?_
  exact k
theorem sg_X1_goOn_49 {g : tr_g} {d : Nat} {h : ev_AH} {r : ev_O × ev_AH} {w1 w2 w5 w9 : Option Value} {x3 x4 x6 x7 x8 : Int32} (hL : hh_L h) (t : 4 ≤ x8 → tr_L g d m_X1_goOn 128 [some (.ref 1083), w1, w2, some (.int x3), some (.int x4), w5, some (.int x6), some (.int x7), some (.int x8), w9] [] h r) (f : x8 < 4 → tr_L g d m_X1_goOn 55 [some (.ref 1083), w1, w2, some (.int x3), some (.int x4), w5, some (.int x6), some (.int x7), some (.int x8), w9] [] h r) : tr_L g d m_X1_goOn 49 [some (.ref 1083), w1, w2, some (.int x3), some (.int x4), w5, some (.int x6), some (.int x7), some (.int x8), w9] [] h r := by
  refine tr_s (.iload 8) 2 51 [some (.ref 1083), w1, w2, some (.int x3), some (.int x4), w5, some (.int x6), some (.int x7), some (.int x8), w9] [.int x8] h rfl rfl rfl ?_
  refine tr_ic 4 4 (by decide) rfl ?_
  exact tr_if2 .ge 76 128 x8 4 rfl rfl rfl (fun hc => t ((tr_ge hc).1 rfl)) (fun hc => f ((tr_ge hc).2 rfl))
theorem sg_X1_goOn_55 {g : tr_g} {d : Nat} {h : ev_AH} {r : ev_O × ev_AH} {w1 w2 w5 w9 : Option Value} {x3 x4 x6 x7 x8 v0 : Int32} {h1 : ev_AH} (hL : hh_L h) (c_0 : tr_L g d m_X0_opposite 0 [some (.int x4)] [] h (.inl (some (.int v0)), h1)) (t : x8 ≠ v0 → tr_L g (d + 1) m_X1_goOn 69 [some (.ref 1083), w1, w2, some (.int x3), some (.int x4), w5, some (.int x6), some (.int x7), some (.int x8), w9] [] h1 r) (f : x8 = v0 → tr_L g (d + 1) m_X1_goOn 65 [some (.ref 1083), w1, w2, some (.int x3), some (.int x4), w5, some (.int x6), some (.int x7), some (.int x8), w9] [] h1 r) : tr_L g (d + 1) m_X1_goOn 55 [some (.ref 1083), w1, w2, some (.int x3), some (.int x4), w5, some (.int x6), some (.int x7), some (.int x8), w9] [] h r := by
  refine tr_s (.iload 8) 2 57 [some (.ref 1083), w1, w2, some (.int x3), some (.int x4), w5, some (.int x6), some (.int x7), some (.int x8), w9] [.int x8] h rfl rfl rfl ?_
  refine tr_s (.iload 4) 2 59 [some (.ref 1083), w1, w2, some (.int x3), some (.int x4), w5, some (.int x6), some (.int x7), some (.int x8), w9] [.int x4, .int x8] h rfl rfl rfl ?_
  refine tr_call (.invokestatic 74) 74 3 1 0 m_X0_opposite [.int x4] [.int x8] (some (.int v0)) h1 rfl rfl rfl rfl rfl rfl rfl rfl rfl (tr_cok rfl (Or.inl rfl)) c_0 ?_
  have hL0 := c_0.2
  exact tr_if2 .ne 7 69 x8 v0 rfl rfl rfl (fun hc => t ((tr_ne hc).1 rfl)) (fun hc => f ((tr_ne hc).2 rfl))
theorem sg_X1_goOn_65 {g : tr_g} {d : Nat} {h : ev_AH} {r : ev_O × ev_AH} {w1 w2 w5 w9 : Option Value} {x3 x4 x6 x7 x8 : Int32} (hL : hh_L h) (t : ((-1) : Int32) = (-1) → tr_L g d m_X1_goOn 122 [some (.ref 1083), w1, w2, some (.int x3), some (.int x4), w5, some (.int x6), some (.int x7), some (.int x8), some (.int (-1))] [] h r) (f : ((-1) : Int32) ≠ (-1) → tr_L g d m_X1_goOn 83 [some (.ref 1083), w1, w2, some (.int x3), some (.int x4), w5, some (.int x6), some (.int x7), some (.int x8), some (.int (-1))] [] h r) : tr_L g d m_X1_goOn 65 [some (.ref 1083), w1, w2, some (.int x3), some (.int x4), w5, some (.int x6), some (.int x7), some (.int x8), w9] [] h r := by
  refine tr_ic (-1) (-1) (by decide) rfl ?_
  refine tr_goto 9 75 rfl rfl rfl ?_
  refine tr_st (.istore 9) 2 9 0 (.int (-1)) rfl rfl rfl rfl rfl rfl rfl ?_
  refine tr_s (.iload 9) 2 79 [some (.ref 1083), w1, w2, some (.int x3), some (.int x4), w5, some (.int x6), some (.int x7), some (.int x8), some (.int (-1))] [.int (-1)] h rfl rfl rfl ?_
  refine tr_ic (-1) (-1) (by decide) rfl ?_
  exact tr_if2 .eq 42 122 (-1) (-1) rfl rfl rfl (fun hc => t ((tr_eq hc).1 rfl)) (fun hc => f ((tr_eq hc).2 rfl))
theorem sg_X1_goOn_69 {g : tr_g} {d : Nat} {h : ev_AH} {r : ev_O × ev_AH} {w1 w2 w5 w9 : Option Value} {x3 x4 x6 x7 x8 v0 : Int32} {h1 : ev_AH} (hL : hh_L h) (c_0 : tr_L g d m_X0_neighbour 0 [some (.int x3), some (.int x8), none, none] [] h (.inl (some (.int v0)), h1)) (t : v0 = (-1) → tr_L g (d + 1) m_X1_goOn 122 [some (.ref 1083), w1, w2, some (.int x3), some (.int x4), w5, some (.int x6), some (.int x7), some (.int x8), some (.int v0)] [] h1 r) (f : v0 ≠ (-1) → tr_L g (d + 1) m_X1_goOn 83 [some (.ref 1083), w1, w2, some (.int x3), some (.int x4), w5, some (.int x6), some (.int x7), some (.int x8), some (.int v0)] [] h1 r) : tr_L g (d + 1) m_X1_goOn 69 [some (.ref 1083), w1, w2, some (.int x3), some (.int x4), w5, some (.int x6), some (.int x7), some (.int x8), w9] [] h r := by
  refine tr_s (.iload_n 3) 1 70 [some (.ref 1083), w1, w2, some (.int x3), some (.int x4), w5, some (.int x6), some (.int x7), some (.int x8), w9] [.int x3] h rfl rfl rfl ?_
  refine tr_s (.iload 8) 2 72 [some (.ref 1083), w1, w2, some (.int x3), some (.int x4), w5, some (.int x6), some (.int x7), some (.int x8), w9] [.int x8, .int x3] h rfl rfl rfl ?_
  refine tr_call (.invokestatic 77) 77 3 2 0 m_X0_neighbour [.int x3, .int x8] [] (some (.int v0)) h1 rfl rfl rfl rfl rfl rfl rfl rfl rfl (tr_cok rfl (Or.inl rfl)) c_0 ?_
  have hL0 := c_0.2
  refine tr_st (.istore 9) 2 9 0 (.int v0) rfl rfl rfl rfl rfl rfl rfl ?_
  refine tr_s (.iload 9) 2 79 [some (.ref 1083), w1, w2, some (.int x3), some (.int x4), w5, some (.int x6), some (.int x7), some (.int x8), some (.int v0)] [.int v0] h1 rfl rfl rfl ?_
  refine tr_ic (-1) (-1) (by decide) rfl ?_
  exact tr_if2 .eq 42 122 v0 (-1) rfl rfl rfl (fun hc => t ((tr_eq hc).1 rfl)) (fun hc => f ((tr_eq hc).2 rfl))
theorem sg_X1_goOn_83 {g : tr_g} {d : Nat} {h : ev_AH} {r : ev_O × ev_AH} {w1 w2 w5 : Option Value} {x3 x4 x6 x7 x8 x9 v0 : Int32} {h1 : ev_AH} (hL : hh_L h) (c_0 : tr_L g d m_X0_side 0 [some (.int x9), some (.int x8)] [] h (.inl (some (.int v0)), h1)) (t : x8 ≠ x6 → tr_L g (d + 1) m_X1_goOn 103 [some (.ref 1083), w1, w2, some (.int x3), some (.int x4), w5, some (.int x6), some (.int x7), some (.int x8), some (.int x9)] [.int v0, .ref 1083] h1 r) (f : x8 = x6 → tr_L g (d + 1) m_X1_goOn 98 [some (.ref 1083), w1, w2, some (.int x3), some (.int x4), w5, some (.int x6), some (.int x7), some (.int x8), some (.int x9)] [.int v0, .ref 1083] h1 r) : tr_L g (d + 1) m_X1_goOn 83 [some (.ref 1083), w1, w2, some (.int x3), some (.int x4), w5, some (.int x6), some (.int x7), some (.int x8), some (.int x9)] [] h r := by
  refine tr_s (.aload_n 0) 1 84 [some (.ref 1083), w1, w2, some (.int x3), some (.int x4), w5, some (.int x6), some (.int x7), some (.int x8), some (.int x9)] [.ref 1083] h rfl rfl rfl ?_
  refine tr_s (.iload 9) 2 86 [some (.ref 1083), w1, w2, some (.int x3), some (.int x4), w5, some (.int x6), some (.int x7), some (.int x8), some (.int x9)] [.int x9, .ref 1083] h rfl rfl rfl ?_
  refine tr_s (.iload 8) 2 88 [some (.ref 1083), w1, w2, some (.int x3), some (.int x4), w5, some (.int x6), some (.int x7), some (.int x8), some (.int x9)] [.int x8, .int x9, .ref 1083] h rfl rfl rfl ?_
  refine tr_call (.invokestatic 34) 34 3 2 0 m_X0_side [.int x9, .int x8] [.ref 1083] (some (.int v0)) h1 rfl rfl rfl rfl rfl rfl rfl rfl rfl (tr_cok rfl (Or.inl rfl)) c_0 ?_
  have hL0 := c_0.2
  refine tr_s (.iload 8) 2 93 [some (.ref 1083), w1, w2, some (.int x3), some (.int x4), w5, some (.int x6), some (.int x7), some (.int x8), some (.int x9)] [.int x8, .int v0, .ref 1083] h1 rfl rfl rfl ?_
  refine tr_s (.iload 6) 2 95 [some (.ref 1083), w1, w2, some (.int x3), some (.int x4), w5, some (.int x6), some (.int x7), some (.int x8), some (.int x9)] [.int x6, .int x8, .int v0, .ref 1083] h1 rfl rfl rfl ?_
  exact tr_if2 .ne 8 103 x8 x6 rfl rfl rfl (fun hc => t ((tr_ne hc).1 rfl)) (fun hc => f ((tr_ne hc).2 rfl))
theorem sg_X1_goOn_98 {g : tr_g} {d : Nat} {h : ev_AH} {r : ev_O × ev_AH} {w1 w2 w5 w9 : Option Value} {x3 x4 x6 x7 x8 s1 : Int32} (hL : hh_L h) (t : x8 ≠ x6 → tr_L g d m_X1_goOn 118 [some (.ref 1083), w1, w2, some (.int x3), some (.int x4), w5, some (.int x6), some (.int x7), some (.int x8), w9] [.int x7, .int s1, .ref 1083] h r) (f : x8 = x6 → tr_L g d m_X1_goOn 114 [some (.ref 1083), w1, w2, some (.int x3), some (.int x4), w5, some (.int x6), some (.int x7), some (.int x8), w9] [.int x7, .int s1, .ref 1083] h r) : tr_L g d m_X1_goOn 98 [some (.ref 1083), w1, w2, some (.int x3), some (.int x4), w5, some (.int x6), some (.int x7), some (.int x8), w9] [.int s1, .ref 1083] h r := by
  refine tr_s (.iload 7) 2 100 [some (.ref 1083), w1, w2, some (.int x3), some (.int x4), w5, some (.int x6), some (.int x7), some (.int x8), w9] [.int x7, .int s1, .ref 1083] h rfl rfl rfl ?_
  refine tr_goto 7 107 rfl rfl rfl ?_
  refine tr_s (.iload 8) 2 109 [some (.ref 1083), w1, w2, some (.int x3), some (.int x4), w5, some (.int x6), some (.int x7), some (.int x8), w9] [.int x8, .int x7, .int s1, .ref 1083] h rfl rfl rfl ?_
  refine tr_s (.iload 6) 2 111 [some (.ref 1083), w1, w2, some (.int x3), some (.int x4), w5, some (.int x6), some (.int x7), some (.int x8), w9] [.int x6, .int x8, .int x7, .int s1, .ref 1083] h rfl rfl rfl ?_
  exact tr_if2 .ne 7 118 x8 x6 rfl rfl rfl (fun hc => t ((tr_ne hc).1 rfl)) (fun hc => f ((tr_ne hc).2 rfl))
theorem sg_X1_goOn_103 {g : tr_g} {d : Nat} {h : ev_AH} {r : ev_O × ev_AH} {w1 w2 w5 w9 : Option Value} {x3 x4 x6 x7 x8 s1 : Int32} (hL : hh_L h) (t : x8 ≠ x6 → tr_L g d m_X1_goOn 118 [some (.ref 1083), w1, w2, some (.int x3), some (.int x4), w5, some (.int x6), some (.int x7), some (.int x8), w9] [.int (x7 + 1), .int s1, .ref 1083] h r) (f : x8 = x6 → tr_L g d m_X1_goOn 114 [some (.ref 1083), w1, w2, some (.int x3), some (.int x4), w5, some (.int x6), some (.int x7), some (.int x8), w9] [.int (x7 + 1), .int s1, .ref 1083] h r) : tr_L g d m_X1_goOn 103 [some (.ref 1083), w1, w2, some (.int x3), some (.int x4), w5, some (.int x6), some (.int x7), some (.int x8), w9] [.int s1, .ref 1083] h r := by
  refine tr_s (.iload 7) 2 105 [some (.ref 1083), w1, w2, some (.int x3), some (.int x4), w5, some (.int x6), some (.int x7), some (.int x8), w9] [.int x7, .int s1, .ref 1083] h rfl rfl rfl ?_
  refine tr_ic 1 1 (by decide) rfl ?_
  refine tr_s .iadd 1 107 [some (.ref 1083), w1, w2, some (.int x3), some (.int x4), w5, some (.int x6), some (.int x7), some (.int x8), w9] [.int (x7 + 1), .int s1, .ref 1083] h rfl rfl rfl ?_
  refine tr_s (.iload 8) 2 109 [some (.ref 1083), w1, w2, some (.int x3), some (.int x4), w5, some (.int x6), some (.int x7), some (.int x8), w9] [.int x8, .int (x7 + 1), .int s1, .ref 1083] h rfl rfl rfl ?_
  refine tr_s (.iload 6) 2 111 [some (.ref 1083), w1, w2, some (.int x3), some (.int x4), w5, some (.int x6), some (.int x7), some (.int x8), w9] [.int x6, .int x8, .int (x7 + 1), .int s1, .ref 1083] h rfl rfl rfl ?_
  exact tr_if2 .ne 7 118 x8 x6 rfl rfl rfl (fun hc => t ((tr_ne hc).1 rfl)) (fun hc => f ((tr_ne hc).2 rfl))
theorem sg_X1_goOn_114 {g : tr_g} {d : Nat} {h : ev_AH} {r : ev_O × ev_AH} {w1 w2 w5 w9 : Option Value} {x3 x4 x6 x7 x8 s1 s2 : Int32} {h1 : ev_AH} (hL : hh_L h) (c_0 : tr_L g d m_X1_reach 0 [some (.ref 1083), some (.int s1), some (.int s2), some (.int 1)] [] h (.inl none, h1)) (k : tr_L g (d + 1) m_X1_goOn 49 [some (.ref 1083), w1, w2, some (.int x3), some (.int x4), w5, some (.int x6), some (.int x7), some (.int (x8 + 1)), w9] [] h1 r) : tr_L g (d + 1) m_X1_goOn 114 [some (.ref 1083), w1, w2, some (.int x3), some (.int x4), w5, some (.int x6), some (.int x7), some (.int x8), w9] [.int s2, .int s1, .ref 1083] h r := by
  refine tr_ic 1 1 (by decide) rfl ?_
  refine tr_goto 4 119 rfl rfl rfl ?_
  refine tr_call (.invokevirtual 80) 80 0 3 5 m_X1_reach [.ref 1083, .int s1, .int s2, .int 1] [] none h1 rfl rfl rfl rfl rfl rfl rfl rfl rfl (tr_cok rfl (Or.inr ⟨_, _, rfl, tr_rc (hh_rd (hh_obj hL (k := 83) rfl).1) (by decide)⟩)) c_0 ?_
  have hL0 := c_0.2
  refine tr_inc 8 1 x8 1 (by decide) rfl rfl rfl ?_
  refine tr_goto (-76) 49 rfl rfl rfl ?_
  exact k
theorem sg_X1_goOn_118 {g : tr_g} {d : Nat} {h : ev_AH} {r : ev_O × ev_AH} {w1 w2 w5 w9 : Option Value} {x3 x4 x6 x7 x8 s1 s2 : Int32} {h1 : ev_AH} (hL : hh_L h) (c_0 : tr_L g d m_X1_reach 0 [some (.ref 1083), some (.int s1), some (.int s2), some (.int 0)] [] h (.inl none, h1)) (k : tr_L g (d + 1) m_X1_goOn 49 [some (.ref 1083), w1, w2, some (.int x3), some (.int x4), w5, some (.int x6), some (.int x7), some (.int (x8 + 1)), w9] [] h1 r) : tr_L g (d + 1) m_X1_goOn 118 [some (.ref 1083), w1, w2, some (.int x3), some (.int x4), w5, some (.int x6), some (.int x7), some (.int x8), w9] [.int s2, .int s1, .ref 1083] h r := by
  refine tr_ic 0 0 (by decide) rfl ?_
  refine tr_call (.invokevirtual 80) 80 0 3 5 m_X1_reach [.ref 1083, .int s1, .int s2, .int 0] [] none h1 rfl rfl rfl rfl rfl rfl rfl rfl rfl (tr_cok rfl (Or.inr ⟨_, _, rfl, tr_rc (hh_rd (hh_obj hL (k := 83) rfl).1) (by decide)⟩)) c_0 ?_
  have hL0 := c_0.2
  refine tr_inc 8 1 x8 1 (by decide) rfl rfl rfl ?_
  refine tr_goto (-76) 49 rfl rfl rfl ?_
  exact k
theorem sg_X1_goOn_122 {g : tr_g} {d : Nat} {h : ev_AH} {r : ev_O × ev_AH} {w1 w2 w5 w9 : Option Value} {x3 x4 x6 x7 x8 : Int32} (hL : hh_L h) (k : tr_L g d m_X1_goOn 49 [some (.ref 1083), w1, w2, some (.int x3), some (.int x4), w5, some (.int x6), some (.int x7), some (.int (x8 + 1)), w9] [] h r) : tr_L g d m_X1_goOn 122 [some (.ref 1083), w1, w2, some (.int x3), some (.int x4), w5, some (.int x6), some (.int x7), some (.int x8), w9] [] h r := by
  refine tr_inc 8 1 x8 1 (by decide) rfl rfl rfl ?_
  refine tr_goto (-76) 49 rfl rfl rfl ?_
  exact k
theorem sg_X1_goOn_128 {g : tr_g} {d : Nat} {h : ev_AH} {r : ev_O × ev_AH} {w0 w1 w2 w3 w4 w5 w6 w7 w8 w9 : Option Value} (hL : hh_L h) (hr : r = (.inl (none), h)) : tr_L g d m_X1_goOn 128 [w0, w1, w2, w3, w4, w5, w6, w7, w8, w9] [] h r := by
  exact tl_ret hL .return_ 1 none rfl rfl rfl rfl hr
theorem sg_X1_reach_0 {g : tr_g} {d : Nat} {h : ev_AH} {r : ev_O × ev_AH} {x1 x2 x3 v0 : Int32} {h1 : ev_AH} (hL : hh_L h) (c_0 : tr_L g d m_X8_at 0 [some (.ref 1084), some (.int x1)] [] h (.inl (some (.int v0)), h1)) (t : v0 ≤ x2 → tr_L g (d + 1) m_X1_reach 38 [some (.ref 1083), some (.int x1), some (.int x2), some (.int x3)] [] h1 r) (f : x2 < v0 → tr_L g (d + 1) m_X1_reach 12 [some (.ref 1083), some (.int x1), some (.int x2), some (.int x3)] [] h1 r) : tr_L g (d + 1) m_X1_reach 0 [some (.ref 1083), some (.int x1), some (.int x2), some (.int x3)] [] h r := by
  refine tr_s (.iload_n 2) 1 1 [some (.ref 1083), some (.int x1), some (.int x2), some (.int x3)] [.int x2] h rfl rfl rfl ?_
  refine tr_s (.aload_n 0) 1 2 [some (.ref 1083), some (.int x1), some (.int x2), some (.int x3)] [.ref 1083, .int x2] h rfl rfl rfl ?_
  refine tl_gr hL 9 83 5 0 84 [1084, 1085, 0, 0] rfl rfl rfl rfl ?_
  refine tr_s (.iload_n 1) 1 6 [some (.ref 1083), some (.int x1), some (.int x2), some (.int x3)] [.int x1, .ref 1084, .int x2] h rfl rfl rfl ?_
  refine tr_call (.invokestatic 42) 42 3 2 0 m_X8_at [.ref 1084, .int x1] [.int x2] (some (.int v0)) h1 rfl rfl rfl rfl rfl rfl rfl rfl rfl (tr_cok rfl (Or.inl rfl)) c_0 ?_
  have hL0 := c_0.2
  exact tr_if2 .ge 29 38 x2 v0 rfl rfl rfl (fun hc => t ((tr_ge hc).1 rfl)) (fun hc => f ((tr_ge hc).2 rfl))
theorem sg_X1_reach_12 {g : tr_g} {d : Nat} {h : ev_AH} {r : ev_O × ev_AH} {x1 x2 x3 : Int32} {h1 : ev_AH} (hL : hh_L h) (c_0 : tr_L g d m_X8_put 0 [some (.ref 1084), some (.int x1), some (.int x2)] [] h (.inl none, h1)) (t : x3 = 0 → tr_L g (d + 1) m_X1_reach 33 [some (.ref 1083), some (.int x1), some (.int x2), some (.int x3)] [] h1 r) (f : x3 ≠ 0 → tr_L g (d + 1) m_X1_reach 25 [some (.ref 1083), some (.int x1), some (.int x2), some (.int x3)] [] h1 r) : tr_L g (d + 1) m_X1_reach 12 [some (.ref 1083), some (.int x1), some (.int x2), some (.int x3)] [] h r := by
  refine tr_s (.aload_n 0) 1 13 [some (.ref 1083), some (.int x1), some (.int x2), some (.int x3)] [.ref 1083] h rfl rfl rfl ?_
  refine tl_gr hL 9 83 5 0 84 [1084, 1085, 0, 0] rfl rfl rfl rfl ?_
  refine tr_s (.iload_n 1) 1 17 [some (.ref 1083), some (.int x1), some (.int x2), some (.int x3)] [.int x1, .ref 1084] h rfl rfl rfl ?_
  refine tr_s (.iload_n 2) 1 18 [some (.ref 1083), some (.int x1), some (.int x2), some (.int x3)] [.int x2, .int x1, .ref 1084] h rfl rfl rfl ?_
  refine tr_call (.invokestatic 38) 38 3 3 0 m_X8_put [.ref 1084, .int x1, .int x2] [] none h1 rfl rfl rfl rfl rfl rfl rfl rfl rfl (tr_cok rfl (Or.inl rfl)) c_0 ?_
  have hL0 := c_0.2
  refine tr_s (.iload_n 3) 1 22 [some (.ref 1083), some (.int x1), some (.int x2), some (.int x3)] [.int x3] h1 rfl rfl rfl ?_
  exact tr_if1 .eq 11 33 x3 rfl rfl rfl (fun hc => t ((tr_eq hc).1 rfl)) (fun hc => f ((tr_eq hc).2 rfl))
theorem sg_X1_reach_25 {g : tr_g} {d : Nat} {h : ev_AH} {r : ev_O × ev_AH} {x1 : Int32} {w2 w3 : Option Value} {h1 : ev_AH} (hL : hh_L h) (c_0 : tr_L g d m_X1_putAhead 0 [some (.ref 1083), some (.int x1)] [] h (.inl none, h1)) (hr : r = (.inl (none), h1)) : tr_L g (d + 1) m_X1_reach 25 [some (.ref 1083), some (.int x1), w2, w3] [] h r := by
  refine tr_s (.aload_n 0) 1 26 [some (.ref 1083), some (.int x1), w2, w3] [.ref 1083] h rfl rfl rfl ?_
  refine tr_s (.iload_n 1) 1 27 [some (.ref 1083), some (.int x1), w2, w3] [.int x1, .ref 1083] h rfl rfl rfl ?_
  refine tr_call (.invokevirtual 49) 49 0 1 5 m_X1_putAhead [.ref 1083, .int x1] [] none h1 rfl rfl rfl rfl rfl rfl rfl rfl rfl (tr_cok rfl (Or.inr ⟨_, _, rfl, tr_rc (hh_rd (hh_obj hL (k := 83) rfl).1) (by decide)⟩)) c_0 ?_
  have hL0 := c_0.2
  refine tr_goto 8 38 rfl rfl rfl ?_
  exact tl_ret hL0 .return_ 1 none rfl rfl rfl rfl hr
theorem sg_X1_reach_33 {g : tr_g} {d : Nat} {h : ev_AH} {r : ev_O × ev_AH} {x1 : Int32} {w2 w3 : Option Value} {h1 : ev_AH} (hL : hh_L h) (c_0 : tr_L g d m_X1_putBehind 0 [some (.ref 1083), some (.int x1)] [] h (.inl none, h1)) (hr : r = (.inl (none), h1)) : tr_L g (d + 1) m_X1_reach 33 [some (.ref 1083), some (.int x1), w2, w3] [] h r := by
  refine tr_s (.aload_n 0) 1 34 [some (.ref 1083), some (.int x1), w2, w3] [.ref 1083] h rfl rfl rfl ?_
  refine tr_s (.iload_n 1) 1 35 [some (.ref 1083), some (.int x1), w2, w3] [.int x1, .ref 1083] h rfl rfl rfl ?_
  refine tr_call (.invokevirtual 84) 84 0 1 5 m_X1_putBehind [.ref 1083, .int x1] [] none h1 rfl rfl rfl rfl rfl rfl rfl rfl rfl (tr_cok rfl (Or.inr ⟨_, _, rfl, tr_rc (hh_rd (hh_obj hL (k := 83) rfl).1) (by decide)⟩)) c_0 ?_
  have hL0 := c_0.2
  exact tl_ret hL0 .return_ 1 none rfl rfl rfl rfl hr
theorem sg_X1_reach_38 {g : tr_g} {d : Nat} {h : ev_AH} {r : ev_O × ev_AH} {w0 w1 w2 w3 : Option Value} (hL : hh_L h) (hr : r = (.inl (none), h)) : tr_L g d m_X1_reach 38 [w0, w1, w2, w3] [] h r := by
  exact tl_ret hL .return_ 1 none rfl rfl rfl rfl hr
theorem sg_X1_putBehind_0 {g : tr_g} {d : Nat} {h : ev_AH} {r : ev_O × ev_AH} {x1 : Int32} (hL : hh_L h) (t : 512 ≤ (hh_i h 83 3) → tr_L g d m_X1_putBehind 41 [some (.ref 1083), some (.int x1)] [] h r) (f : (hh_i h 83 3) < 512 → tr_L g d m_X1_putBehind 10 [some (.ref 1083), some (.int x1)] [] h r) : tr_L g d m_X1_putBehind 0 [some (.ref 1083), some (.int x1)] [] h r := by
  refine tr_s (.aload_n 0) 1 1 [some (.ref 1083), some (.int x1)] [.ref 1083] h rfl rfl rfl ?_
  refine tl_gi hL 22 83 5 3 [1084, 1085, 0, 0] rfl rfl rfl rfl ?_
  refine tr_si 512 512 (by decide) rfl ?_
  exact tr_if2 .ge 34 41 (hh_i h 83 3) 512 rfl rfl rfl (fun hc => t ((tr_ge hc).1 rfl)) (fun hc => f ((tr_ge hc).2 rfl))
theorem sg_X1_putBehind_10 {g : tr_g} {d : Nat} {h : ev_AH} {r : ev_O × ev_AH} {x1 : Int32} {h1 : ev_AH} (hL : hh_L h) (c_0 : tr_L g d m_X8_put 0 [some (.ref 1085), some (.int (((hh_i h 83 2) + (hh_i h 83 3)) - ((hh_i h 83 2) + (hh_i h 83 3)) / 512 * 512)), some (.int x1)] [] h (.inl none, h1)) (hr : r = (.inl (none), hh_si h1 83 5 3 ((hh_i h1 83 3) + 1))) : tr_L g (d + 1) m_X1_putBehind 10 [some (.ref 1083), some (.int x1)] [] h r := by
  refine tr_s (.aload_n 0) 1 11 [some (.ref 1083), some (.int x1)] [.ref 1083] h rfl rfl rfl ?_
  refine tl_gr hL 15 83 5 1 85 [1084, 1085, 0, 0] rfl rfl rfl rfl ?_
  refine tr_s (.aload_n 0) 1 15 [some (.ref 1083), some (.int x1)] [.ref 1083, .ref 1085] h rfl rfl rfl ?_
  refine tl_gi hL 18 83 5 2 [1084, 1085, 0, 0] rfl rfl rfl rfl ?_
  refine tr_s (.aload_n 0) 1 19 [some (.ref 1083), some (.int x1)] [.ref 1083, .int (hh_i h 83 2), .ref 1085] h rfl rfl rfl ?_
  refine tl_gi hL 22 83 5 3 [1084, 1085, 0, 0] rfl rfl rfl rfl ?_
  refine tr_s .iadd 1 23 [some (.ref 1083), some (.int x1)] [.int ((hh_i h 83 2) + (hh_i h 83 3)), .ref 1085] h rfl rfl rfl ?_
  refine tr_si 512 512 (by decide) rfl ?_
  refine tr_s .irem 1 27 [some (.ref 1083), some (.int x1)] [.int (((hh_i h 83 2) + (hh_i h 83 3)) - ((hh_i h 83 2) + (hh_i h 83 3)) / 512 * 512), .ref 1085] h rfl rfl rfl ?_
  refine tr_s (.iload_n 1) 1 28 [some (.ref 1083), some (.int x1)] [.int x1, .int (((hh_i h 83 2) + (hh_i h 83 3)) - ((hh_i h 83 2) + (hh_i h 83 3)) / 512 * 512), .ref 1085] h rfl rfl rfl ?_
  refine tr_call (.invokestatic 38) 38 3 3 0 m_X8_put [.ref 1085, .int (((hh_i h 83 2) + (hh_i h 83 3)) - ((hh_i h 83 2) + (hh_i h 83 3)) / 512 * 512), .int x1] [] none h1 rfl rfl rfl rfl rfl rfl rfl rfl rfl (tr_cok rfl (Or.inl rfl)) c_0 ?_
  have hL0 := c_0.2
  refine tr_s (.aload_n 0) 1 32 [some (.ref 1083), some (.int x1)] [.ref 1083] h1 rfl rfl rfl ?_
  refine tr_s .dup 1 33 [some (.ref 1083), some (.int x1)] [.ref 1083, .ref 1083] h1 rfl rfl rfl ?_
  refine tl_gi hL0 22 83 5 3 [1084, 1085, 0, 0] rfl rfl rfl rfl ?_
  refine tr_ic 1 1 (by decide) rfl ?_
  refine tr_s .iadd 1 38 [some (.ref 1083), some (.int x1)] [.int ((hh_i h1 83 3) + 1), .ref 1083] h1 rfl rfl rfl ?_
  refine tl_pf hL0 22 83 5 3 [1084, 1085, 0, 0] ((hh_i h1 83 3) + 1) .int rfl rfl rfl rfl rfl tr_oki ?_
  have hL1 := hh_L_si (sl := 3) (x := ((hh_i h1 83 3) + 1)) hL0 (show hh_t[83]? = some (.inr (5, [1084, 1085, 0, 0])) from rfl) rfl
  exact tl_ret hL1 .return_ 1 none rfl rfl rfl rfl hr
theorem sg_X1_putBehind_41 {g : tr_g} {d : Nat} {h : ev_AH} {r : ev_O × ev_AH} {w0 w1 : Option Value} (hL : hh_L h) (hr : r = (.inl (none), h)) : tr_L g d m_X1_putBehind 41 [w0, w1] [] h r := by
  exact tl_ret hL .return_ 1 none rfl rfl rfl rfl hr
theorem sg_X1_effortInto_0 {g : tr_g} {d : Nat} {h : ev_AH} {r : ev_O × ev_AH} {x1 : Int32} (hL : hh_L h) (k : tr_L g d m_X1_effortInto 6 [some (.ref 1083), some (.int x1), some (.int 1000), some (.int 0), none] [] h r) : tr_L g d m_X1_effortInto 0 [some (.ref 1083), some (.int x1), none, none, none] [] h r := by
  refine tr_si 1000 1000 (by decide) rfl ?_
  refine tr_st (.istore_n 2) 1 2 0 (.int 1000) rfl rfl rfl rfl rfl rfl rfl ?_
  refine tr_ic 0 0 (by decide) rfl ?_
  refine tr_st (.istore_n 3) 1 3 0 (.int 0) rfl rfl rfl rfl rfl rfl rfl ?_
  exact k
theorem sg_X1_effortInto_6 {g : tr_g} {d : Nat} {h : ev_AH} {r : ev_O × ev_AH} {x1 x2 x3 : Int32} {w4 : Option Value} (hL : hh_L h) (t : 4 ≤ x3 → tr_L g d m_X1_effortInto 44 [some (.ref 1083), some (.int x1), some (.int x2), some (.int x3), w4] [] h r) (f : x3 < 4 → tr_L g d m_X1_effortInto 11 [some (.ref 1083), some (.int x1), some (.int x2), some (.int x3), w4] [] h r) : tr_L g d m_X1_effortInto 6 [some (.ref 1083), some (.int x1), some (.int x2), some (.int x3), w4] [] h r := by
  refine tr_s (.iload_n 3) 1 7 [some (.ref 1083), some (.int x1), some (.int x2), some (.int x3), w4] [.int x3] h rfl rfl rfl ?_
  refine tr_ic 4 4 (by decide) rfl ?_
  exact tr_if2 .ge 36 44 x3 4 rfl rfl rfl (fun hc => t ((tr_ge hc).1 rfl)) (fun hc => f ((tr_ge hc).2 rfl))
theorem sg_X1_effortInto_11 {g : tr_g} {d : Nat} {h : ev_AH} {r : ev_O × ev_AH} {x1 x2 x3 v0 v1 : Int32} {w4 : Option Value} {h1 h2 : ev_AH} (hL : hh_L h) (c_0 : tr_L g d m_X0_side 0 [some (.int x1), some (.int x3)] [] h (.inl (some (.int v0)), h1)) (c_1 : tr_L g d m_X8_at 0 [some (.ref 1084), some (.int v0)] [] h1 (.inl (some (.int v1)), h2)) (t : x2 ≤ v1 → tr_L g (d + 1) m_X1_effortInto 36 [some (.ref 1083), some (.int x1), some (.int x2), some (.int x3), some (.int v1)] [] h2 r) (f : v1 < x2 → tr_L g (d + 1) m_X1_effortInto 31 [some (.ref 1083), some (.int x1), some (.int x2), some (.int x3), some (.int v1)] [] h2 r) : tr_L g (d + 1) m_X1_effortInto 11 [some (.ref 1083), some (.int x1), some (.int x2), some (.int x3), w4] [] h r := by
  refine tr_s (.aload_n 0) 1 12 [some (.ref 1083), some (.int x1), some (.int x2), some (.int x3), w4] [.ref 1083] h rfl rfl rfl ?_
  refine tl_gr hL 9 83 5 0 84 [1084, 1085, 0, 0] rfl rfl rfl rfl ?_
  refine tr_s (.iload_n 1) 1 16 [some (.ref 1083), some (.int x1), some (.int x2), some (.int x3), w4] [.int x1, .ref 1084] h rfl rfl rfl ?_
  refine tr_s (.iload_n 3) 1 17 [some (.ref 1083), some (.int x1), some (.int x2), some (.int x3), w4] [.int x3, .int x1, .ref 1084] h rfl rfl rfl ?_
  refine tr_call (.invokestatic 34) 34 3 2 0 m_X0_side [.int x1, .int x3] [.ref 1084] (some (.int v0)) h1 rfl rfl rfl rfl rfl rfl rfl rfl rfl (tr_cok rfl (Or.inl rfl)) c_0 ?_
  have hL0 := c_0.2
  refine tr_call (.invokestatic 42) 42 3 2 0 m_X8_at [.ref 1084, .int v0] [] (some (.int v1)) h2 rfl rfl rfl rfl rfl rfl rfl rfl rfl (tr_cok rfl (Or.inl rfl)) c_1 ?_
  have hL1 := c_1.2
  refine tr_st (.istore 4) 2 4 0 (.int v1) rfl rfl rfl rfl rfl rfl rfl ?_
  refine tr_s (.iload 4) 2 27 [some (.ref 1083), some (.int x1), some (.int x2), some (.int x3), some (.int v1)] [.int v1] h2 rfl rfl rfl ?_
  refine tr_s (.iload_n 2) 1 28 [some (.ref 1083), some (.int x1), some (.int x2), some (.int x3), some (.int v1)] [.int x2, .int v1] h2 rfl rfl rfl ?_
  exact tr_if2 .ge 8 36 v1 x2 rfl rfl rfl (fun hc => t ((tr_ge hc).1 rfl)) (fun hc => f ((tr_ge hc).2 rfl))
theorem sg_X1_effortInto_31 {g : tr_g} {d : Nat} {h : ev_AH} {r : ev_O × ev_AH} {x1 x3 x4 : Int32} {w2 : Option Value} (hL : hh_L h) (k : tr_L g d m_X1_effortInto 6 [some (.ref 1083), some (.int x1), some (.int x4), some (.int (x3 + 1)), some (.int x4)] [] h r) : tr_L g d m_X1_effortInto 31 [some (.ref 1083), some (.int x1), w2, some (.int x3), some (.int x4)] [] h r := by
  refine tr_s (.iload 4) 2 33 [some (.ref 1083), some (.int x1), w2, some (.int x3), some (.int x4)] [.int x4] h rfl rfl rfl ?_
  refine tr_goto 4 37 rfl rfl rfl ?_
  refine tr_st (.istore_n 2) 1 2 0 (.int x4) rfl rfl rfl rfl rfl rfl rfl ?_
  refine tr_inc 3 1 x3 1 (by decide) rfl rfl rfl ?_
  refine tr_goto (-35) 6 rfl rfl rfl ?_
  exact k
theorem sg_X1_effortInto_36 {g : tr_g} {d : Nat} {h : ev_AH} {r : ev_O × ev_AH} {x1 x2 x3 : Int32} {w4 : Option Value} (hL : hh_L h) (k : tr_L g d m_X1_effortInto 6 [some (.ref 1083), some (.int x1), some (.int x2), some (.int (x3 + 1)), w4] [] h r) : tr_L g d m_X1_effortInto 36 [some (.ref 1083), some (.int x1), some (.int x2), some (.int x3), w4] [] h r := by
  refine tr_s (.iload_n 2) 1 37 [some (.ref 1083), some (.int x1), some (.int x2), some (.int x3), w4] [.int x2] h rfl rfl rfl ?_
  refine tr_st (.istore_n 2) 1 2 0 (.int x2) rfl rfl rfl rfl rfl rfl rfl ?_
  refine tr_inc 3 1 x3 1 (by decide) rfl rfl rfl ?_
  refine tr_goto (-35) 6 rfl rfl rfl ?_
  exact k
theorem sg_X1_effortInto_44 {g : tr_g} {d : Nat} {h : ev_AH} {r : ev_O × ev_AH} {w0 w1 w3 w4 : Option Value} {x2 : Int32} (hL : hh_L h) (hr : r = (.inl (some (.int x2)), h)) : tr_L g d m_X1_effortInto 44 [w0, w1, some (.int x2), w3, w4] [] h r := by
  refine tr_s (.iload_n 2) 1 45 [w0, w1, some (.int x2), w3, w4] [.int x2] h rfl rfl rfl ?_
  exact tl_ret hL .ireturn 1 (some (.int x2)) rfl rfl rfl rfl hr
theorem sg_X1_effortInto_l_0 {g : tr_g} {d : Nat} {h : ev_AH} {r : ev_O × ev_AH} {x1 : Int32} (hL : hh_L h) (k : tr_L g d m_X1_effortInto 6 [some (.ref 1086), some (.int x1), some (.int 1000), some (.int 0), none] [] h r) : tr_L g d m_X1_effortInto 0 [some (.ref 1086), some (.int x1), none, none, none] [] h r := by
  refine tr_si 1000 1000 (by decide) rfl ?_
  refine tr_st (.istore_n 2) 1 2 0 (.int 1000) rfl rfl rfl rfl rfl rfl rfl ?_
  refine tr_ic 0 0 (by decide) rfl ?_
  refine tr_st (.istore_n 3) 1 3 0 (.int 0) rfl rfl rfl rfl rfl rfl rfl ?_
  exact k
theorem sg_X1_effortInto_l_6 {g : tr_g} {d : Nat} {h : ev_AH} {r : ev_O × ev_AH} {x1 x2 x3 : Int32} {w4 : Option Value} (hL : hh_L h) (t : 4 ≤ x3 → tr_L g d m_X1_effortInto 44 [some (.ref 1086), some (.int x1), some (.int x2), some (.int x3), w4] [] h r) (f : x3 < 4 → tr_L g d m_X1_effortInto 11 [some (.ref 1086), some (.int x1), some (.int x2), some (.int x3), w4] [] h r) : tr_L g d m_X1_effortInto 6 [some (.ref 1086), some (.int x1), some (.int x2), some (.int x3), w4] [] h r := by
  refine tr_s (.iload_n 3) 1 7 [some (.ref 1086), some (.int x1), some (.int x2), some (.int x3), w4] [.int x3] h rfl rfl rfl ?_
  refine tr_ic 4 4 (by decide) rfl ?_
  exact tr_if2 .ge 36 44 x3 4 rfl rfl rfl (fun hc => t ((tr_ge hc).1 rfl)) (fun hc => f ((tr_ge hc).2 rfl))
theorem sg_X1_effortInto_l_11 {g : tr_g} {d : Nat} {h : ev_AH} {r : ev_O × ev_AH} {x1 x2 x3 v0 v1 : Int32} {w4 : Option Value} {h1 h2 : ev_AH} (hL : hh_L h) (c_0 : tr_L g d m_X0_side 0 [some (.int x1), some (.int x3)] [] h (.inl (some (.int v0)), h1)) (c_1 : tr_L g d m_X8_at 0 [some (.ref 1087), some (.int v0)] [] h1 (.inl (some (.int v1)), h2)) (t : x2 ≤ v1 → tr_L g (d + 1) m_X1_effortInto 36 [some (.ref 1086), some (.int x1), some (.int x2), some (.int x3), some (.int v1)] [] h2 r) (f : v1 < x2 → tr_L g (d + 1) m_X1_effortInto 31 [some (.ref 1086), some (.int x1), some (.int x2), some (.int x3), some (.int v1)] [] h2 r) : tr_L g (d + 1) m_X1_effortInto 11 [some (.ref 1086), some (.int x1), some (.int x2), some (.int x3), w4] [] h r := by
  refine tr_s (.aload_n 0) 1 12 [some (.ref 1086), some (.int x1), some (.int x2), some (.int x3), w4] [.ref 1086] h rfl rfl rfl ?_
  refine tl_gr hL 9 86 5 0 87 [1087, 1088, 0, 0] rfl rfl rfl rfl ?_
  refine tr_s (.iload_n 1) 1 16 [some (.ref 1086), some (.int x1), some (.int x2), some (.int x3), w4] [.int x1, .ref 1087] h rfl rfl rfl ?_
  refine tr_s (.iload_n 3) 1 17 [some (.ref 1086), some (.int x1), some (.int x2), some (.int x3), w4] [.int x3, .int x1, .ref 1087] h rfl rfl rfl ?_
  refine tr_call (.invokestatic 34) 34 3 2 0 m_X0_side [.int x1, .int x3] [.ref 1087] (some (.int v0)) h1 rfl rfl rfl rfl rfl rfl rfl rfl rfl (tr_cok rfl (Or.inl rfl)) c_0 ?_
  have hL0 := c_0.2
  refine tr_call (.invokestatic 42) 42 3 2 0 m_X8_at [.ref 1087, .int v0] [] (some (.int v1)) h2 rfl rfl rfl rfl rfl rfl rfl rfl rfl (tr_cok rfl (Or.inl rfl)) c_1 ?_
  have hL1 := c_1.2
  refine tr_st (.istore 4) 2 4 0 (.int v1) rfl rfl rfl rfl rfl rfl rfl ?_
  refine tr_s (.iload 4) 2 27 [some (.ref 1086), some (.int x1), some (.int x2), some (.int x3), some (.int v1)] [.int v1] h2 rfl rfl rfl ?_
  refine tr_s (.iload_n 2) 1 28 [some (.ref 1086), some (.int x1), some (.int x2), some (.int x3), some (.int v1)] [.int x2, .int v1] h2 rfl rfl rfl ?_
  exact tr_if2 .ge 8 36 v1 x2 rfl rfl rfl (fun hc => t ((tr_ge hc).1 rfl)) (fun hc => f ((tr_ge hc).2 rfl))
theorem sg_X1_effortInto_l_31 {g : tr_g} {d : Nat} {h : ev_AH} {r : ev_O × ev_AH} {x1 x3 x4 : Int32} {w2 : Option Value} (hL : hh_L h) (k : tr_L g d m_X1_effortInto 6 [some (.ref 1086), some (.int x1), some (.int x4), some (.int (x3 + 1)), some (.int x4)] [] h r) : tr_L g d m_X1_effortInto 31 [some (.ref 1086), some (.int x1), w2, some (.int x3), some (.int x4)] [] h r := by
  refine tr_s (.iload 4) 2 33 [some (.ref 1086), some (.int x1), w2, some (.int x3), some (.int x4)] [.int x4] h rfl rfl rfl ?_
  refine tr_goto 4 37 rfl rfl rfl ?_
  refine tr_st (.istore_n 2) 1 2 0 (.int x4) rfl rfl rfl rfl rfl rfl rfl ?_
  refine tr_inc 3 1 x3 1 (by decide) rfl rfl rfl ?_
  refine tr_goto (-35) 6 rfl rfl rfl ?_
  exact k
theorem sg_X1_effortInto_l_36 {g : tr_g} {d : Nat} {h : ev_AH} {r : ev_O × ev_AH} {x1 x2 x3 : Int32} {w4 : Option Value} (hL : hh_L h) (k : tr_L g d m_X1_effortInto 6 [some (.ref 1086), some (.int x1), some (.int x2), some (.int (x3 + 1)), w4] [] h r) : tr_L g d m_X1_effortInto 36 [some (.ref 1086), some (.int x1), some (.int x2), some (.int x3), w4] [] h r := by
  refine tr_s (.iload_n 2) 1 37 [some (.ref 1086), some (.int x1), some (.int x2), some (.int x3), w4] [.int x2] h rfl rfl rfl ?_
  refine tr_st (.istore_n 2) 1 2 0 (.int x2) rfl rfl rfl rfl rfl rfl rfl ?_
  refine tr_inc 3 1 x3 1 (by decide) rfl rfl rfl ?_
  refine tr_goto (-35) 6 rfl rfl rfl ?_
  exact k
theorem sg_X1_effortInto_l_44 {g : tr_g} {d : Nat} {h : ev_AH} {r : ev_O × ev_AH} {w0 w1 w3 w4 : Option Value} {x2 : Int32} (hL : hh_L h) (hr : r = (.inl (some (.int x2)), h)) : tr_L g d m_X1_effortInto 44 [w0, w1, some (.int x2), w3, w4] [] h r := by
  refine tr_s (.iload_n 2) 1 45 [w0, w1, some (.int x2), w3, w4] [.int x2] h rfl rfl rfl ?_
  exact tl_ret hL .ireturn 1 (some (.int x2)) rfl rfl rfl rfl hr
theorem sg_X1_searchByRounds_0 {g : tr_g} {d : Nat} {h : ev_AH} {r : ev_O × ev_AH} {x2 v0 : Int32} {h1 : ev_AH} (hL : hh_L h) (c_0 : tr_L g d m_X1_start 0 [some (.ref 1086), some (.int x2), none] [] h (.inl (some (.int v0)), h1)) (k : tr_L g (d + 1) m_X1_searchByRounds 11 [some (.ref 1086), some (.ref 1001), some (.int x2), some (.int 1), some (.int 0)] [] h1 r) : tr_L g (d + 1) m_X1_searchByRounds 0 [some (.ref 1086), some (.ref 1001), some (.int x2), none, none] [] h r := by
  refine tr_s (.aload_n 0) 1 1 [some (.ref 1086), some (.ref 1001), some (.int x2), none, none] [.ref 1086] h rfl rfl rfl ?_
  refine tr_s (.iload_n 2) 1 2 [some (.ref 1086), some (.ref 1001), some (.int x2), none, none] [.int x2, .ref 1086] h rfl rfl rfl ?_
  refine tr_call (.invokevirtual 46) 46 0 1 5 m_X1_start [.ref 1086, .int x2] [] (some (.int v0)) h1 rfl rfl rfl rfl rfl rfl rfl rfl rfl (tr_cok rfl (Or.inr ⟨_, _, rfl, tr_rc (hh_rd (hh_obj hL (k := 86) rfl).1) (by decide)⟩)) c_0 ?_
  have hL0 := c_0.2
  refine tr_s .pop 1 6 [some (.ref 1086), some (.ref 1001), some (.int x2), none, none] [] h1 rfl rfl rfl ?_
  refine tr_ic 1 1 (by decide) rfl ?_
  refine tr_st (.istore_n 3) 1 3 0 (.int 1) rfl rfl rfl rfl rfl rfl rfl ?_
  refine tr_ic 0 0 (by decide) rfl ?_
  refine tr_st (.istore 4) 2 4 0 (.int 0) rfl rfl rfl rfl rfl rfl rfl ?_
  exact k
theorem sg_X1_searchByRounds_11 {g : tr_g} {d : Nat} {h : ev_AH} {r : ev_O × ev_AH} {w2 : Option Value} {x3 x4 : Int32} (hL : hh_L h) (t : 140 ≤ x4 → tr_L g d m_X1_searchByRounds 35 [some (.ref 1086), some (.ref 1001), w2, some (.int x3), some (.int x4)] [] h r) (f : x4 < 140 → tr_L g d m_X1_searchByRounds 19 [some (.ref 1086), some (.ref 1001), w2, some (.int x3), some (.int x4)] [] h r) : tr_L g d m_X1_searchByRounds 11 [some (.ref 1086), some (.ref 1001), w2, some (.int x3), some (.int x4)] [] h r := by
  refine tr_s (.iload 4) 2 13 [some (.ref 1086), some (.ref 1001), w2, some (.int x3), some (.int x4)] [.int x4] h rfl rfl rfl ?_
  refine tr_si 140 140 (by decide) rfl ?_
  exact tr_if2 .ge 19 35 x4 140 rfl rfl rfl (fun hc => t ((tr_ge hc).1 rfl)) (fun hc => f ((tr_ge hc).2 rfl))
theorem sg_X1_searchByRounds_19 {g : tr_g} {d : Nat} {h : ev_AH} {r : ev_O × ev_AH} {w2 : Option Value} {x3 x4 : Int32} (hL : hh_L h) (t : x3 = 0 → tr_L g d m_X1_searchByRounds 35 [some (.ref 1086), some (.ref 1001), w2, some (.int x3), some (.int x4)] [] h r) (f : x3 ≠ 0 → tr_L g d m_X1_searchByRounds 23 [some (.ref 1086), some (.ref 1001), w2, some (.int x3), some (.int x4)] [] h r) : tr_L g d m_X1_searchByRounds 19 [some (.ref 1086), some (.ref 1001), w2, some (.int x3), some (.int x4)] [] h r := by
  refine tr_s (.iload_n 3) 1 20 [some (.ref 1086), some (.ref 1001), w2, some (.int x3), some (.int x4)] [.int x3] h rfl rfl rfl ?_
  exact tr_if1 .eq 15 35 x3 rfl rfl rfl (fun hc => t ((tr_eq hc).1 rfl)) (fun hc => f ((tr_eq hc).2 rfl))
theorem sg_X1_searchByRounds_23 {g : tr_g} {d : Nat} {h : ev_AH} {r : ev_O × ev_AH} {w2 w3 : Option Value} {x4 v0 : Int32} {h1 : ev_AH} (hL : hh_L h) (c_0 : tr_L g d m_X1_lowerAll 0 [some (.ref 1086), some (.ref 1001), none, none, none] [] h (.inl (some (.int v0)), h1)) (o2 : tr_ow w2 = true) (k : tr_L g (d + 1) m_X1_searchByRounds 11 [some (.ref 1086), some (.ref 1001), w2, some (.int v0), some (.int (x4 + 1))] [] h1 r) : tr_L g (d + 1) m_X1_searchByRounds 23 [some (.ref 1086), some (.ref 1001), w2, w3, some (.int x4)] [] h r := by
  refine tr_s (.aload_n 0) 1 24 [some (.ref 1086), some (.ref 1001), w2, w3, some (.int x4)] [.ref 1086] h rfl rfl rfl ?_
  refine tr_s (.aload_n 1) 1 25 [some (.ref 1086), some (.ref 1001), w2, w3, some (.int x4)] [.ref 1001, .ref 1086] h rfl rfl rfl ?_
  refine tr_call (.invokevirtual 87) 87 0 1 5 m_X1_lowerAll [.ref 1086, .ref 1001] [] (some (.int v0)) h1 rfl rfl rfl rfl rfl rfl rfl rfl rfl (tr_cok rfl (Or.inr ⟨_, _, rfl, tr_rc (hh_rd (hh_obj hL (k := 86) rfl).1) (by decide)⟩)) c_0 ?_
  have hL0 := c_0.2
  refine tr_st (.istore_n 3) 1 3 0 (.int v0) rfl rfl rfl rfl rfl rfl (tr_sok (Nat.le_of_ble_eq_true rfl) rfl o2) ?_
  refine tr_inc 4 1 x4 1 (by decide) rfl rfl rfl ?_
  refine tr_goto (-21) 11 rfl rfl rfl ?_
  exact k
theorem sg_X1_searchByRounds_35 {g : tr_g} {d : Nat} {h : ev_AH} {r : ev_O × ev_AH} {w0 w1 w2 w3 w4 : Option Value} (hL : hh_L h) (hr : r = (.inl (none), h)) : tr_L g d m_X1_searchByRounds 35 [w0, w1, w2, w3, w4] [] h r := by
  exact tl_ret hL .return_ 1 none rfl rfl rfl rfl hr
theorem sg_X1_lowerAll_0 {g : tr_g} {d : Nat} {h : ev_AH} {r : ev_O × ev_AH} (hL : hh_L h) (k : tr_L g d m_X1_lowerAll 4 [some (.ref 1086), some (.ref 1001), some (.int 0), some (.int 0), none] [] h r) : tr_L g d m_X1_lowerAll 0 [some (.ref 1086), some (.ref 1001), none, none, none] [] h r := by
  refine tr_ic 0 0 (by decide) rfl ?_
  refine tr_st (.istore_n 2) 1 2 0 (.int 0) rfl rfl rfl rfl rfl rfl rfl ?_
  refine tr_ic 0 0 (by decide) rfl ?_
  refine tr_st (.istore_n 3) 1 3 0 (.int 0) rfl rfl rfl rfl rfl rfl rfl ?_
  exact k
theorem sg_X1_lowerAll_4 {g : tr_g} {d : Nat} {h : ev_AH} {r : ev_O × ev_AH} {x2 x3 : Int32} {w4 : Option Value} (hL : hh_L h) (t : 140 ≤ x3 → tr_L g d m_X1_lowerAll 50 [some (.ref 1086), some (.ref 1001), some (.int x2), some (.int x3), w4] [] h r) (f : x3 < 140 → tr_L g d m_X1_lowerAll 11 [some (.ref 1086), some (.ref 1001), some (.int x2), some (.int x3), w4] [] h r) : tr_L g d m_X1_lowerAll 4 [some (.ref 1086), some (.ref 1001), some (.int x2), some (.int x3), w4] [] h r := by
  refine tr_s (.iload_n 3) 1 5 [some (.ref 1086), some (.ref 1001), some (.int x2), some (.int x3), w4] [.int x3] h rfl rfl rfl ?_
  refine tr_si 140 140 (by decide) rfl ?_
  exact tr_if2 .ge 42 50 x3 140 rfl rfl rfl (fun hc => t ((tr_ge hc).1 rfl)) (fun hc => f ((tr_ge hc).2 rfl))
theorem sg_X1_lowerAll_11 {g : tr_g} {d : Nat} {h : ev_AH} {r : ev_O × ev_AH} {x2 x3 v0 v1 : Int32} {w4 : Option Value} {h1 h2 : ev_AH} (hL : hh_L h) (c_0 : tr_L g d m_X1_effortFromBehind 0 [some (.ref 1086), some (.ref 1001), some (.int x3), none, none, none, none, none, none, none] [] h (.inl (some (.int v0)), h1)) (c_1 : tr_L g d m_X8_at 0 [some (.ref 1087), some (.int x3)] [] h1 (.inl (some (.int v1)), h2)) (t : v1 ≤ v0 → tr_L g (d + 1) m_X1_lowerAll 44 [some (.ref 1086), some (.ref 1001), some (.int x2), some (.int x3), some (.int v0)] [] h2 r) (f : v0 < v1 → tr_L g (d + 1) m_X1_lowerAll 32 [some (.ref 1086), some (.ref 1001), some (.int x2), some (.int x3), some (.int v0)] [] h2 r) : tr_L g (d + 1) m_X1_lowerAll 11 [some (.ref 1086), some (.ref 1001), some (.int x2), some (.int x3), w4] [] h r := by
  refine tr_s (.aload_n 0) 1 12 [some (.ref 1086), some (.ref 1001), some (.int x2), some (.int x3), w4] [.ref 1086] h rfl rfl rfl ?_
  refine tr_s (.aload_n 1) 1 13 [some (.ref 1086), some (.ref 1001), some (.int x2), some (.int x3), w4] [.ref 1001, .ref 1086] h rfl rfl rfl ?_
  refine tr_s (.iload_n 3) 1 14 [some (.ref 1086), some (.ref 1001), some (.int x2), some (.int x3), w4] [.int x3, .ref 1001, .ref 1086] h rfl rfl rfl ?_
  refine tr_call (.invokevirtual 91) 91 0 2 5 m_X1_effortFromBehind [.ref 1086, .ref 1001, .int x3] [] (some (.int v0)) h1 rfl rfl rfl rfl rfl rfl rfl rfl rfl (tr_cok rfl (Or.inr ⟨_, _, rfl, tr_rc (hh_rd (hh_obj hL (k := 86) rfl).1) (by decide)⟩)) c_0 ?_
  have hL0 := c_0.2
  refine tr_st (.istore 4) 2 4 0 (.int v0) rfl rfl rfl rfl rfl rfl rfl ?_
  refine tr_s (.iload 4) 2 21 [some (.ref 1086), some (.ref 1001), some (.int x2), some (.int x3), some (.int v0)] [.int v0] h1 rfl rfl rfl ?_
  refine tr_s (.aload_n 0) 1 22 [some (.ref 1086), some (.ref 1001), some (.int x2), some (.int x3), some (.int v0)] [.ref 1086, .int v0] h1 rfl rfl rfl ?_
  refine tl_gr hL0 9 86 5 0 87 [1087, 1088, 0, 0] rfl rfl rfl rfl ?_
  refine tr_s (.iload_n 3) 1 26 [some (.ref 1086), some (.ref 1001), some (.int x2), some (.int x3), some (.int v0)] [.int x3, .ref 1087, .int v0] h1 rfl rfl rfl ?_
  refine tr_call (.invokestatic 42) 42 3 2 0 m_X8_at [.ref 1087, .int x3] [.int v0] (some (.int v1)) h2 rfl rfl rfl rfl rfl rfl rfl rfl rfl (tr_cok rfl (Or.inl rfl)) c_1 ?_
  have hL1 := c_1.2
  exact tr_if2 .ge 15 44 v0 v1 rfl rfl rfl (fun hc => t ((tr_ge hc).1 rfl)) (fun hc => f ((tr_ge hc).2 rfl))
theorem sg_X1_lowerAll_32 {g : tr_g} {d : Nat} {h : ev_AH} {r : ev_O × ev_AH} {w2 : Option Value} {x3 x4 : Int32} {h1 : ev_AH} (hL : hh_L h) (c_0 : tr_L g d m_X8_put 0 [some (.ref 1087), some (.int x3), some (.int x4)] [] h (.inl none, h1)) (k : tr_L g (d + 1) m_X1_lowerAll 4 [some (.ref 1086), some (.ref 1001), some (.int 1), some (.int (x3 + 1)), some (.int x4)] [] h1 r) : tr_L g (d + 1) m_X1_lowerAll 32 [some (.ref 1086), some (.ref 1001), w2, some (.int x3), some (.int x4)] [] h r := by
  refine tr_s (.aload_n 0) 1 33 [some (.ref 1086), some (.ref 1001), w2, some (.int x3), some (.int x4)] [.ref 1086] h rfl rfl rfl ?_
  refine tl_gr hL 9 86 5 0 87 [1087, 1088, 0, 0] rfl rfl rfl rfl ?_
  refine tr_s (.iload_n 3) 1 37 [some (.ref 1086), some (.ref 1001), w2, some (.int x3), some (.int x4)] [.int x3, .ref 1087] h rfl rfl rfl ?_
  refine tr_s (.iload 4) 2 39 [some (.ref 1086), some (.ref 1001), w2, some (.int x3), some (.int x4)] [.int x4, .int x3, .ref 1087] h rfl rfl rfl ?_
  refine tr_call (.invokestatic 38) 38 3 3 0 m_X8_put [.ref 1087, .int x3, .int x4] [] none h1 rfl rfl rfl rfl rfl rfl rfl rfl rfl (tr_cok rfl (Or.inl rfl)) c_0 ?_
  have hL0 := c_0.2
  refine tr_ic 1 1 (by decide) rfl ?_
  refine tr_st (.istore_n 2) 1 2 0 (.int 1) rfl rfl rfl rfl rfl rfl rfl ?_
  refine tr_inc 3 1 x3 1 (by decide) rfl rfl rfl ?_
  refine tr_goto (-43) 4 rfl rfl rfl ?_
  exact k
theorem sg_X1_lowerAll_44 {g : tr_g} {d : Nat} {h : ev_AH} {r : ev_O × ev_AH} {x2 x3 : Int32} {w4 : Option Value} (hL : hh_L h) (k : tr_L g d m_X1_lowerAll 4 [some (.ref 1086), some (.ref 1001), some (.int x2), some (.int (x3 + 1)), w4] [] h r) : tr_L g d m_X1_lowerAll 44 [some (.ref 1086), some (.ref 1001), some (.int x2), some (.int x3), w4] [] h r := by
  refine tr_inc 3 1 x3 1 (by decide) rfl rfl rfl ?_
  refine tr_goto (-43) 4 rfl rfl rfl ?_
  exact k
theorem sg_X1_lowerAll_50 {g : tr_g} {d : Nat} {h : ev_AH} {r : ev_O × ev_AH} {w0 w1 w3 w4 : Option Value} {x2 : Int32} (hL : hh_L h) (hb0 : x2 = 0 ∨ x2 = 1) (hr : r = (.inl (some (.int x2)), h)) : tr_L g d m_X1_lowerAll 50 [w0, w1, some (.int x2), w3, w4] [] h r := by
  refine tr_s (.iload_n 2) 1 51 [w0, w1, some (.int x2), w3, w4] [.int x2] h rfl rfl rfl ?_
  exact tl_ret hL .ireturn 1 (some (.int x2)) rfl rfl rfl (tr_eb rfl hb0) hr
theorem sg_X1_effortFromBehind_0 {g : tr_g} {d : Nat} {h : ev_AH} {r : ev_O × ev_AH} {x2 v0 v1 : Int32} {h1 h2 : ev_AH} (hL : hh_L h) (c_0 : tr_L g d m_X0_opposite 0 [some (.int (x2 - x2 / 4 * 4))] [] h (.inl (some (.int v0)), h1)) (c_1 : tr_L g d m_X0_neighbour 0 [some (.int (x2 / 4)), some (.int v0), none, none] [] h1 (.inl (some (.int v1)), h2)) (t : v1 = (-1) → tr_L g (d + 1) m_X1_effortFromBehind 36 [some (.ref 1086), some (.ref 1001), some (.int x2), some (.int (x2 - x2 / 4 * 4)), some (.int v1), none, none, none, none, none] [] h2 r) (f : v1 ≠ (-1) → tr_L g (d + 1) m_X1_effortFromBehind 22 [some (.ref 1086), some (.ref 1001), some (.int x2), some (.int (x2 - x2 / 4 * 4)), some (.int v1), none, none, none, none, none] [] h2 r) : tr_L g (d + 1) m_X1_effortFromBehind 0 [some (.ref 1086), some (.ref 1001), some (.int x2), none, none, none, none, none, none, none] [] h r := by
  refine tr_s (.iload_n 2) 1 1 [some (.ref 1086), some (.ref 1001), some (.int x2), none, none, none, none, none, none, none] [.int x2] h rfl rfl rfl ?_
  refine tr_ic 4 4 (by decide) rfl ?_
  refine tr_s .irem 1 3 [some (.ref 1086), some (.ref 1001), some (.int x2), none, none, none, none, none, none, none] [.int (x2 - x2 / 4 * 4)] h rfl rfl rfl ?_
  refine tr_st (.istore_n 3) 1 3 0 (.int (x2 - x2 / 4 * 4)) rfl rfl rfl rfl rfl rfl rfl ?_
  refine tr_s (.iload_n 2) 1 5 [some (.ref 1086), some (.ref 1001), some (.int x2), some (.int (x2 - x2 / 4 * 4)), none, none, none, none, none, none] [.int x2] h rfl rfl rfl ?_
  refine tr_ic 4 4 (by decide) rfl ?_
  refine tr_s .idiv 1 7 [some (.ref 1086), some (.ref 1001), some (.int x2), some (.int (x2 - x2 / 4 * 4)), none, none, none, none, none, none] [.int (x2 / 4)] h rfl rfl rfl ?_
  refine tr_s (.iload_n 3) 1 8 [some (.ref 1086), some (.ref 1001), some (.int x2), some (.int (x2 - x2 / 4 * 4)), none, none, none, none, none, none] [.int (x2 - x2 / 4 * 4), .int (x2 / 4)] h rfl rfl rfl ?_
  refine tr_call (.invokestatic 74) 74 3 1 0 m_X0_opposite [.int (x2 - x2 / 4 * 4)] [.int (x2 / 4)] (some (.int v0)) h1 rfl rfl rfl rfl rfl rfl rfl rfl rfl (tr_cok rfl (Or.inl rfl)) c_0 ?_
  have hL0 := c_0.2
  refine tr_call (.invokestatic 77) 77 3 2 0 m_X0_neighbour [.int (x2 / 4), .int v0] [] (some (.int v1)) h2 rfl rfl rfl rfl rfl rfl rfl rfl rfl (tr_cok rfl (Or.inl rfl)) c_1 ?_
  have hL1 := c_1.2
  refine tr_st (.istore 4) 2 4 0 (.int v1) rfl rfl rfl rfl rfl rfl rfl ?_
  refine tr_s (.iload 4) 2 18 [some (.ref 1086), some (.ref 1001), some (.int x2), some (.int (x2 - x2 / 4 * 4)), some (.int v1), none, none, none, none, none] [.int v1] h2 rfl rfl rfl ?_
  refine tr_ic (-1) (-1) (by decide) rfl ?_
  exact tr_if2 .eq 17 36 v1 (-1) rfl rfl rfl (fun hc => t ((tr_eq hc).1 rfl)) (fun hc => f ((tr_eq hc).2 rfl))
theorem sg_X1_effortFromBehind_22 {g : tr_g} {d : Nat} {h : ev_AH} {r : ev_O × ev_AH} {w2 w5 w6 w7 w8 w9 : Option Value} {x3 x4 v0 : Int32} {h1 : ev_AH} (hL : hh_L h) (c_0 : tr_L g d m_X8_at_ 0 [some (.ref 1002), some (.int x4)] [] h (.inl (some (.int v0)), h1)) (t : v0 ≠ 99 → tr_L g (d + 1) m_X1_effortFromBehind 40 [some (.ref 1086), some (.ref 1001), w2, some (.int x3), some (.int x4), w5, w6, w7, w8, w9] [] h1 r) (f : v0 = 99 → tr_L g (d + 1) m_X1_effortFromBehind 36 [some (.ref 1086), some (.ref 1001), w2, some (.int x3), some (.int x4), w5, w6, w7, w8, w9] [] h1 r) : tr_L g (d + 1) m_X1_effortFromBehind 22 [some (.ref 1086), some (.ref 1001), w2, some (.int x3), some (.int x4), w5, w6, w7, w8, w9] [] h r := by
  refine tr_s (.aload_n 1) 1 23 [some (.ref 1086), some (.ref 1001), w2, some (.int x3), some (.int x4), w5, w6, w7, w8, w9] [.ref 1001] h rfl rfl rfl ?_
  refine tl_gr hL 61 1 1 0 2 [1002, 1003, 1004, 1005, 1006, 1007, 0, 0, 0, 0, 0, 0, 0, 0] rfl rfl rfl rfl ?_
  refine tr_s (.iload 4) 2 28 [some (.ref 1086), some (.ref 1001), w2, some (.int x3), some (.int x4), w5, w6, w7, w8, w9] [.int x4, .ref 1002] h rfl rfl rfl ?_
  refine tr_call (.invokestatic 67) 67 3 2 0 m_X8_at_ [.ref 1002, .int x4] [] (some (.int v0)) h1 rfl rfl rfl rfl rfl rfl rfl rfl rfl (tr_cok rfl (Or.inl rfl)) c_0 ?_
  have hL0 := c_0.2
  refine tr_bi 99 99 (by decide) rfl ?_
  exact tr_if2 .ne 7 40 v0 99 rfl rfl rfl (fun hc => t ((tr_ne hc).1 rfl)) (fun hc => f ((tr_ne hc).2 rfl))
theorem sg_X1_effortFromBehind_36 {g : tr_g} {d : Nat} {h : ev_AH} {r : ev_O × ev_AH} {w0 w1 w2 w3 w4 w5 w6 w7 w8 w9 : Option Value} (hL : hh_L h) (hr : r = (.inl (some (.int 1000)), h)) : tr_L g d m_X1_effortFromBehind 36 [w0, w1, w2, w3, w4, w5, w6, w7, w8, w9] [] h r := by
  refine tr_si 1000 1000 (by decide) rfl ?_
  exact tl_ret hL .ireturn 1 (some (.int 1000)) rfl rfl rfl rfl hr
theorem sg_X1_effortFromBehind_40 {g : tr_g} {d : Nat} {h : ev_AH} {r : ev_O × ev_AH} {w2 w5 w6 w7 w8 w9 : Option Value} {x3 x4 v0 : Int32} {h1 : ev_AH} (hL : hh_L h) (c_0 : tr_L g d m_X8_at_ 0 [some (.ref 1002), some (.int x4)] [] h (.inl (some (.int v0)), h1)) (k : tr_L g (d + 1) m_X1_effortFromBehind 59 [some (.ref 1086), some (.ref 1001), w2, some (.int x3), some (.int x4), some (.int v0), some (.int 1000), some (.int 0), w8, w9] [] h1 r) : tr_L g (d + 1) m_X1_effortFromBehind 40 [some (.ref 1086), some (.ref 1001), w2, some (.int x3), some (.int x4), w5, w6, w7, w8, w9] [] h r := by
  refine tr_s (.aload_n 1) 1 41 [some (.ref 1086), some (.ref 1001), w2, some (.int x3), some (.int x4), w5, w6, w7, w8, w9] [.ref 1001] h rfl rfl rfl ?_
  refine tl_gr hL 61 1 1 0 2 [1002, 1003, 1004, 1005, 1006, 1007, 0, 0, 0, 0, 0, 0, 0, 0] rfl rfl rfl rfl ?_
  refine tr_s (.iload 4) 2 46 [some (.ref 1086), some (.ref 1001), w2, some (.int x3), some (.int x4), w5, w6, w7, w8, w9] [.int x4, .ref 1002] h rfl rfl rfl ?_
  refine tr_call (.invokestatic 67) 67 3 2 0 m_X8_at_ [.ref 1002, .int x4] [] (some (.int v0)) h1 rfl rfl rfl rfl rfl rfl rfl rfl rfl (tr_cok rfl (Or.inl rfl)) c_0 ?_
  have hL0 := c_0.2
  refine tr_st (.istore 5) 2 5 0 (.int v0) rfl rfl rfl rfl rfl rfl rfl ?_
  refine tr_si 1000 1000 (by decide) rfl ?_
  refine tr_st (.istore 6) 2 6 0 (.int 1000) rfl rfl rfl rfl rfl rfl rfl ?_
  refine tr_ic 0 0 (by decide) rfl ?_
  refine tr_st (.istore 7) 2 7 0 (.int 0) rfl rfl rfl rfl rfl rfl rfl ?_
  exact k
theorem sg_X1_effortFromBehind_59 {g : tr_g} {d : Nat} {h : ev_AH} {r : ev_O × ev_AH} {w1 w2 w8 w9 : Option Value} {x3 x4 x5 x6 x7 : Int32} (hL : hh_L h) (t : 4 ≤ x7 → tr_L g d m_X1_effortFromBehind 133 [some (.ref 1086), w1, w2, some (.int x3), some (.int x4), some (.int x5), some (.int x6), some (.int x7), w8, w9] [] h r) (f : x7 < 4 → tr_L g d m_X1_effortFromBehind 65 [some (.ref 1086), w1, w2, some (.int x3), some (.int x4), some (.int x5), some (.int x6), some (.int x7), w8, w9] [] h r) : tr_L g d m_X1_effortFromBehind 59 [some (.ref 1086), w1, w2, some (.int x3), some (.int x4), some (.int x5), some (.int x6), some (.int x7), w8, w9] [] h r := by
  refine tr_s (.iload 7) 2 61 [some (.ref 1086), w1, w2, some (.int x3), some (.int x4), some (.int x5), some (.int x6), some (.int x7), w8, w9] [.int x7] h rfl rfl rfl ?_
  refine tr_ic 4 4 (by decide) rfl ?_
  exact tr_if2 .ge 71 133 x7 4 rfl rfl rfl (fun hc => t ((tr_ge hc).1 rfl)) (fun hc => f ((tr_ge hc).2 rfl))
theorem sg_X1_effortFromBehind_65 {g : tr_g} {d : Nat} {h : ev_AH} {r : ev_O × ev_AH} {w1 w2 w8 w9 : Option Value} {x3 x4 x5 x6 x7 v0 : Int32} {h1 : ev_AH} (hL : hh_L h) (c_0 : tr_L g d m_X0_opposite 0 [some (.int x7)] [] h (.inl (some (.int v0)), h1)) (t : x3 = v0 → tr_L g (d + 1) m_X1_effortFromBehind 127 [some (.ref 1086), w1, w2, some (.int x3), some (.int x4), some (.int x5), some (.int x6), some (.int x7), w8, w9] [] h1 r) (f : x3 ≠ v0 → tr_L g (d + 1) m_X1_effortFromBehind 74 [some (.ref 1086), w1, w2, some (.int x3), some (.int x4), some (.int x5), some (.int x6), some (.int x7), w8, w9] [] h1 r) : tr_L g (d + 1) m_X1_effortFromBehind 65 [some (.ref 1086), w1, w2, some (.int x3), some (.int x4), some (.int x5), some (.int x6), some (.int x7), w8, w9] [] h r := by
  refine tr_s (.iload_n 3) 1 66 [some (.ref 1086), w1, w2, some (.int x3), some (.int x4), some (.int x5), some (.int x6), some (.int x7), w8, w9] [.int x3] h rfl rfl rfl ?_
  refine tr_s (.iload 7) 2 68 [some (.ref 1086), w1, w2, some (.int x3), some (.int x4), some (.int x5), some (.int x6), some (.int x7), w8, w9] [.int x7, .int x3] h rfl rfl rfl ?_
  refine tr_call (.invokestatic 74) 74 3 1 0 m_X0_opposite [.int x7] [.int x3] (some (.int v0)) h1 rfl rfl rfl rfl rfl rfl rfl rfl rfl (tr_cok rfl (Or.inl rfl)) c_0 ?_
  have hL0 := c_0.2
  exact tr_if2 .eq 56 127 x3 v0 rfl rfl rfl (fun hc => t ((tr_eq hc).1 rfl)) (fun hc => f ((tr_eq hc).2 rfl))
theorem sg_X1_effortFromBehind_74 {g : tr_g} {d : Nat} {h : ev_AH} {r : ev_O × ev_AH} {w1 w2 w8 w9 : Option Value} {x3 x4 x5 x6 x7 v0 : Int32} {h1 : ev_AH} (hL : hh_L h) (c_0 : tr_L g d m_X0_reflected 0 [some (.int x5), some (.int x7)] [] h (.inl (some (.int v0)), h1)) (t : x3 ≠ v0 → tr_L g (d + 1) m_X1_effortFromBehind 89 [some (.ref 1086), w1, w2, some (.int x3), some (.int x4), some (.int x5), some (.int x6), some (.int x7), w8, w9] [] h1 r) (f : x3 = v0 → tr_L g (d + 1) m_X1_effortFromBehind 85 [some (.ref 1086), w1, w2, some (.int x3), some (.int x4), some (.int x5), some (.int x6), some (.int x7), w8, w9] [] h1 r) : tr_L g (d + 1) m_X1_effortFromBehind 74 [some (.ref 1086), w1, w2, some (.int x3), some (.int x4), some (.int x5), some (.int x6), some (.int x7), w8, w9] [] h r := by
  refine tr_s (.iload_n 3) 1 75 [some (.ref 1086), w1, w2, some (.int x3), some (.int x4), some (.int x5), some (.int x6), some (.int x7), w8, w9] [.int x3] h rfl rfl rfl ?_
  refine tr_s (.iload 5) 2 77 [some (.ref 1086), w1, w2, some (.int x3), some (.int x4), some (.int x5), some (.int x6), some (.int x7), w8, w9] [.int x5, .int x3] h rfl rfl rfl ?_
  refine tr_s (.iload 7) 2 79 [some (.ref 1086), w1, w2, some (.int x3), some (.int x4), some (.int x5), some (.int x6), some (.int x7), w8, w9] [.int x7, .int x5, .int x3] h rfl rfl rfl ?_
  refine tr_call (.invokestatic 70) 70 3 2 0 m_X0_reflected [.int x5, .int x7] [.int x3] (some (.int v0)) h1 rfl rfl rfl rfl rfl rfl rfl rfl rfl (tr_cok rfl (Or.inl rfl)) c_0 ?_
  have hL0 := c_0.2
  exact tr_if2 .ne 7 89 x3 v0 rfl rfl rfl (fun hc => t ((tr_ne hc).1 rfl)) (fun hc => f ((tr_ne hc).2 rfl))
theorem sg_X1_effortFromBehind_85 {g : tr_g} {d : Nat} {h : ev_AH} {r : ev_O × ev_AH} {w1 w2 w8 w9 : Option Value} {x3 x4 x5 x6 x7 v0 v1 : Int32} {h1 h2 : ev_AH} (hL : hh_L h) (c_0 : tr_L g d m_X0_side 0 [some (.int x4), some (.int x7)] [] h (.inl (some (.int v0)), h1)) (c_1 : tr_L g d m_X8_at 0 [some (.ref 1087), some (.int v0)] [] h1 (.inl (some (.int v1)), h2)) (t : x6 ≤ (v1 + 0) → tr_L g (d + 1) m_X1_effortFromBehind 123 [some (.ref 1086), w1, w2, some (.int x3), some (.int x4), some (.int x5), some (.int x6), some (.int x7), some (.int 0), some (.int (v1 + 0))] [] h2 r) (f : (v1 + 0) < x6 → tr_L g (d + 1) m_X1_effortFromBehind 118 [some (.ref 1086), w1, w2, some (.int x3), some (.int x4), some (.int x5), some (.int x6), some (.int x7), some (.int 0), some (.int (v1 + 0))] [] h2 r) : tr_L g (d + 1) m_X1_effortFromBehind 85 [some (.ref 1086), w1, w2, some (.int x3), some (.int x4), some (.int x5), some (.int x6), some (.int x7), w8, w9] [] h r := by
  refine tr_ic 0 0 (by decide) rfl ?_
  refine tr_goto 4 90 rfl rfl rfl ?_
  refine tr_st (.istore 8) 2 8 0 (.int 0) rfl rfl rfl rfl rfl rfl rfl ?_
  refine tr_s (.aload_n 0) 1 93 [some (.ref 1086), w1, w2, some (.int x3), some (.int x4), some (.int x5), some (.int x6), some (.int x7), some (.int 0), w9] [.ref 1086] h rfl rfl rfl ?_
  refine tl_gr hL 9 86 5 0 87 [1087, 1088, 0, 0] rfl rfl rfl rfl ?_
  refine tr_s (.iload 4) 2 98 [some (.ref 1086), w1, w2, some (.int x3), some (.int x4), some (.int x5), some (.int x6), some (.int x7), some (.int 0), w9] [.int x4, .ref 1087] h rfl rfl rfl ?_
  refine tr_s (.iload 7) 2 100 [some (.ref 1086), w1, w2, some (.int x3), some (.int x4), some (.int x5), some (.int x6), some (.int x7), some (.int 0), w9] [.int x7, .int x4, .ref 1087] h rfl rfl rfl ?_
  refine tr_call (.invokestatic 34) 34 3 2 0 m_X0_side [.int x4, .int x7] [.ref 1087] (some (.int v0)) h1 rfl rfl rfl rfl rfl rfl rfl rfl rfl (tr_cok rfl (Or.inl rfl)) c_0 ?_
  have hL0 := c_0.2
  refine tr_call (.invokestatic 42) 42 3 2 0 m_X8_at [.ref 1087, .int v0] [] (some (.int v1)) h2 rfl rfl rfl rfl rfl rfl rfl rfl rfl (tr_cok rfl (Or.inl rfl)) c_1 ?_
  have hL1 := c_1.2
  refine tr_s (.iload 8) 2 108 [some (.ref 1086), w1, w2, some (.int x3), some (.int x4), some (.int x5), some (.int x6), some (.int x7), some (.int 0), w9] [.int 0, .int v1] h2 rfl rfl rfl ?_
  refine tr_s .iadd 1 109 [some (.ref 1086), w1, w2, some (.int x3), some (.int x4), some (.int x5), some (.int x6), some (.int x7), some (.int 0), w9] [.int (v1 + 0)] h2 rfl rfl rfl ?_
  refine tr_st (.istore 9) 2 9 0 (.int (v1 + 0)) rfl rfl rfl rfl rfl rfl rfl ?_
  refine tr_s (.iload 9) 2 113 [some (.ref 1086), w1, w2, some (.int x3), some (.int x4), some (.int x5), some (.int x6), some (.int x7), some (.int 0), some (.int (v1 + 0))] [.int (v1 + 0)] h2 rfl rfl rfl ?_
  refine tr_s (.iload 6) 2 115 [some (.ref 1086), w1, w2, some (.int x3), some (.int x4), some (.int x5), some (.int x6), some (.int x7), some (.int 0), some (.int (v1 + 0))] [.int x6, .int (v1 + 0)] h2 rfl rfl rfl ?_
  exact tr_if2 .ge 8 123 (v1 + 0) x6 rfl rfl rfl (fun hc => t ((tr_ge hc).1 rfl)) (fun hc => f ((tr_ge hc).2 rfl))
theorem sg_X1_effortFromBehind_89 {g : tr_g} {d : Nat} {h : ev_AH} {r : ev_O × ev_AH} {w1 w2 w8 w9 : Option Value} {x3 x4 x5 x6 x7 v0 v1 : Int32} {h1 h2 : ev_AH} (hL : hh_L h) (c_0 : tr_L g d m_X0_side 0 [some (.int x4), some (.int x7)] [] h (.inl (some (.int v0)), h1)) (c_1 : tr_L g d m_X8_at 0 [some (.ref 1087), some (.int v0)] [] h1 (.inl (some (.int v1)), h2)) (t : x6 ≤ (v1 + 1) → tr_L g (d + 1) m_X1_effortFromBehind 123 [some (.ref 1086), w1, w2, some (.int x3), some (.int x4), some (.int x5), some (.int x6), some (.int x7), some (.int 1), some (.int (v1 + 1))] [] h2 r) (f : (v1 + 1) < x6 → tr_L g (d + 1) m_X1_effortFromBehind 118 [some (.ref 1086), w1, w2, some (.int x3), some (.int x4), some (.int x5), some (.int x6), some (.int x7), some (.int 1), some (.int (v1 + 1))] [] h2 r) : tr_L g (d + 1) m_X1_effortFromBehind 89 [some (.ref 1086), w1, w2, some (.int x3), some (.int x4), some (.int x5), some (.int x6), some (.int x7), w8, w9] [] h r := by
  refine tr_ic 1 1 (by decide) rfl ?_
  refine tr_st (.istore 8) 2 8 0 (.int 1) rfl rfl rfl rfl rfl rfl rfl ?_
  refine tr_s (.aload_n 0) 1 93 [some (.ref 1086), w1, w2, some (.int x3), some (.int x4), some (.int x5), some (.int x6), some (.int x7), some (.int 1), w9] [.ref 1086] h rfl rfl rfl ?_
  refine tl_gr hL 9 86 5 0 87 [1087, 1088, 0, 0] rfl rfl rfl rfl ?_
  refine tr_s (.iload 4) 2 98 [some (.ref 1086), w1, w2, some (.int x3), some (.int x4), some (.int x5), some (.int x6), some (.int x7), some (.int 1), w9] [.int x4, .ref 1087] h rfl rfl rfl ?_
  refine tr_s (.iload 7) 2 100 [some (.ref 1086), w1, w2, some (.int x3), some (.int x4), some (.int x5), some (.int x6), some (.int x7), some (.int 1), w9] [.int x7, .int x4, .ref 1087] h rfl rfl rfl ?_
  refine tr_call (.invokestatic 34) 34 3 2 0 m_X0_side [.int x4, .int x7] [.ref 1087] (some (.int v0)) h1 rfl rfl rfl rfl rfl rfl rfl rfl rfl (tr_cok rfl (Or.inl rfl)) c_0 ?_
  have hL0 := c_0.2
  refine tr_call (.invokestatic 42) 42 3 2 0 m_X8_at [.ref 1087, .int v0] [] (some (.int v1)) h2 rfl rfl rfl rfl rfl rfl rfl rfl rfl (tr_cok rfl (Or.inl rfl)) c_1 ?_
  have hL1 := c_1.2
  refine tr_s (.iload 8) 2 108 [some (.ref 1086), w1, w2, some (.int x3), some (.int x4), some (.int x5), some (.int x6), some (.int x7), some (.int 1), w9] [.int 1, .int v1] h2 rfl rfl rfl ?_
  refine tr_s .iadd 1 109 [some (.ref 1086), w1, w2, some (.int x3), some (.int x4), some (.int x5), some (.int x6), some (.int x7), some (.int 1), w9] [.int (v1 + 1)] h2 rfl rfl rfl ?_
  refine tr_st (.istore 9) 2 9 0 (.int (v1 + 1)) rfl rfl rfl rfl rfl rfl rfl ?_
  refine tr_s (.iload 9) 2 113 [some (.ref 1086), w1, w2, some (.int x3), some (.int x4), some (.int x5), some (.int x6), some (.int x7), some (.int 1), some (.int (v1 + 1))] [.int (v1 + 1)] h2 rfl rfl rfl ?_
  refine tr_s (.iload 6) 2 115 [some (.ref 1086), w1, w2, some (.int x3), some (.int x4), some (.int x5), some (.int x6), some (.int x7), some (.int 1), some (.int (v1 + 1))] [.int x6, .int (v1 + 1)] h2 rfl rfl rfl ?_
  exact tr_if2 .ge 8 123 (v1 + 1) x6 rfl rfl rfl (fun hc => t ((tr_ge hc).1 rfl)) (fun hc => f ((tr_ge hc).2 rfl))
theorem sg_X1_effortFromBehind_118 {g : tr_g} {d : Nat} {h : ev_AH} {r : ev_O × ev_AH} {w1 w2 w6 w8 : Option Value} {x3 x4 x5 x7 x9 : Int32} (hL : hh_L h) (k : tr_L g d m_X1_effortFromBehind 59 [some (.ref 1086), w1, w2, some (.int x3), some (.int x4), some (.int x5), some (.int x9), some (.int (x7 + 1)), w8, some (.int x9)] [] h r) : tr_L g d m_X1_effortFromBehind 118 [some (.ref 1086), w1, w2, some (.int x3), some (.int x4), some (.int x5), w6, some (.int x7), w8, some (.int x9)] [] h r := by
  refine tr_s (.iload 9) 2 120 [some (.ref 1086), w1, w2, some (.int x3), some (.int x4), some (.int x5), w6, some (.int x7), w8, some (.int x9)] [.int x9] h rfl rfl rfl ?_
  refine tr_goto 5 125 rfl rfl rfl ?_
  refine tr_st (.istore 6) 2 6 0 (.int x9) rfl rfl rfl rfl rfl rfl rfl ?_
  refine tr_inc 7 1 x7 1 (by decide) rfl rfl rfl ?_
  refine tr_goto (-71) 59 rfl rfl rfl ?_
  exact k
theorem sg_X1_effortFromBehind_123 {g : tr_g} {d : Nat} {h : ev_AH} {r : ev_O × ev_AH} {w1 w2 w8 w9 : Option Value} {x3 x4 x5 x6 x7 : Int32} (hL : hh_L h) (k : tr_L g d m_X1_effortFromBehind 59 [some (.ref 1086), w1, w2, some (.int x3), some (.int x4), some (.int x5), some (.int x6), some (.int (x7 + 1)), w8, w9] [] h r) : tr_L g d m_X1_effortFromBehind 123 [some (.ref 1086), w1, w2, some (.int x3), some (.int x4), some (.int x5), some (.int x6), some (.int x7), w8, w9] [] h r := by
  refine tr_s (.iload 6) 2 125 [some (.ref 1086), w1, w2, some (.int x3), some (.int x4), some (.int x5), some (.int x6), some (.int x7), w8, w9] [.int x6] h rfl rfl rfl ?_
  refine tr_st (.istore 6) 2 6 0 (.int x6) rfl rfl rfl rfl rfl rfl rfl ?_
  refine tr_inc 7 1 x7 1 (by decide) rfl rfl rfl ?_
  refine tr_goto (-71) 59 rfl rfl rfl ?_
  exact k
theorem sg_X1_effortFromBehind_127 {g : tr_g} {d : Nat} {h : ev_AH} {r : ev_O × ev_AH} {w1 w2 w8 w9 : Option Value} {x3 x4 x5 x6 x7 : Int32} (hL : hh_L h) (k : tr_L g d m_X1_effortFromBehind 59 [some (.ref 1086), w1, w2, some (.int x3), some (.int x4), some (.int x5), some (.int x6), some (.int (x7 + 1)), w8, w9] [] h r) : tr_L g d m_X1_effortFromBehind 127 [some (.ref 1086), w1, w2, some (.int x3), some (.int x4), some (.int x5), some (.int x6), some (.int x7), w8, w9] [] h r := by
  refine tr_inc 7 1 x7 1 (by decide) rfl rfl rfl ?_
  refine tr_goto (-71) 59 rfl rfl rfl ?_
  exact k
theorem sg_X1_effortFromBehind_133 {g : tr_g} {d : Nat} {h : ev_AH} {r : ev_O × ev_AH} {w0 w1 w2 w3 w4 w5 w7 w8 w9 : Option Value} {x6 : Int32} (hL : hh_L h) (hr : r = (.inl (some (.int x6)), h)) : tr_L g d m_X1_effortFromBehind 133 [w0, w1, w2, w3, w4, w5, some (.int x6), w7, w8, w9] [] h r := by
  refine tr_s (.iload 6) 2 135 [w0, w1, w2, w3, w4, w5, some (.int x6), w7, w8, w9] [.int x6] h rfl rfl rfl ?_
  exact tl_ret hL .ireturn 1 (some (.int x6)) rfl rfl rfl rfl hr
