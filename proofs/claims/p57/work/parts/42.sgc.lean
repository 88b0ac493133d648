/-! runs of MirrorJury, History, Script, from place to place; laid by a program (wip/p57/gen/gen40.py) -/
theorem sg_X3_keep_0 {g : tr_g} {d : Nat} {h : ev_AH} {r : ev_O × ev_AH} {h1 h2 : ev_AH} (hL : hh_L h) (c_0 : tr_L g d m_X3_mark 0 [some (.ref 1015), some (.ref 1001), none] [] h (.inl none, h1)) (c_1 : tr_L g d m_X3_keepMarked 0 [some (.ref 1015)] [] h1 (.inl none, h2)) (hr : r = (.inl (none), h2)) : tr_L g (d + 1) m_X3_keep 0 [some (.ref 1015), some (.ref 1001)] [] h r := by
  refine tr_s (.aload_n 0) 1 1 [some (.ref 1015), some (.ref 1001)] [.ref 1015] h rfl rfl rfl ?_
  refine tr_s (.aload_n 1) 1 2 [some (.ref 1015), some (.ref 1001)] [.ref 1001, .ref 1015] h rfl rfl rfl ?_
  refine tr_call (.invokevirtual 33) 33 0 1 2 m_X3_mark [.ref 1015, .ref 1001] [] none h1 rfl rfl rfl rfl rfl rfl rfl rfl rfl (tr_cok rfl (Or.inr ⟨_, _, rfl, tr_rc (hh_rd (hh_obj hL (k := 15) rfl).1) (by decide)⟩)) c_0 ?_
  have hL0 := c_0.2
  refine tr_s (.aload_n 0) 1 6 [some (.ref 1015), some (.ref 1001)] [.ref 1015] h1 rfl rfl rfl ?_
  refine tr_call (.invokevirtual 36) 36 0 0 2 m_X3_keepMarked [.ref 1015] [] none h2 rfl rfl rfl rfl rfl rfl rfl rfl rfl (tr_cok rfl (Or.inr ⟨_, _, rfl, tr_rc (hh_rd (hh_obj hL0 (k := 15) rfl).1) (by decide)⟩)) c_1 ?_
  have hL1 := c_1.2
  exact tl_ret hL1 .return_ 1 none rfl rfl rfl rfl hr
theorem sg_X3_mark_0 {g : tr_g} {d : Nat} {h : ev_AH} {r : ev_O × ev_AH} {h1 h2 : ev_AH} {c0 : Nat} {vs0 : List Value} (hL : hh_L h) (c_0 : tr_L g d m_X3_slotOfMarked 0 [some (.ref 1015), none] [] h (.inl (some (.ref (c0 + 1000))), h1)) (m0 : h1.1[c0]? = some (.inr (1, vs0))) (c_1 : tr_L g d m_X2_copyFrom 0 [some (.ref (c0 + 1000)), some (.ref 1001)] [] h1 (.inl none, h2)) (hr : r = (.inl (none), h2)) : tr_L g (d + 1) m_X3_mark 0 [some (.ref 1015), some (.ref 1001), none] [] h r := by
  refine tr_s (.aload_n 0) 1 1 [some (.ref 1015), some (.ref 1001), none] [.ref 1015] h rfl rfl rfl ?_
  refine tr_call (.invokevirtual 25) 25 0 0 2 m_X3_slotOfMarked [.ref 1015] [] (some (.ref (c0 + 1000))) h1 rfl rfl rfl rfl rfl rfl rfl rfl rfl (tr_cok rfl (Or.inr ⟨_, _, rfl, tr_rc (hh_rd (hh_obj hL (k := 15) rfl).1) (by decide)⟩)) c_0 ?_
  have hL0 := c_0.2
  refine tr_st (.astore_n 2) 1 2 1 (.ref (c0 + 1000)) rfl rfl rfl rfl rfl rfl rfl ?_
  refine tr_s (.aload_n 2) 1 6 [some (.ref 1015), some (.ref 1001), some (.ref (c0 + 1000))] [.ref (c0 + 1000)] h1 rfl rfl rfl ?_
  refine tr_s (.ifnull 8) 3 9 [some (.ref 1015), some (.ref 1001), some (.ref (c0 + 1000))] [] h1 rfl rfl rfl ?_
  refine tr_s (.aload_n 2) 1 10 [some (.ref 1015), some (.ref 1001), some (.ref (c0 + 1000))] [.ref (c0 + 1000)] h1 rfl rfl rfl ?_
  refine tr_s (.aload_n 1) 1 11 [some (.ref 1015), some (.ref 1001), some (.ref (c0 + 1000))] [.ref 1001, .ref (c0 + 1000)] h1 rfl rfl rfl ?_
  refine tr_call (.invokevirtual 29) 29 1 1 1 m_X2_copyFrom [.ref (c0 + 1000), .ref 1001] [] none h2 rfl rfl rfl rfl rfl rfl rfl rfl rfl (tr_cok rfl (Or.inr ⟨_, _, rfl, tr_rc (hh_rd m0) (by decide)⟩)) c_1 ?_
  have hL1 := c_1.2
  exact tl_ret hL1 .return_ 1 none rfl rfl rfl rfl hr
theorem sg_X3_slotOfMarked_0 {g : tr_g} {d : Nat} {h : ev_AH} {r : ev_O × ev_AH} (hL : hh_L h) (t : (((hh_i h 15 1) + (hh_i h 15 2)) - ((hh_i h 15 1) + (hh_i h 15 2)) / 9 * 9) < 0 → tr_L g d m_X3_slotOfMarked 35 [some (.ref 1015), some (.int (((hh_i h 15 1) + (hh_i h 15 2)) - ((hh_i h 15 1) + (hh_i h 15 2)) / 9 * 9))] [] h r) (f : 0 ≤ (((hh_i h 15 1) + (hh_i h 15 2)) - ((hh_i h 15 1) + (hh_i h 15 2)) / 9 * 9) → tr_L g d m_X3_slotOfMarked 17 [some (.ref 1015), some (.int (((hh_i h 15 1) + (hh_i h 15 2)) - ((hh_i h 15 1) + (hh_i h 15 2)) / 9 * 9))] [] h r) : tr_L g d m_X3_slotOfMarked 0 [some (.ref 1015), none] [] h r := by
  refine tr_s (.aload_n 0) 1 1 [some (.ref 1015), none] [.ref 1015] h rfl rfl rfl ?_
  refine tl_gi hL 17 15 2 1 [1016, 0, 0] rfl rfl rfl rfl ?_
  refine tr_s (.aload_n 0) 1 5 [some (.ref 1015), none] [.ref 1015, .int (hh_i h 15 1)] h rfl rfl rfl ?_
  refine tl_gi hL 21 15 2 2 [1016, 0, 0] rfl rfl rfl rfl ?_
  refine tr_s .iadd 1 9 [some (.ref 1015), none] [.int ((hh_i h 15 1) + (hh_i h 15 2))] h rfl rfl rfl ?_
  refine tr_bi 9 9 (by decide) rfl ?_
  refine tr_s .irem 1 12 [some (.ref 1015), none] [.int (((hh_i h 15 1) + (hh_i h 15 2)) - ((hh_i h 15 1) + (hh_i h 15 2)) / 9 * 9)] h rfl rfl rfl ?_
  refine tr_st (.istore_n 1) 1 1 0 (.int (((hh_i h 15 1) + (hh_i h 15 2)) - ((hh_i h 15 1) + (hh_i h 15 2)) / 9 * 9)) rfl rfl rfl rfl rfl rfl rfl ?_
  refine tr_s (.iload_n 1) 1 14 [some (.ref 1015), some (.int (((hh_i h 15 1) + (hh_i h 15 2)) - ((hh_i h 15 1) + (hh_i h 15 2)) / 9 * 9))] [.int (((hh_i h 15 1) + (hh_i h 15 2)) - ((hh_i h 15 1) + (hh_i h 15 2)) / 9 * 9)] h rfl rfl rfl ?_
  exact tr_if1 .lt 21 35 (((hh_i h 15 1) + (hh_i h 15 2)) - ((hh_i h 15 1) + (hh_i h 15 2)) / 9 * 9) rfl rfl rfl (fun hc => t ((tr_lt hc).1 rfl)) (fun hc => f ((tr_lt hc).2 rfl))
theorem sg_X3_slotOfMarked_17 {g : tr_g} {d : Nat} {h : ev_AH} {r : ev_O × ev_AH} {x1 : Int32} (hL : hh_L h) (t : 9 ≤ x1 → tr_L g d m_X3_slotOfMarked 35 [some (.ref 1015), some (.int x1)] [] h r) (f : x1 < 9 → tr_L g d m_X3_slotOfMarked 26 [some (.ref 1015), some (.int x1)] [] h r) : tr_L g d m_X3_slotOfMarked 17 [some (.ref 1015), some (.int x1)] [] h r := by
  refine tr_s (.iload_n 1) 1 18 [some (.ref 1015), some (.int x1)] [.int x1] h rfl rfl rfl ?_
  refine tr_s (.aload_n 0) 1 19 [some (.ref 1015), some (.int x1)] [.ref 1015, .int x1] h rfl rfl rfl ?_
  refine tl_gr hL 13 15 2 0 16 [1016, 0, 0] rfl rfl rfl rfl ?_
  refine tl_alR hL 16 102 _ rfl rfl (by decide) (by decide) 9 (by decide) ?_
  exact tr_if2 .ge 12 35 x1 9 rfl rfl rfl (fun hc => t ((tr_ge hc).1 rfl)) (fun hc => f ((tr_ge hc).2 rfl))
theorem sg_X3_slotOfMarked_26 {g : tr_g} {d : Nat} {h : ev_AH} {r : ev_O × ev_AH} {x1 : Int32} {j0 c0 : Nat} (hL : hh_L h) (e0 : x1 = Int32.ofNat j0) (b0 : ([1017, 1024, 1031, 1038, 1045, 1052, 1059, 1066, 1073] : List Nat)[j0]? = some (c0 + 1000)) (hr : r = (.inl (some (.ref (c0 + 1000))), h)) : tr_L g d m_X3_slotOfMarked 26 [some (.ref 1015), some (.int x1)] [] h r := by
  refine tr_s (.aload_n 0) 1 27 [some (.ref 1015), some (.int x1)] [.ref 1015] h rfl rfl rfl ?_
  refine tl_gr hL 13 15 2 0 16 [1016, 0, 0] rfl rfl rfl rfl ?_
  refine tr_s (.iload_n 1) 1 31 [some (.ref 1015), some (.int x1)] [.int x1, .ref 1016] h rfl rfl rfl ?_
  refine tl_aald hL 16 j0 c0 x1 [1017, 1024, 1031, 1038, 1045, 1052, 1059, 1066, 1073] rfl rfl e0 (by decide) b0 ?_
  refine tr_goto 4 36 rfl rfl rfl ?_
  exact tl_ret hL .areturn 1 (some (.ref (c0 + 1000))) rfl rfl rfl rfl hr
theorem sg_X3_slotOfMarked_35 {g : tr_g} {d : Nat} {h : ev_AH} {r : ev_O × ev_AH} {w0 w1 : Option Value} (hL : hh_L h) (hr : r = (.inl (some (.null)), h)) : tr_L g d m_X3_slotOfMarked 35 [w0, w1] [] h r := by
  refine tr_s .aconst_null 1 36 [w0, w1] [.null] h rfl rfl rfl ?_
  exact tl_ret hL .areturn 1 (some (.null)) rfl rfl rfl rfl hr
theorem sg_X3_keepMarked_0 {g : tr_g} {d : Nat} {h : ev_AH} {r : ev_O × ev_AH} (hL : hh_L h) (t : 8 ≤ (hh_i h 15 2) → tr_L g d m_X3_keepMarked 22 [some (.ref 1015)] [] h r) (f : (hh_i h 15 2) < 8 → tr_L g d m_X3_keepMarked 9 [some (.ref 1015)] [] h r) : tr_L g d m_X3_keepMarked 0 [some (.ref 1015)] [] h r := by
  refine tr_s (.aload_n 0) 1 1 [some (.ref 1015)] [.ref 1015] h rfl rfl rfl ?_
  refine tl_gi hL 21 15 2 2 [1016, 0, 0] rfl rfl rfl rfl ?_
  refine tr_bi 8 8 (by decide) rfl ?_
  exact tr_if2 .ge 16 22 (hh_i h 15 2) 8 rfl rfl rfl (fun hc => t ((tr_ge hc).1 rfl)) (fun hc => f ((tr_ge hc).2 rfl))
theorem sg_X3_keepMarked_9 {g : tr_g} {d : Nat} {h : ev_AH} {r : ev_O × ev_AH} (hL : hh_L h) (hr : r = (.inl (none), hh_si h 15 2 2 ((hh_i h 15 2) + 1))) : tr_L g d m_X3_keepMarked 9 [some (.ref 1015)] [] h r := by
  refine tr_s (.aload_n 0) 1 10 [some (.ref 1015)] [.ref 1015] h rfl rfl rfl ?_
  refine tr_s .dup 1 11 [some (.ref 1015)] [.ref 1015, .ref 1015] h rfl rfl rfl ?_
  refine tl_gi hL 21 15 2 2 [1016, 0, 0] rfl rfl rfl rfl ?_
  refine tr_ic 1 1 (by decide) rfl ?_
  refine tr_s .iadd 1 16 [some (.ref 1015)] [.int ((hh_i h 15 2) + 1), .ref 1015] h rfl rfl rfl ?_
  refine tl_pf hL 21 15 2 2 [1016, 0, 0] ((hh_i h 15 2) + 1) .int rfl rfl rfl rfl rfl tr_oki ?_
  have hL0 := hh_L_si (sl := 2) (x := ((hh_i h 15 2) + 1)) hL (show hh_t[15]? = some (.inr (2, [1016, 0, 0])) from rfl) rfl
  refine tr_goto 16 35 rfl rfl rfl ?_
  exact tl_ret hL0 .return_ 1 none rfl rfl rfl rfl hr
theorem sg_X3_keepMarked_22 {g : tr_g} {d : Nat} {h : ev_AH} {r : ev_O × ev_AH} (hL : hh_L h) (hr : r = (.inl (none), hh_si h 15 2 1 (((hh_i h 15 1) + 1) - ((hh_i h 15 1) + 1) / 9 * 9))) : tr_L g d m_X3_keepMarked 22 [some (.ref 1015)] [] h r := by
  refine tr_s (.aload_n 0) 1 23 [some (.ref 1015)] [.ref 1015] h rfl rfl rfl ?_
  refine tr_s (.aload_n 0) 1 24 [some (.ref 1015)] [.ref 1015, .ref 1015] h rfl rfl rfl ?_
  refine tl_gi hL 17 15 2 1 [1016, 0, 0] rfl rfl rfl rfl ?_
  refine tr_ic 1 1 (by decide) rfl ?_
  refine tr_s .iadd 1 29 [some (.ref 1015)] [.int ((hh_i h 15 1) + 1), .ref 1015] h rfl rfl rfl ?_
  refine tr_bi 9 9 (by decide) rfl ?_
  refine tr_s .irem 1 32 [some (.ref 1015)] [.int (((hh_i h 15 1) + 1) - ((hh_i h 15 1) + 1) / 9 * 9), .ref 1015] h rfl rfl rfl ?_
  refine tl_pf hL 17 15 2 1 [1016, 0, 0] (((hh_i h 15 1) + 1) - ((hh_i h 15 1) + 1) / 9 * 9) .int rfl rfl rfl rfl rfl tr_oki ?_
  have hL0 := hh_L_si (sl := 1) (x := (((hh_i h 15 1) + 1) - ((hh_i h 15 1) + 1) / 9 * 9)) hL (show hh_t[15]? = some (.inr (2, [1016, 0, 0])) from rfl) rfl
  exact tl_ret hL0 .return_ 1 none rfl rfl rfl rfl hr
theorem sg_X3_stepBack_0 {g : tr_g} {d : Nat} {h : ev_AH} {r : ev_O × ev_AH} (hL : hh_L h) (t : (hh_i h 15 2) ≤ 0 → tr_L g d m_X3_stepBack 22 [some (.ref 1015), some (.ref 1001)] [] h r) (f : 0 < (hh_i h 15 2) → tr_L g d m_X3_stepBack 7 [some (.ref 1015), some (.ref 1001)] [] h r) : tr_L g d m_X3_stepBack 0 [some (.ref 1015), some (.ref 1001)] [] h r := by
  refine tr_s (.aload_n 0) 1 1 [some (.ref 1015), some (.ref 1001)] [.ref 1015] h rfl rfl rfl ?_
  refine tl_gi hL 21 15 2 2 [1016, 0, 0] rfl rfl rfl rfl ?_
  exact tr_if1 .le 18 22 (hh_i h 15 2) rfl rfl rfl (fun hc => t ((tr_le hc).1 rfl)) (fun hc => f ((tr_le hc).2 rfl))
theorem sg_X3_stepBack_7 {g : tr_g} {d : Nat} {h : ev_AH} {r : ev_O × ev_AH} {h1 : ev_AH} (hL : hh_L h) (c_0 : tr_L g d m_X3_returnToMarked 0 [some (.ref 1015), some (.ref 1001), none] [] (hh_si h 15 2 2 ((hh_i h 15 2) - 1)) (.inl none, h1)) (hr : r = (.inl (none), h1)) : tr_L g (d + 1) m_X3_stepBack 7 [some (.ref 1015), some (.ref 1001)] [] h r := by
  refine tr_s (.aload_n 0) 1 8 [some (.ref 1015), some (.ref 1001)] [.ref 1015] h rfl rfl rfl ?_
  refine tr_s .dup 1 9 [some (.ref 1015), some (.ref 1001)] [.ref 1015, .ref 1015] h rfl rfl rfl ?_
  refine tl_gi hL 21 15 2 2 [1016, 0, 0] rfl rfl rfl rfl ?_
  refine tr_ic 1 1 (by decide) rfl ?_
  refine tr_s .isub 1 14 [some (.ref 1015), some (.ref 1001)] [.int ((hh_i h 15 2) - 1), .ref 1015] h rfl rfl rfl ?_
  refine tl_pf hL 21 15 2 2 [1016, 0, 0] ((hh_i h 15 2) - 1) .int rfl rfl rfl rfl rfl tr_oki ?_
  have hL0 := hh_L_si (sl := 2) (x := ((hh_i h 15 2) - 1)) hL (show hh_t[15]? = some (.inr (2, [1016, 0, 0])) from rfl) rfl
  refine tr_s (.aload_n 0) 1 18 [some (.ref 1015), some (.ref 1001)] [.ref 1015] (hh_si h 15 2 2 ((hh_i h 15 2) - 1)) rfl rfl rfl ?_
  refine tr_s (.aload_n 1) 1 19 [some (.ref 1015), some (.ref 1001)] [.ref 1001, .ref 1015] (hh_si h 15 2 2 ((hh_i h 15 2) - 1)) rfl rfl rfl ?_
  refine tr_call (.invokevirtual 39) 39 0 1 2 m_X3_returnToMarked [.ref 1015, .ref 1001] [] none h1 rfl rfl rfl rfl rfl rfl rfl rfl rfl (tr_cok rfl (Or.inr ⟨_, _, rfl, tr_rc (hh_rd (hh_obj hL0 (k := 15) rfl).1) (by decide)⟩)) c_0 ?_
  have hL1 := c_0.2
  exact tl_ret hL1 .return_ 1 none rfl rfl rfl rfl hr
theorem sg_X3_stepBack_22 {g : tr_g} {d : Nat} {h : ev_AH} {r : ev_O × ev_AH} {w0 w1 : Option Value} (hL : hh_L h) (hr : r = (.inl (none), h)) : tr_L g d m_X3_stepBack 22 [w0, w1] [] h r := by
  exact tl_ret hL .return_ 1 none rfl rfl rfl rfl hr
theorem sg_X3_returnToMarked_0 {g : tr_g} {d : Nat} {h : ev_AH} {r : ev_O × ev_AH} {h1 h2 : ev_AH} {c0 : Nat} (hL : hh_L h) (c_0 : tr_L g d m_X3_slotOfMarked 0 [some (.ref 1015), none] [] h (.inl (some (.ref (c0 + 1000))), h1)) (c_1 : tr_L g d m_X2_copyFrom 0 [some (.ref 1001), some (.ref (c0 + 1000))] [] h1 (.inl none, h2)) (hr : r = (.inl (none), h2)) : tr_L g (d + 1) m_X3_returnToMarked 0 [some (.ref 1015), some (.ref 1001), none] [] h r := by
  refine tr_s (.aload_n 0) 1 1 [some (.ref 1015), some (.ref 1001), none] [.ref 1015] h rfl rfl rfl ?_
  refine tr_call (.invokevirtual 25) 25 0 0 2 m_X3_slotOfMarked [.ref 1015] [] (some (.ref (c0 + 1000))) h1 rfl rfl rfl rfl rfl rfl rfl rfl rfl (tr_cok rfl (Or.inr ⟨_, _, rfl, tr_rc (hh_rd (hh_obj hL (k := 15) rfl).1) (by decide)⟩)) c_0 ?_
  have hL0 := c_0.2
  refine tr_st (.astore_n 2) 1 2 1 (.ref (c0 + 1000)) rfl rfl rfl rfl rfl rfl rfl ?_
  refine tr_s (.aload_n 2) 1 6 [some (.ref 1015), some (.ref 1001), some (.ref (c0 + 1000))] [.ref (c0 + 1000)] h1 rfl rfl rfl ?_
  refine tr_s (.ifnull 8) 3 9 [some (.ref 1015), some (.ref 1001), some (.ref (c0 + 1000))] [] h1 rfl rfl rfl ?_
  refine tr_s (.aload_n 1) 1 10 [some (.ref 1015), some (.ref 1001), some (.ref (c0 + 1000))] [.ref 1001] h1 rfl rfl rfl ?_
  refine tr_s (.aload_n 2) 1 11 [some (.ref 1015), some (.ref 1001), some (.ref (c0 + 1000))] [.ref (c0 + 1000), .ref 1001] h1 rfl rfl rfl ?_
  refine tr_call (.invokevirtual 29) 29 1 1 1 m_X2_copyFrom [.ref 1001, .ref (c0 + 1000)] [] none h2 rfl rfl rfl rfl rfl rfl rfl rfl rfl (tr_cok rfl (Or.inr ⟨_, _, rfl, tr_rc (hh_rd (hh_obj hL0 (k := 1) rfl).1) (by decide)⟩)) c_1 ?_
  have hL1 := c_1.2
  exact tl_ret hL1 .return_ 1 none rfl rfl rfl rfl hr
theorem sg_X6_countCommands_0 {g : tr_g} {d : Nat} {h : ev_AH} {r : ev_O × ev_AH} (hL : hh_L h) (k : tr_L g d m_X6_countCommands 7 [some (.ref 1093), some (.int 1)] [] (hh_si h 93 7 1 0) r) : tr_L g d m_X6_countCommands 0 [some (.ref 1093), none] [] h r := by
  refine tr_s (.aload_n 0) 1 1 [some (.ref 1093), none] [.ref 1093] h rfl rfl rfl ?_
  refine tr_ic 0 0 (by decide) rfl ?_
  refine tl_pf hL 18 93 7 1 [1094, 0, 0, 0, 0, 0, 0] 0 .int rfl rfl rfl rfl rfl tr_oki ?_
  have hL0 := hh_L_si (sl := 1) (x := 0) hL (show hh_t[93]? = some (.inr (7, [1094, 0, 0, 0, 0, 0, 0])) from rfl) rfl
  refine tr_ic 1 1 (by decide) rfl ?_
  refine tr_st (.istore_n 1) 1 1 0 (.int 1) rfl rfl rfl rfl rfl rfl rfl ?_
  exact k
theorem sg_X6_countCommands_7 {g : tr_g} {d : Nat} {h : ev_AH} {r : ev_O × ev_AH} {x1 : Int32} (hL : hh_L h) (t : 60 < x1 → tr_L g d m_X6_countCommands 55 [some (.ref 1093), some (.int x1)] [] h r) (f : x1 ≤ 60 → tr_L g d m_X6_countCommands 13 [some (.ref 1093), some (.int x1)] [] h r) : tr_L g d m_X6_countCommands 7 [some (.ref 1093), some (.int x1)] [] h r := by
  refine tr_s (.iload_n 1) 1 8 [some (.ref 1093), some (.int x1)] [.int x1] h rfl rfl rfl ?_
  refine tr_bi 60 60 (by decide) rfl ?_
  exact tr_if2 .gt 45 55 x1 60 rfl rfl rfl (fun hc => t ((tr_gt hc).1 rfl)) (fun hc => f ((tr_gt hc).2 rfl))
theorem sg_X6_countCommands_13 {g : tr_g} {d : Nat} {h : ev_AH} {r : ev_O × ev_AH} {x1 v0 : Int32} {h1 : ev_AH} (hL : hh_L h) (c_0 : tr_L g d m_X6_readCommand 0 [some (.ref 1093), none] [] h (.inl (some (.int v0)), h1)) (t : v0 ≠ 0 → tr_L g (d + 1) m_X6_countCommands 22 [some (.ref 1093), some (.int x1)] [] h1 r) (f : v0 = 0 → tr_L g (d + 1) m_X6_countCommands 20 [some (.ref 1093), some (.int x1)] [] h1 r) : tr_L g (d + 1) m_X6_countCommands 13 [some (.ref 1093), some (.int x1)] [] h r := by
  refine tr_s (.aload_n 0) 1 14 [some (.ref 1093), some (.int x1)] [.ref 1093] h rfl rfl rfl ?_
  refine tr_call (.invokevirtual 38) 38 0 0 7 m_X6_readCommand [.ref 1093] [] (some (.int v0)) h1 rfl rfl rfl rfl rfl rfl rfl rfl rfl (tr_cok rfl (Or.inr ⟨_, _, rfl, tr_rc (hh_rd (hh_obj hL (k := 93) rfl).1) (by decide)⟩)) c_0 ?_
  have hL0 := c_0.2
  exact tr_if1 .ne 5 22 v0 rfl rfl rfl (fun hc => t ((tr_ne hc).1 rfl)) (fun hc => f ((tr_ne hc).2 rfl))
theorem sg_X6_countCommands_20 {g : tr_g} {d : Nat} {h : ev_AH} {r : ev_O × ev_AH} {w0 w1 : Option Value} (hL : hh_L h) (hr : r = (.inl (some (.int (-1))), h)) : tr_L g d m_X6_countCommands 20 [w0, w1] [] h r := by
  refine tr_ic (-1) (-1) (by decide) rfl ?_
  exact tl_ret hL .ireturn 1 (some (.int (-1))) rfl rfl rfl rfl hr
theorem sg_X6_countCommands_22 {g : tr_g} {d : Nat} {h : ev_AH} {r : ev_O × ev_AH} {x1 v0 : Int32} {h1 : ev_AH} (hL : hh_L h) (c_0 : tr_L g d m_J4_length_8abf5 0 [some (.ref 1094)] [] h (.inl (some (.int v0)), h1)) (t : (hh_i h 93 1) < v0 → tr_L g (d + 1) m_X6_countCommands 38 [some (.ref 1093), some (.int x1)] [] h1 r) (f : v0 ≤ (hh_i h 93 1) → tr_L g (d + 1) m_X6_countCommands 36 [some (.ref 1093), some (.int x1)] [] h1 r) : tr_L g (d + 1) m_X6_countCommands 22 [some (.ref 1093), some (.int x1)] [] h r := by
  refine tr_s (.aload_n 0) 1 23 [some (.ref 1093), some (.int x1)] [.ref 1093] h rfl rfl rfl ?_
  refine tl_gi hL 18 93 7 1 [1094, 0, 0, 0, 0, 0, 0] rfl rfl rfl rfl ?_
  refine tr_s (.aload_n 0) 1 27 [some (.ref 1093), some (.int x1)] [.ref 1093, .int (hh_i h 93 1)] h rfl rfl rfl ?_
  refine tl_gr hL 12 93 7 0 94 [1094, 0, 0, 0, 0, 0, 0] rfl rfl rfl rfl ?_
  refine tr_call (.invokevirtual 42) 42 0 0 9 m_J4_length_8abf5 [.ref 1094] [.int (hh_i h 93 1)] (some (.int v0)) h1 rfl rfl rfl rfl rfl rfl rfl rfl rfl (tr_cok rfl (Or.inr ⟨_, _, rfl, tr_rc (hh_rd (hh_obj hL (k := 94) rfl).1) (by decide)⟩)) c_0 ?_
  have hL0 := c_0.2
  exact tr_if2 .lt 5 38 (hh_i h 93 1) v0 rfl rfl rfl (fun hc => t ((tr_lt hc).1 rfl)) (fun hc => f ((tr_lt hc).2 rfl))
theorem sg_X6_countCommands_36 {g : tr_g} {d : Nat} {h : ev_AH} {r : ev_O × ev_AH} {w0 : Option Value} {x1 : Int32} (hL : hh_L h) (hr : r = (.inl (some (.int x1)), h)) : tr_L g d m_X6_countCommands 36 [w0, some (.int x1)] [] h r := by
  refine tr_s (.iload_n 1) 1 37 [w0, some (.int x1)] [.int x1] h rfl rfl rfl ?_
  exact tl_ret hL .ireturn 1 (some (.int x1)) rfl rfl rfl rfl hr
theorem sg_X6_countCommands_38 {g : tr_g} {d : Nat} {h : ev_AH} {r : ev_O × ev_AH} {x1 v0 : Int32} {h1 : ev_AH} (hL : hh_L h) (c_0 : tr_L g d m_X6_takeWord 0 [some (.ref 1093), some (.ref 23), none] [] h (.inl (some (.int v0)), h1)) (t : v0 ≠ 0 → tr_L g (d + 1) m_X6_countCommands 49 [some (.ref 1093), some (.int x1)] [] h1 r) (f : v0 = 0 → tr_L g (d + 1) m_X6_countCommands 47 [some (.ref 1093), some (.int x1)] [] h1 r) : tr_L g (d + 1) m_X6_countCommands 38 [some (.ref 1093), some (.int x1)] [] h r := by
  refine tr_s (.aload_n 0) 1 39 [some (.ref 1093), some (.int x1)] [.ref 1093] h rfl rfl rfl ?_
  refine tr_s (.ldc 46) 2 41 [some (.ref 1093), some (.int x1)] [.ref 23, .ref 1093] h rfl rfl rfl ?_
  refine tr_call (.invokevirtual 48) 48 0 1 7 m_X6_takeWord [.ref 1093, .ref 23] [] (some (.int v0)) h1 rfl rfl rfl rfl rfl rfl rfl rfl rfl (tr_cok rfl (Or.inr ⟨_, _, rfl, tr_rc (hh_rd (hh_obj hL (k := 93) rfl).1) (by decide)⟩)) c_0 ?_
  have hL0 := c_0.2
  exact tr_if1 .ne 5 49 v0 rfl rfl rfl (fun hc => t ((tr_ne hc).1 rfl)) (fun hc => f ((tr_ne hc).2 rfl))
theorem sg_X6_countCommands_47 {g : tr_g} {d : Nat} {h : ev_AH} {r : ev_O × ev_AH} {w0 w1 : Option Value} (hL : hh_L h) (hr : r = (.inl (some (.int (-1))), h)) : tr_L g d m_X6_countCommands 47 [w0, w1] [] h r := by
  refine tr_ic (-1) (-1) (by decide) rfl ?_
  exact tl_ret hL .ireturn 1 (some (.int (-1))) rfl rfl rfl rfl hr
theorem sg_X6_countCommands_49 {g : tr_g} {d : Nat} {h : ev_AH} {r : ev_O × ev_AH} {x1 : Int32} (hL : hh_L h) (k : tr_L g d m_X6_countCommands 7 [some (.ref 1093), some (.int (x1 + 1))] [] h r) : tr_L g d m_X6_countCommands 49 [some (.ref 1093), some (.int x1)] [] h r := by
  refine tr_inc 1 1 x1 1 (by decide) rfl rfl rfl ?_
  refine tr_goto (-45) 7 rfl rfl rfl ?_
  exact k
theorem sg_X6_countCommands_55 {g : tr_g} {d : Nat} {h : ev_AH} {r : ev_O × ev_AH} {w0 w1 : Option Value} (hL : hh_L h) (hr : r = (.inl (some (.int (-1))), h)) : tr_L g d m_X6_countCommands 55 [w0, w1] [] h r := by
  refine tr_ic (-1) (-1) (by decide) rfl ?_
  exact tl_ret hL .ireturn 1 (some (.int (-1))) rfl rfl rfl rfl hr
theorem sg_X6_readCommand_0 {g : tr_g} {d : Nat} {h : ev_AH} {r : ev_O × ev_AH} {h1 : ev_AH} {v0 : Int32} (hL : hh_L h) (c_0 : tr_L g d m_X6_peek 0 [some (.ref 1093)] [] h (.inl (some (.int v0)), h1)) (t : v0 ≠ 99 → tr_L g (d + 1) m_X6_readCommand 54 [some (.ref 1093), some (.int v0)] [] h1 r) (f : v0 = 99 → tr_L g (d + 1) m_X6_readCommand 11 [some (.ref 1093), some (.int v0)] [] h1 r) : tr_L g (d + 1) m_X6_readCommand 0 [some (.ref 1093), none] [] h r := by
  refine tr_s (.aload_n 0) 1 1 [some (.ref 1093), none] [.ref 1093] h rfl rfl rfl ?_
  refine tr_call (.invokevirtual 52) 52 0 0 7 m_X6_peek [.ref 1093] [] (some (.int v0)) h1 rfl rfl rfl rfl rfl rfl rfl rfl rfl (tr_cok rfl (Or.inr ⟨_, _, rfl, tr_rc (hh_rd (hh_obj hL (k := 93) rfl).1) (by decide)⟩)) c_0 ?_
  have hL0 := c_0.2
  refine tr_st (.istore_n 1) 1 1 0 (.int v0) rfl rfl rfl rfl rfl rfl rfl ?_
  refine tr_s (.iload_n 1) 1 6 [some (.ref 1093), some (.int v0)] [.int v0] h1 rfl rfl rfl ?_
  refine tr_bi 99 99 (by decide) rfl ?_
  exact tr_if2 .ne 46 54 v0 99 rfl rfl rfl (fun hc => t ((tr_ne hc).1 rfl)) (fun hc => f ((tr_ne hc).2 rfl))
theorem sg_X6_readCommand_11 {g : tr_g} {d : Nat} {h : ev_AH} {r : ev_O × ev_AH} {w1 : Option Value} {h1 : ev_AH} {v0 : Int32} (hL : hh_L h) (c_0 : tr_L g d m_X6_takeWord 0 [some (.ref 1093), some (.ref 1), none] [] (hh_si h 93 7 2 0) (.inl (some (.int v0)), h1)) (t : v0 = 0 → tr_L g (d + 1) m_X6_readCommand 52 [some (.ref 1093), w1] [] h1 r) (f : v0 ≠ 0 → tr_L g (d + 1) m_X6_readCommand 25 [some (.ref 1093), w1] [] h1 r) : tr_L g (d + 1) m_X6_readCommand 11 [some (.ref 1093), w1] [] h r := by
  refine tr_s (.aload_n 0) 1 12 [some (.ref 1093), w1] [.ref 1093] h rfl rfl rfl ?_
  refine tr_ic 0 0 (by decide) rfl ?_
  refine tl_pf hL 22 93 7 2 [1094, 0, 0, 0, 0, 0, 0] 0 .int rfl rfl rfl rfl rfl tr_oki ?_
  have hL0 := hh_L_si (sl := 2) (x := 0) hL (show hh_t[93]? = some (.inr (7, [1094, 0, 0, 0, 0, 0, 0])) from rfl) rfl
  refine tr_s (.aload_n 0) 1 17 [some (.ref 1093), w1] [.ref 1093] (hh_si h 93 7 2 0) rfl rfl rfl ?_
  refine tr_s (.ldc 56) 2 19 [some (.ref 1093), w1] [.ref 1, .ref 1093] (hh_si h 93 7 2 0) rfl rfl rfl ?_
  refine tr_call (.invokevirtual 48) 48 0 1 7 m_X6_takeWord [.ref 1093, .ref 1] [] (some (.int v0)) h1 rfl rfl rfl rfl rfl rfl rfl rfl rfl (tr_cok rfl (Or.inr ⟨_, _, rfl, tr_rc (hh_rd (hh_obj hL0 (k := 93) rfl).1) (by decide)⟩)) c_0 ?_
  have hL1 := c_0.2
  exact tr_if1 .eq 30 52 v0 rfl rfl rfl (fun hc => t ((tr_eq hc).1 rfl)) (fun hc => f ((tr_eq hc).2 rfl))
theorem sg_X6_readCommand_25 {g : tr_g} {d : Nat} {h : ev_AH} {r : ev_O × ev_AH} {w1 : Option Value} {h1 : ev_AH} {v0 : Int32} (hL : hh_L h) (c_0 : tr_L g d m_X6_takeNumber 0 [some (.ref 1093)] [] h (.inl (some (.int v0)), h1)) (t : v0 = 0 → tr_L g (d + 1) m_X6_readCommand 52 [some (.ref 1093), w1] [] h1 r) (f : v0 ≠ 0 → tr_L g (d + 1) m_X6_readCommand 32 [some (.ref 1093), w1] [] h1 r) : tr_L g (d + 1) m_X6_readCommand 25 [some (.ref 1093), w1] [] h r := by
  refine tr_s (.aload_n 0) 1 26 [some (.ref 1093), w1] [.ref 1093] h rfl rfl rfl ?_
  refine tr_call (.invokevirtual 58) 58 0 0 7 m_X6_takeNumber [.ref 1093] [] (some (.int v0)) h1 rfl rfl rfl rfl rfl rfl rfl rfl rfl (tr_cok rfl (Or.inr ⟨_, _, rfl, tr_rc (hh_rd (hh_obj hL (k := 93) rfl).1) (by decide)⟩)) c_0 ?_
  have hL0 := c_0.2
  exact tr_if1 .eq 23 52 v0 rfl rfl rfl (fun hc => t ((tr_eq hc).1 rfl)) (fun hc => f ((tr_eq hc).2 rfl))
theorem sg_X6_readCommand_32 {g : tr_g} {d : Nat} {h : ev_AH} {r : ev_O × ev_AH} {w1 : Option Value} {h1 : ev_AH} {v0 : Int32} (hL : hh_L h) (c_0 : tr_L g d m_X6_takeWord 0 [some (.ref 1093), some (.ref 3), none] [] h (.inl (some (.int v0)), h1)) (t : v0 = 0 → tr_L g (d + 1) m_X6_readCommand 52 [some (.ref 1093), w1] [] h1 r) (f : v0 ≠ 0 → tr_L g (d + 1) m_X6_readCommand 41 [some (.ref 1093), w1] [] h1 r) : tr_L g (d + 1) m_X6_readCommand 32 [some (.ref 1093), w1] [] h r := by
  refine tr_s (.aload_n 0) 1 33 [some (.ref 1093), w1] [.ref 1093] h rfl rfl rfl ?_
  refine tr_s (.ldc 61) 2 35 [some (.ref 1093), w1] [.ref 3, .ref 1093] h rfl rfl rfl ?_
  refine tr_call (.invokevirtual 48) 48 0 1 7 m_X6_takeWord [.ref 1093, .ref 3] [] (some (.int v0)) h1 rfl rfl rfl rfl rfl rfl rfl rfl rfl (tr_cok rfl (Or.inr ⟨_, _, rfl, tr_rc (hh_rd (hh_obj hL (k := 93) rfl).1) (by decide)⟩)) c_0 ?_
  have hL0 := c_0.2
  exact tr_if1 .eq 14 52 v0 rfl rfl rfl (fun hc => t ((tr_eq hc).1 rfl)) (fun hc => f ((tr_eq hc).2 rfl))
theorem sg_X6_readCommand_41 {g : tr_g} {d : Nat} {h : ev_AH} {r : ev_O × ev_AH} {w1 : Option Value} {h1 : ev_AH} {v0 : Int32} (hL : hh_L h) (c_0 : tr_L g d m_X6_takeRanking 0 [some (.ref 1093), none] [] h (.inl (some (.int v0)), h1)) (t : v0 = 0 → tr_L g (d + 1) m_X6_readCommand 52 [some (.ref 1093), w1] [] h1 r) (f : v0 ≠ 0 → tr_L g (d + 1) m_X6_readCommand 48 [some (.ref 1093), w1] [] h1 r) : tr_L g (d + 1) m_X6_readCommand 41 [some (.ref 1093), w1] [] h r := by
  refine tr_s (.aload_n 0) 1 42 [some (.ref 1093), w1] [.ref 1093] h rfl rfl rfl ?_
  refine tr_call (.invokevirtual 63) 63 0 0 7 m_X6_takeRanking [.ref 1093] [] (some (.int v0)) h1 rfl rfl rfl rfl rfl rfl rfl rfl rfl (tr_cok rfl (Or.inr ⟨_, _, rfl, tr_rc (hh_rd (hh_obj hL (k := 93) rfl).1) (by decide)⟩)) c_0 ?_
  have hL0 := c_0.2
  exact tr_if1 .eq 7 52 v0 rfl rfl rfl (fun hc => t ((tr_eq hc).1 rfl)) (fun hc => f ((tr_eq hc).2 rfl))
theorem sg_X6_readCommand_48 {g : tr_g} {d : Nat} {h : ev_AH} {r : ev_O × ev_AH} {w0 w1 : Option Value} (hL : hh_L h) (hr : r = (.inl (some (.int 1)), h)) : tr_L g d m_X6_readCommand 48 [w0, w1] [] h r := by
  refine tr_ic 1 1 (by decide) rfl ?_
  refine tr_goto 4 53 rfl rfl rfl ?_
  exact tl_ret hL .ireturn 1 (some (.int 1)) rfl rfl rfl rfl hr
theorem sg_X6_readCommand_52 {g : tr_g} {d : Nat} {h : ev_AH} {r : ev_O × ev_AH} {w0 w1 : Option Value} (hL : hh_L h) (hr : r = (.inl (some (.int 0)), h)) : tr_L g d m_X6_readCommand 52 [w0, w1] [] h r := by
  refine tr_ic 0 0 (by decide) rfl ?_
  exact tl_ret hL .ireturn 1 (some (.int 0)) rfl rfl rfl rfl hr
theorem sg_X6_readCommand_54 {g : tr_g} {d : Nat} {h : ev_AH} {r : ev_O × ev_AH} {x1 : Int32} (hL : hh_L h) (t : x1 ≠ 109 → tr_L g d m_X6_readCommand 82 [some (.ref 1093), some (.int x1)] [] h r) (f : x1 = 109 → tr_L g d m_X6_readCommand 60 [some (.ref 1093), some (.int x1)] [] h r) : tr_L g d m_X6_readCommand 54 [some (.ref 1093), some (.int x1)] [] h r := by
  refine tr_s (.iload_n 1) 1 55 [some (.ref 1093), some (.int x1)] [.int x1] h rfl rfl rfl ?_
  refine tr_bi 109 109 (by decide) rfl ?_
  exact tr_if2 .ne 25 82 x1 109 rfl rfl rfl (fun hc => t ((tr_ne hc).1 rfl)) (fun hc => f ((tr_ne hc).2 rfl))
theorem sg_X6_readCommand_60 {g : tr_g} {d : Nat} {h : ev_AH} {r : ev_O × ev_AH} {w1 : Option Value} {h1 : ev_AH} {v0 : Int32} (hL : hh_L h) (c_0 : tr_L g d m_X6_takeWord 0 [some (.ref 1093), some (.ref 7), none] [] h (.inl (some (.int v0)), h1)) (t : v0 = 0 → tr_L g (d + 1) m_X6_readCommand 80 [some (.ref 1093), w1] [] h1 r) (f : v0 ≠ 0 → tr_L g (d + 1) m_X6_readCommand 69 [some (.ref 1093), w1] [] h1 r) : tr_L g (d + 1) m_X6_readCommand 60 [some (.ref 1093), w1] [] h r := by
  refine tr_s (.aload_n 0) 1 61 [some (.ref 1093), w1] [.ref 1093] h rfl rfl rfl ?_
  refine tr_s (.ldc 66) 2 63 [some (.ref 1093), w1] [.ref 7, .ref 1093] h rfl rfl rfl ?_
  refine tr_call (.invokevirtual 48) 48 0 1 7 m_X6_takeWord [.ref 1093, .ref 7] [] (some (.int v0)) h1 rfl rfl rfl rfl rfl rfl rfl rfl rfl (tr_cok rfl (Or.inr ⟨_, _, rfl, tr_rc (hh_rd (hh_obj hL (k := 93) rfl).1) (by decide)⟩)) c_0 ?_
  have hL0 := c_0.2
  exact tr_if1 .eq 14 80 v0 rfl rfl rfl (fun hc => t ((tr_eq hc).1 rfl)) (fun hc => f ((tr_eq hc).2 rfl))
theorem sg_X6_readCommand_69 {g : tr_g} {d : Nat} {h : ev_AH} {r : ev_O × ev_AH} {w1 : Option Value} {h1 : ev_AH} {v0 : Int32} (hL : hh_L h) (c_0 : tr_L g d m_X6_readMirrorOrMethod 0 [some (.ref 1093)] [] h (.inl (some (.int v0)), h1)) (t : v0 = 0 → tr_L g (d + 1) m_X6_readCommand 80 [some (.ref 1093), w1] [] h1 r) (f : v0 ≠ 0 → tr_L g (d + 1) m_X6_readCommand 76 [some (.ref 1093), w1] [] h1 r) : tr_L g (d + 1) m_X6_readCommand 69 [some (.ref 1093), w1] [] h r := by
  refine tr_s (.aload_n 0) 1 70 [some (.ref 1093), w1] [.ref 1093] h rfl rfl rfl ?_
  refine tr_call (.invokevirtual 68) 68 0 0 7 m_X6_readMirrorOrMethod [.ref 1093] [] (some (.int v0)) h1 rfl rfl rfl rfl rfl rfl rfl rfl rfl (tr_cok rfl (Or.inr ⟨_, _, rfl, tr_rc (hh_rd (hh_obj hL (k := 93) rfl).1) (by decide)⟩)) c_0 ?_
  have hL0 := c_0.2
  exact tr_if1 .eq 7 80 v0 rfl rfl rfl (fun hc => t ((tr_eq hc).1 rfl)) (fun hc => f ((tr_eq hc).2 rfl))
theorem sg_X6_readCommand_76 {g : tr_g} {d : Nat} {h : ev_AH} {r : ev_O × ev_AH} {w0 w1 : Option Value} (hL : hh_L h) (hr : r = (.inl (some (.int 1)), h)) : tr_L g d m_X6_readCommand 76 [w0, w1] [] h r := by
  refine tr_ic 1 1 (by decide) rfl ?_
  refine tr_goto 4 81 rfl rfl rfl ?_
  exact tl_ret hL .ireturn 1 (some (.int 1)) rfl rfl rfl rfl hr
theorem sg_X6_readCommand_80 {g : tr_g} {d : Nat} {h : ev_AH} {r : ev_O × ev_AH} {w0 w1 : Option Value} (hL : hh_L h) (hr : r = (.inl (some (.int 0)), h)) : tr_L g d m_X6_readCommand 80 [w0, w1] [] h r := by
  refine tr_ic 0 0 (by decide) rfl ?_
  exact tl_ret hL .ireturn 1 (some (.int 0)) rfl rfl rfl rfl hr
theorem sg_X6_readCommand_82 {g : tr_g} {d : Nat} {h : ev_AH} {r : ev_O × ev_AH} {x1 : Int32} (hL : hh_L h) (t : x1 ≠ 115 → tr_L g d m_X6_readCommand 133 [some (.ref 1093), some (.int x1)] [] h r) (f : x1 = 115 → tr_L g d m_X6_readCommand 88 [some (.ref 1093), some (.int x1)] [] h r) : tr_L g d m_X6_readCommand 82 [some (.ref 1093), some (.int x1)] [] h r := by
  refine tr_s (.iload_n 1) 1 83 [some (.ref 1093), some (.int x1)] [.int x1] h rfl rfl rfl ?_
  refine tr_bi 115 115 (by decide) rfl ?_
  exact tr_if2 .ne 48 133 x1 115 rfl rfl rfl (fun hc => t ((tr_ne hc).1 rfl)) (fun hc => f ((tr_ne hc).2 rfl))
theorem sg_X6_readCommand_88 {g : tr_g} {d : Nat} {h : ev_AH} {r : ev_O × ev_AH} {w1 : Option Value} {h1 : ev_AH} {v0 : Int32} (hL : hh_L h) (c_0 : tr_L g d m_X6_takeWord 0 [some (.ref 1093), some (.ref 17), none] [] (hh_si h 93 7 2 2) (.inl (some (.int v0)), h1)) (t : v0 = 0 → tr_L g (d + 1) m_X6_readCommand 131 [some (.ref 1093), w1] [] h1 r) (f : v0 ≠ 0 → tr_L g (d + 1) m_X6_readCommand 102 [some (.ref 1093), w1] [] h1 r) : tr_L g (d + 1) m_X6_readCommand 88 [some (.ref 1093), w1] [] h r := by
  refine tr_s (.aload_n 0) 1 89 [some (.ref 1093), w1] [.ref 1093] h rfl rfl rfl ?_
  refine tr_ic 2 2 (by decide) rfl ?_
  refine tl_pf hL 22 93 7 2 [1094, 0, 0, 0, 0, 0, 0] 2 .int rfl rfl rfl rfl rfl tr_oki ?_
  have hL0 := hh_L_si (sl := 2) (x := 2) hL (show hh_t[93]? = some (.inr (7, [1094, 0, 0, 0, 0, 0, 0])) from rfl) rfl
  refine tr_s (.aload_n 0) 1 94 [some (.ref 1093), w1] [.ref 1093] (hh_si h 93 7 2 2) rfl rfl rfl ?_
  refine tr_s (.ldc 71) 2 96 [some (.ref 1093), w1] [.ref 17, .ref 1093] (hh_si h 93 7 2 2) rfl rfl rfl ?_
  refine tr_call (.invokevirtual 48) 48 0 1 7 m_X6_takeWord [.ref 1093, .ref 17] [] (some (.int v0)) h1 rfl rfl rfl rfl rfl rfl rfl rfl rfl (tr_cok rfl (Or.inr ⟨_, _, rfl, tr_rc (hh_rd (hh_obj hL0 (k := 93) rfl).1) (by decide)⟩)) c_0 ?_
  have hL1 := c_0.2
  exact tr_if1 .eq 32 131 v0 rfl rfl rfl (fun hc => t ((tr_eq hc).1 rfl)) (fun hc => f ((tr_eq hc).2 rfl))
theorem sg_X6_readCommand_102 {g : tr_g} {d : Nat} {h : ev_AH} {r : ev_O × ev_AH} {w1 : Option Value} {h1 : ev_AH} {v0 : Int32} (hL : hh_L h) (c_0 : tr_L g d m_X6_takeNumber 0 [some (.ref 1093)] [] h (.inl (some (.int v0)), h1)) (t : v0 = 0 → tr_L g (d + 1) m_X6_readCommand 131 [some (.ref 1093), w1] [] h1 r) (f : v0 ≠ 0 → tr_L g (d + 1) m_X6_readCommand 109 [some (.ref 1093), w1] [] h1 r) : tr_L g (d + 1) m_X6_readCommand 102 [some (.ref 1093), w1] [] h r := by
  refine tr_s (.aload_n 0) 1 103 [some (.ref 1093), w1] [.ref 1093] h rfl rfl rfl ?_
  refine tr_call (.invokevirtual 58) 58 0 0 7 m_X6_takeNumber [.ref 1093] [] (some (.int v0)) h1 rfl rfl rfl rfl rfl rfl rfl rfl rfl (tr_cok rfl (Or.inr ⟨_, _, rfl, tr_rc (hh_rd (hh_obj hL (k := 93) rfl).1) (by decide)⟩)) c_0 ?_
  have hL0 := c_0.2
  exact tr_if1 .eq 25 131 v0 rfl rfl rfl (fun hc => t ((tr_eq hc).1 rfl)) (fun hc => f ((tr_eq hc).2 rfl))
theorem sg_X6_readCommand_109 {g : tr_g} {d : Nat} {h : ev_AH} {r : ev_O × ev_AH} {w1 : Option Value} {h1 : ev_AH} {v0 : Int32} (hL : hh_L h) (c_0 : tr_L g d m_X6_takeWord 0 [some (.ref 1093), some (.ref 3), none] [] h (.inl (some (.int v0)), h1)) (t : v0 = 0 → tr_L g (d + 1) m_X6_readCommand 131 [some (.ref 1093), w1] [] h1 r) (f : v0 ≠ 0 → tr_L g (d + 1) m_X6_readCommand 118 [some (.ref 1093), w1] [] h1 r) : tr_L g (d + 1) m_X6_readCommand 109 [some (.ref 1093), w1] [] h r := by
  refine tr_s (.aload_n 0) 1 110 [some (.ref 1093), w1] [.ref 1093] h rfl rfl rfl ?_
  refine tr_s (.ldc 61) 2 112 [some (.ref 1093), w1] [.ref 3, .ref 1093] h rfl rfl rfl ?_
  refine tr_call (.invokevirtual 48) 48 0 1 7 m_X6_takeWord [.ref 1093, .ref 3] [] (some (.int v0)) h1 rfl rfl rfl rfl rfl rfl rfl rfl rfl (tr_cok rfl (Or.inr ⟨_, _, rfl, tr_rc (hh_rd (hh_obj hL (k := 93) rfl).1) (by decide)⟩)) c_0 ?_
  have hL0 := c_0.2
  exact tr_if1 .eq 16 131 v0 rfl rfl rfl (fun hc => t ((tr_eq hc).1 rfl)) (fun hc => f ((tr_eq hc).2 rfl))
theorem sg_X6_readCommand_118 {g : tr_g} {d : Nat} {h : ev_AH} {r : ev_O × ev_AH} {w1 : Option Value} {h1 : ev_AH} {v0 : Int32} (hL : hh_L h) (c_0 : tr_L g d m_X6_takeFirst 0 [some (.ref 1093), some (.ref 5), none] [] h (.inl (some (.int v0)), h1)) (t : v0 = 0 → tr_L g (d + 1) m_X6_readCommand 131 [some (.ref 1093), w1] [] h1 r) (f : v0 ≠ 0 → tr_L g (d + 1) m_X6_readCommand 127 [some (.ref 1093), w1] [] h1 r) : tr_L g (d + 1) m_X6_readCommand 118 [some (.ref 1093), w1] [] h r := by
  refine tr_s (.aload_n 0) 1 119 [some (.ref 1093), w1] [.ref 1093] h rfl rfl rfl ?_
  refine tr_s (.ldc 73) 2 121 [some (.ref 1093), w1] [.ref 5, .ref 1093] h rfl rfl rfl ?_
  refine tr_call (.invokevirtual 75) 75 0 1 7 m_X6_takeFirst [.ref 1093, .ref 5] [] (some (.int v0)) h1 rfl rfl rfl rfl rfl rfl rfl rfl rfl (tr_cok rfl (Or.inr ⟨_, _, rfl, tr_rc (hh_rd (hh_obj hL (k := 93) rfl).1) (by decide)⟩)) c_0 ?_
  have hL0 := c_0.2
  exact tr_if1 .eq 7 131 v0 rfl rfl rfl (fun hc => t ((tr_eq hc).1 rfl)) (fun hc => f ((tr_eq hc).2 rfl))
theorem sg_X6_readCommand_127 {g : tr_g} {d : Nat} {h : ev_AH} {r : ev_O × ev_AH} {w0 w1 : Option Value} (hL : hh_L h) (hr : r = (.inl (some (.int 1)), h)) : tr_L g d m_X6_readCommand 127 [w0, w1] [] h r := by
  refine tr_ic 1 1 (by decide) rfl ?_
  refine tr_goto 4 132 rfl rfl rfl ?_
  exact tl_ret hL .ireturn 1 (some (.int 1)) rfl rfl rfl rfl hr
theorem sg_X6_readCommand_131 {g : tr_g} {d : Nat} {h : ev_AH} {r : ev_O × ev_AH} {w0 w1 : Option Value} (hL : hh_L h) (hr : r = (.inl (some (.int 0)), h)) : tr_L g d m_X6_readCommand 131 [w0, w1] [] h r := by
  refine tr_ic 0 0 (by decide) rfl ?_
  exact tl_ret hL .ireturn 1 (some (.int 0)) rfl rfl rfl rfl hr
theorem sg_X6_readCommand_133 {g : tr_g} {d : Nat} {h : ev_AH} {r : ev_O × ev_AH} {x1 : Int32} (hL : hh_L h) (t : x1 ≠ 118 → tr_L g d m_X6_readCommand 151 [some (.ref 1093), some (.int x1)] [] h r) (f : x1 = 118 → tr_L g d m_X6_readCommand 139 [some (.ref 1093), some (.int x1)] [] h r) : tr_L g d m_X6_readCommand 133 [some (.ref 1093), some (.int x1)] [] h r := by
  refine tr_s (.iload_n 1) 1 134 [some (.ref 1093), some (.int x1)] [.int x1] h rfl rfl rfl ?_
  refine tr_bi 118 118 (by decide) rfl ?_
  exact tr_if2 .ne 15 151 x1 118 rfl rfl rfl (fun hc => t ((tr_ne hc).1 rfl)) (fun hc => f ((tr_ne hc).2 rfl))
theorem sg_X6_readCommand_139 {g : tr_g} {d : Nat} {h : ev_AH} {r : ev_O × ev_AH} {w1 : Option Value} {h1 : ev_AH} {v0 : Int32} (hL : hh_L h) (c_0 : tr_L g d m_X6_takeWord 0 [some (.ref 1093), some (.ref 19), none] [] (hh_si h 93 7 2 4) (.inl (some (.int v0)), h1)) (hb0 : v0 = 0 ∨ v0 = 1) (hr : r = (.inl (some (.int v0)), h1)) : tr_L g (d + 1) m_X6_readCommand 139 [some (.ref 1093), w1] [] h r := by
  refine tr_s (.aload_n 0) 1 140 [some (.ref 1093), w1] [.ref 1093] h rfl rfl rfl ?_
  refine tr_ic 4 4 (by decide) rfl ?_
  refine tl_pf hL 22 93 7 2 [1094, 0, 0, 0, 0, 0, 0] 4 .int rfl rfl rfl rfl rfl tr_oki ?_
  have hL0 := hh_L_si (sl := 2) (x := 4) hL (show hh_t[93]? = some (.inr (7, [1094, 0, 0, 0, 0, 0, 0])) from rfl) rfl
  refine tr_s (.aload_n 0) 1 145 [some (.ref 1093), w1] [.ref 1093] (hh_si h 93 7 2 4) rfl rfl rfl ?_
  refine tr_s (.ldc 78) 2 147 [some (.ref 1093), w1] [.ref 19, .ref 1093] (hh_si h 93 7 2 4) rfl rfl rfl ?_
  refine tr_call (.invokevirtual 48) 48 0 1 7 m_X6_takeWord [.ref 1093, .ref 19] [] (some (.int v0)) h1 rfl rfl rfl rfl rfl rfl rfl rfl rfl (tr_cok rfl (Or.inr ⟨_, _, rfl, tr_rc (hh_rd (hh_obj hL0 (k := 93) rfl).1) (by decide)⟩)) c_0 ?_
  have hL1 := c_0.2
  exact tl_ret hL1 .ireturn 1 (some (.int v0)) rfl rfl rfl (tr_eb rfl hb0) hr
theorem sg_X6_readCommand_151 {g : tr_g} {d : Nat} {h : ev_AH} {r : ev_O × ev_AH} {w1 : Option Value} {h1 : ev_AH} {v0 : Int32} (hL : hh_L h) (c_0 : tr_L g d m_X6_takeWord 0 [some (.ref 1093), some (.ref 21), none] [] (hh_si h 93 7 2 5) (.inl (some (.int v0)), h1)) (hb0 : v0 = 0 ∨ v0 = 1) (hr : r = (.inl (some (.int v0)), h1)) : tr_L g (d + 1) m_X6_readCommand 151 [some (.ref 1093), w1] [] h r := by
  refine tr_s (.aload_n 0) 1 152 [some (.ref 1093), w1] [.ref 1093] h rfl rfl rfl ?_
  refine tr_ic 5 5 (by decide) rfl ?_
  refine tl_pf hL 22 93 7 2 [1094, 0, 0, 0, 0, 0, 0] 5 .int rfl rfl rfl rfl rfl tr_oki ?_
  have hL0 := hh_L_si (sl := 2) (x := 5) hL (show hh_t[93]? = some (.inr (7, [1094, 0, 0, 0, 0, 0, 0])) from rfl) rfl
  refine tr_s (.aload_n 0) 1 157 [some (.ref 1093), w1] [.ref 1093] (hh_si h 93 7 2 5) rfl rfl rfl ?_
  refine tr_s (.ldc 80) 2 159 [some (.ref 1093), w1] [.ref 21, .ref 1093] (hh_si h 93 7 2 5) rfl rfl rfl ?_
  refine tr_call (.invokevirtual 48) 48 0 1 7 m_X6_takeWord [.ref 1093, .ref 21] [] (some (.int v0)) h1 rfl rfl rfl rfl rfl rfl rfl rfl rfl (tr_cok rfl (Or.inr ⟨_, _, rfl, tr_rc (hh_rd (hh_obj hL0 (k := 93) rfl).1) (by decide)⟩)) c_0 ?_
  have hL1 := c_0.2
  exact tl_ret hL1 .ireturn 1 (some (.int v0)) rfl rfl rfl (tr_eb rfl hb0) hr
theorem sg_X6_peek_0 {g : tr_g} {d : Nat} {h : ev_AH} {r : ev_O × ev_AH} (hL : hh_L h) (t : (hh_i h 93 1) < 0 → tr_L g d m_X6_peek 35 [some (.ref 1093)] [] h r) (f : 0 ≤ (hh_i h 93 1) → tr_L g d m_X6_peek 7 [some (.ref 1093)] [] h r) : tr_L g d m_X6_peek 0 [some (.ref 1093)] [] h r := by
  refine tr_s (.aload_n 0) 1 1 [some (.ref 1093)] [.ref 1093] h rfl rfl rfl ?_
  refine tl_gi hL 18 93 7 1 [1094, 0, 0, 0, 0, 0, 0] rfl rfl rfl rfl ?_
  exact tr_if1 .lt 31 35 (hh_i h 93 1) rfl rfl rfl (fun hc => t ((tr_lt hc).1 rfl)) (fun hc => f ((tr_lt hc).2 rfl))
theorem sg_X6_peek_7 {g : tr_g} {d : Nat} {h : ev_AH} {r : ev_O × ev_AH} {h1 : ev_AH} {v0 : Int32} (hL : hh_L h) (c_0 : tr_L g d m_J4_length_8abf5 0 [some (.ref 1094)] [] h (.inl (some (.int v0)), h1)) (t : v0 ≤ (hh_i h 93 1) → tr_L g (d + 1) m_X6_peek 35 [some (.ref 1093)] [] h1 r) (f : (hh_i h 93 1) < v0 → tr_L g (d + 1) m_X6_peek 21 [some (.ref 1093)] [] h1 r) : tr_L g (d + 1) m_X6_peek 7 [some (.ref 1093)] [] h r := by
  refine tr_s (.aload_n 0) 1 8 [some (.ref 1093)] [.ref 1093] h rfl rfl rfl ?_
  refine tl_gi hL 18 93 7 1 [1094, 0, 0, 0, 0, 0, 0] rfl rfl rfl rfl ?_
  refine tr_s (.aload_n 0) 1 12 [some (.ref 1093)] [.ref 1093, .int (hh_i h 93 1)] h rfl rfl rfl ?_
  refine tl_gr hL 12 93 7 0 94 [1094, 0, 0, 0, 0, 0, 0] rfl rfl rfl rfl ?_
  refine tr_call (.invokevirtual 42) 42 0 0 9 m_J4_length_8abf5 [.ref 1094] [.int (hh_i h 93 1)] (some (.int v0)) h1 rfl rfl rfl rfl rfl rfl rfl rfl rfl (tr_cok rfl (Or.inr ⟨_, _, rfl, tr_rc (hh_rd (hh_obj hL (k := 94) rfl).1) (by decide)⟩)) c_0 ?_
  have hL0 := c_0.2
  exact tr_if2 .ge 17 35 (hh_i h 93 1) v0 rfl rfl rfl (fun hc => t ((tr_ge hc).1 rfl)) (fun hc => f ((tr_ge hc).2 rfl))
theorem sg_X6_peek_21 {g : tr_g} {d : Nat} {h : ev_AH} {r : ev_O × ev_AH} {h1 : ev_AH} {v0 : Int32} (hL : hh_L h) (c_0 : tr_L g d m_J4_charAt_5068e 0 [some (.ref 1094), some (.int (hh_i h 93 1))] [] h (.inl (some (.int v0)), h1)) (hc0 : tr_ch v0) (hr : r = (.inl (some (.int v0)), h1)) : tr_L g (d + 1) m_X6_peek 21 [some (.ref 1093)] [] h r := by
  refine tr_s (.aload_n 0) 1 22 [some (.ref 1093)] [.ref 1093] h rfl rfl rfl ?_
  refine tl_gr hL 12 93 7 0 94 [1094, 0, 0, 0, 0, 0, 0] rfl rfl rfl rfl ?_
  refine tr_s (.aload_n 0) 1 26 [some (.ref 1093)] [.ref 1093, .ref 1094] h rfl rfl rfl ?_
  refine tl_gi hL 18 93 7 1 [1094, 0, 0, 0, 0, 0, 0] rfl rfl rfl rfl ?_
  refine tr_call (.invokevirtual 90) 90 0 1 9 m_J4_charAt_5068e [.ref 1094, .int (hh_i h 93 1)] [] (some (.int v0)) h1 rfl rfl rfl rfl rfl rfl rfl rfl rfl (tr_cok rfl (Or.inr ⟨_, _, rfl, tr_rc (hh_rd (hh_obj hL (k := 94) rfl).1) (by decide)⟩)) c_0 ?_
  have hL0 := c_0.2
  refine tr_goto 4 36 rfl rfl rfl ?_
  exact tl_ret hL0 .ireturn 1 (some (.int v0)) rfl rfl rfl (tr_ec rfl hc0) hr
theorem sg_X6_peek_35 {g : tr_g} {d : Nat} {h : ev_AH} {r : ev_O × ev_AH} {w0 : Option Value} (hL : hh_L h) (hr : r = (.inl (some (.int 0)), h)) : tr_L g d m_X6_peek 35 [w0] [] h r := by
  refine tr_ic 0 0 (by decide) rfl ?_
  exact tl_ret hL .ireturn 1 (some (.int 0)) rfl rfl rfl rfl hr
theorem sg_X6_takeWord_0 {g : tr_g} {d : Nat} {h : ev_AH} {r : ev_O × ev_AH} {a1 : Nat} (hL : hh_L h) (k : tr_L g d m_X6_takeWord 2 [some (.ref 1093), some (.ref a1), some (.int 0)] [] h r) : tr_L g d m_X6_takeWord 0 [some (.ref 1093), some (.ref a1), none] [] h r := by
  refine tr_ic 0 0 (by decide) rfl ?_
  refine tr_st (.istore_n 2) 1 2 0 (.int 0) rfl rfl rfl rfl rfl rfl rfl ?_
  exact k
theorem sg_X6_takeWord_2 {g : tr_g} {d : Nat} {h : ev_AH} {r : ev_O × ev_AH} {a1 : Nat} {x2 v0 : Int32} {h1 : ev_AH} {vs0 : List Value} (hL : hh_L h) (m0 : ev_rd (tr_G g) h a1 = some (.inr (8, vs0))) (c_0 : tr_L g d m_J0_length_8abf5 0 [some (.ref a1)] [] h (.inl (some (.int v0)), h1)) (t : v0 ≤ x2 → tr_L g (d + 1) m_X6_takeWord 40 [some (.ref 1093), some (.ref a1), some (.int x2)] [] h1 r) (f : x2 < v0 → tr_L g (d + 1) m_X6_takeWord 10 [some (.ref 1093), some (.ref a1), some (.int x2)] [] h1 r) : tr_L g (d + 1) m_X6_takeWord 2 [some (.ref 1093), some (.ref a1), some (.int x2)] [] h r := by
  refine tr_s (.iload_n 2) 1 3 [some (.ref 1093), some (.ref a1), some (.int x2)] [.int x2] h rfl rfl rfl ?_
  refine tr_s (.aload_n 1) 1 4 [some (.ref 1093), some (.ref a1), some (.int x2)] [.ref a1, .int x2] h rfl rfl rfl ?_
  refine tr_call (.invokevirtual 94) 94 0 0 8 m_J0_length_8abf5 [.ref a1] [.int x2] (some (.int v0)) h1 rfl rfl rfl rfl rfl rfl rfl rfl rfl (tr_cok rfl (Or.inr ⟨_, _, rfl, tr_rc m0 (by decide)⟩)) c_0 ?_
  have hL0 := c_0.2
  exact tr_if2 .ge 33 40 x2 v0 rfl rfl rfl (fun hc => t ((tr_ge hc).1 rfl)) (fun hc => f ((tr_ge hc).2 rfl))
theorem sg_X6_takeWord_10 {g : tr_g} {d : Nat} {h : ev_AH} {r : ev_O × ev_AH} {a1 : Nat} {x2 v0 v1 : Int32} {h1 h2 : ev_AH} {vs0 : List Value} (hL : hh_L h) (c_0 : tr_L g d m_X6_peek 0 [some (.ref 1093)] [] h (.inl (some (.int v0)), h1)) (m0 : ev_rd (tr_G g) h1 a1 = some (.inr (8, vs0))) (c_1 : tr_L g d m_J0_charAt_5068e 0 [some (.ref a1), some (.int x2)] [] h1 (.inl (some (.int v1)), h2)) (t : v0 = v1 → tr_L g (d + 1) m_X6_takeWord 24 [some (.ref 1093), some (.ref a1), some (.int x2)] [] h2 r) (f : v0 ≠ v1 → tr_L g (d + 1) m_X6_takeWord 22 [some (.ref 1093), some (.ref a1), some (.int x2)] [] h2 r) : tr_L g (d + 1) m_X6_takeWord 10 [some (.ref 1093), some (.ref a1), some (.int x2)] [] h r := by
  refine tr_s (.aload_n 0) 1 11 [some (.ref 1093), some (.ref a1), some (.int x2)] [.ref 1093] h rfl rfl rfl ?_
  refine tr_call (.invokevirtual 52) 52 0 0 7 m_X6_peek [.ref 1093] [] (some (.int v0)) h1 rfl rfl rfl rfl rfl rfl rfl rfl rfl (tr_cok rfl (Or.inr ⟨_, _, rfl, tr_rc (hh_rd (hh_obj hL (k := 93) rfl).1) (by decide)⟩)) c_0 ?_
  have hL0 := c_0.2
  refine tr_s (.aload_n 1) 1 15 [some (.ref 1093), some (.ref a1), some (.int x2)] [.ref a1, .int v0] h1 rfl rfl rfl ?_
  refine tr_s (.iload_n 2) 1 16 [some (.ref 1093), some (.ref a1), some (.int x2)] [.int x2, .ref a1, .int v0] h1 rfl rfl rfl ?_
  refine tr_call (.invokevirtual 97) 97 0 1 8 m_J0_charAt_5068e [.ref a1, .int x2] [.int v0] (some (.int v1)) h2 rfl rfl rfl rfl rfl rfl rfl rfl rfl (tr_cok rfl (Or.inr ⟨_, _, rfl, tr_rc m0 (by decide)⟩)) c_1 ?_
  have hL1 := c_1.2
  exact tr_if2 .eq 5 24 v0 v1 rfl rfl rfl (fun hc => t ((tr_eq hc).1 rfl)) (fun hc => f ((tr_eq hc).2 rfl))
theorem sg_X6_takeWord_22 {g : tr_g} {d : Nat} {h : ev_AH} {r : ev_O × ev_AH} {w0 w1 w2 : Option Value} (hL : hh_L h) (hr : r = (.inl (some (.int 0)), h)) : tr_L g d m_X6_takeWord 22 [w0, w1, w2] [] h r := by
  refine tr_ic 0 0 (by decide) rfl ?_
  exact tl_ret hL .ireturn 1 (some (.int 0)) rfl rfl rfl rfl hr
theorem sg_X6_takeWord_24 {g : tr_g} {d : Nat} {h : ev_AH} {r : ev_O × ev_AH} {a1 : Nat} {x2 : Int32} (hL : hh_L h) (k : tr_L g d m_X6_takeWord 2 [some (.ref 1093), some (.ref a1), some (.int (x2 + 1))] [] (hh_si h 93 7 1 ((hh_i h 93 1) + 1)) r) : tr_L g d m_X6_takeWord 24 [some (.ref 1093), some (.ref a1), some (.int x2)] [] h r := by
  refine tr_s (.aload_n 0) 1 25 [some (.ref 1093), some (.ref a1), some (.int x2)] [.ref 1093] h rfl rfl rfl ?_
  refine tr_s .dup 1 26 [some (.ref 1093), some (.ref a1), some (.int x2)] [.ref 1093, .ref 1093] h rfl rfl rfl ?_
  refine tl_gi hL 18 93 7 1 [1094, 0, 0, 0, 0, 0, 0] rfl rfl rfl rfl ?_
  refine tr_ic 1 1 (by decide) rfl ?_
  refine tr_s .iadd 1 31 [some (.ref 1093), some (.ref a1), some (.int x2)] [.int ((hh_i h 93 1) + 1), .ref 1093] h rfl rfl rfl ?_
  refine tl_pf hL 18 93 7 1 [1094, 0, 0, 0, 0, 0, 0] ((hh_i h 93 1) + 1) .int rfl rfl rfl rfl rfl tr_oki ?_
  have hL0 := hh_L_si (sl := 1) (x := ((hh_i h 93 1) + 1)) hL (show hh_t[93]? = some (.inr (7, [1094, 0, 0, 0, 0, 0, 0])) from rfl) rfl
  refine tr_inc 2 1 x2 1 (by decide) rfl rfl rfl ?_
  refine tr_goto (-35) 2 rfl rfl rfl ?_
  exact k
theorem sg_X6_takeWord_40 {g : tr_g} {d : Nat} {h : ev_AH} {r : ev_O × ev_AH} {w0 w1 w2 : Option Value} (hL : hh_L h) (hr : r = (.inl (some (.int 1)), h)) : tr_L g d m_X6_takeWord 40 [w0, w1, w2] [] h r := by
  refine tr_ic 1 1 (by decide) rfl ?_
  exact tl_ret hL .ireturn 1 (some (.int 1)) rfl rfl rfl rfl hr
theorem sg_X6_takeNumber_0 {g : tr_g} {d : Nat} {h : ev_AH} {r : ev_O × ev_AH} {h1 h2 : ev_AH} {v0 v1 : Int32} (hL : hh_L h) (c_0 : tr_L g d m_X6_peek 0 [some (.ref 1093)] [] h (.inl (some (.int v0)), h1)) (c_1 : tr_L g d m_X6_isDigit 0 [some (.int v0)] [] h1 (.inl (some (.int v1)), h2)) (t : v1 ≠ 0 → tr_L g (d + 1) m_X6_takeNumber 12 [some (.ref 1093)] [] h2 r) (f : v1 = 0 → tr_L g (d + 1) m_X6_takeNumber 10 [some (.ref 1093)] [] h2 r) : tr_L g (d + 1) m_X6_takeNumber 0 [some (.ref 1093)] [] h r := by
  refine tr_s (.aload_n 0) 1 1 [some (.ref 1093)] [.ref 1093] h rfl rfl rfl ?_
  refine tr_call (.invokevirtual 52) 52 0 0 7 m_X6_peek [.ref 1093] [] (some (.int v0)) h1 rfl rfl rfl rfl rfl rfl rfl rfl rfl (tr_cok rfl (Or.inr ⟨_, _, rfl, tr_rc (hh_rd (hh_obj hL (k := 93) rfl).1) (by decide)⟩)) c_0 ?_
  have hL0 := c_0.2
  refine tr_call (.invokestatic 98) 98 2 1 0 m_X6_isDigit [.int v0] [] (some (.int v1)) h2 rfl rfl rfl rfl rfl rfl rfl rfl rfl (tr_cok rfl (Or.inl rfl)) c_1 ?_
  have hL1 := c_1.2
  exact tr_if1 .ne 5 12 v1 rfl rfl rfl (fun hc => t ((tr_ne hc).1 rfl)) (fun hc => f ((tr_ne hc).2 rfl))
theorem sg_X6_takeNumber_10 {g : tr_g} {d : Nat} {h : ev_AH} {r : ev_O × ev_AH} {w0 : Option Value} (hL : hh_L h) (hr : r = (.inl (some (.int 0)), h)) : tr_L g d m_X6_takeNumber 10 [w0] [] h r := by
  refine tr_ic 0 0 (by decide) rfl ?_
  exact tl_ret hL .ireturn 1 (some (.int 0)) rfl rfl rfl rfl hr
theorem sg_X6_takeNumber_12 {g : tr_g} {d : Nat} {h : ev_AH} {r : ev_O × ev_AH} {h1 h2 h3 : ev_AH} {v0 v1 v2 : Int32} (hL : hh_L h) (c_0 : tr_L g d m_X6_peek 0 [some (.ref 1093)] [] h (.inl (some (.int v0)), h1)) (c_1 : tr_L g d m_X6_peek 0 [some (.ref 1093)] [] (hh_si (hh_si h1 93 7 3 (v0 - 48)) 93 7 1 ((hh_i (hh_si h1 93 7 3 (v0 - 48)) 93 1) + 1)) (.inl (some (.int v1)), h2)) (c_2 : tr_L g d m_X6_isDigit 0 [some (.int v1)] [] h2 (.inl (some (.int v2)), h3)) (t : v2 = 0 → tr_L g (d + 1) m_X6_takeNumber 72 [some (.ref 1093)] [] h3 r) (f : v2 ≠ 0 → tr_L g (d + 1) m_X6_takeNumber 43 [some (.ref 1093)] [] h3 r) : tr_L g (d + 1) m_X6_takeNumber 12 [some (.ref 1093)] [] h r := by
  refine tr_s (.aload_n 0) 1 13 [some (.ref 1093)] [.ref 1093] h rfl rfl rfl ?_
  refine tr_s (.aload_n 0) 1 14 [some (.ref 1093)] [.ref 1093, .ref 1093] h rfl rfl rfl ?_
  refine tr_call (.invokevirtual 52) 52 0 0 7 m_X6_peek [.ref 1093] [.ref 1093] (some (.int v0)) h1 rfl rfl rfl rfl rfl rfl rfl rfl rfl (tr_cok rfl (Or.inr ⟨_, _, rfl, tr_rc (hh_rd (hh_obj hL (k := 93) rfl).1) (by decide)⟩)) c_0 ?_
  have hL0 := c_0.2
  refine tr_bi 48 48 (by decide) rfl ?_
  refine tr_s .isub 1 20 [some (.ref 1093)] [.int (v0 - 48), .ref 1093] h1 rfl rfl rfl ?_
  refine tl_pf hL0 25 93 7 3 [1094, 0, 0, 0, 0, 0, 0] (v0 - 48) .int rfl rfl rfl rfl rfl tr_oki ?_
  have hL1 := hh_L_si (sl := 3) (x := (v0 - 48)) hL0 (show hh_t[93]? = some (.inr (7, [1094, 0, 0, 0, 0, 0, 0])) from rfl) rfl
  refine tr_s (.aload_n 0) 1 24 [some (.ref 1093)] [.ref 1093] (hh_si h1 93 7 3 (v0 - 48)) rfl rfl rfl ?_
  refine tr_s .dup 1 25 [some (.ref 1093)] [.ref 1093, .ref 1093] (hh_si h1 93 7 3 (v0 - 48)) rfl rfl rfl ?_
  refine tl_gi hL1 18 93 7 1 [1094, 0, 0, 0, 0, 0, 0] rfl rfl rfl rfl ?_
  refine tr_ic 1 1 (by decide) rfl ?_
  refine tr_s .iadd 1 30 [some (.ref 1093)] [.int ((hh_i (hh_si h1 93 7 3 (v0 - 48)) 93 1) + 1), .ref 1093] (hh_si h1 93 7 3 (v0 - 48)) rfl rfl rfl ?_
  refine tl_pf hL1 18 93 7 1 [1094, 0, 0, 0, 0, 0, 0] ((hh_i (hh_si h1 93 7 3 (v0 - 48)) 93 1) + 1) .int rfl rfl rfl rfl rfl tr_oki ?_
  have hL2 := hh_L_si (sl := 1) (x := ((hh_i (hh_si h1 93 7 3 (v0 - 48)) 93 1) + 1)) hL1 (show hh_t[93]? = some (.inr (7, [1094, 0, 0, 0, 0, 0, 0])) from rfl) rfl
  refine tr_s (.aload_n 0) 1 34 [some (.ref 1093)] [.ref 1093] (hh_si (hh_si h1 93 7 3 (v0 - 48)) 93 7 1 ((hh_i (hh_si h1 93 7 3 (v0 - 48)) 93 1) + 1)) rfl rfl rfl ?_
  refine tr_call (.invokevirtual 52) 52 0 0 7 m_X6_peek [.ref 1093] [] (some (.int v1)) h2 rfl rfl rfl rfl rfl rfl rfl rfl rfl (tr_cok rfl (Or.inr ⟨_, _, rfl, tr_rc (hh_rd (hh_obj hL2 (k := 93) rfl).1) (by decide)⟩)) c_1 ?_
  have hL3 := c_1.2
  refine tr_call (.invokestatic 98) 98 2 1 0 m_X6_isDigit [.int v1] [] (some (.int v2)) h3 rfl rfl rfl rfl rfl rfl rfl rfl rfl (tr_cok rfl (Or.inl rfl)) c_2 ?_
  have hL4 := c_2.2
  exact tr_if1 .eq 32 72 v2 rfl rfl rfl (fun hc => t ((tr_eq hc).1 rfl)) (fun hc => f ((tr_eq hc).2 rfl))
theorem sg_X6_takeNumber_43 {g : tr_g} {d : Nat} {h : ev_AH} {r : ev_O × ev_AH} {h1 : ev_AH} {v0 : Int32} (hL : hh_L h) (c_0 : tr_L g d m_X6_peek 0 [some (.ref 1093)] [] h (.inl (some (.int v0)), h1)) (hr : r = (.inl (some (.int 1)), hh_si (hh_si h1 93 7 3 (((10 * (hh_i h 93 3)) + v0) - 48)) 93 7 1 ((hh_i (hh_si h1 93 7 3 (((10 * (hh_i h 93 3)) + v0) - 48)) 93 1) + 1))) : tr_L g (d + 1) m_X6_takeNumber 43 [some (.ref 1093)] [] h r := by
  refine tr_s (.aload_n 0) 1 44 [some (.ref 1093)] [.ref 1093] h rfl rfl rfl ?_
  refine tr_bi 10 10 (by decide) rfl ?_
  refine tr_s (.aload_n 0) 1 47 [some (.ref 1093)] [.ref 1093, .int 10, .ref 1093] h rfl rfl rfl ?_
  refine tl_gi hL 25 93 7 3 [1094, 0, 0, 0, 0, 0, 0] rfl rfl rfl rfl ?_
  refine tr_s .imul 1 51 [some (.ref 1093)] [.int (10 * (hh_i h 93 3)), .ref 1093] h rfl rfl rfl ?_
  refine tr_s (.aload_n 0) 1 52 [some (.ref 1093)] [.ref 1093, .int (10 * (hh_i h 93 3)), .ref 1093] h rfl rfl rfl ?_
  refine tr_call (.invokevirtual 52) 52 0 0 7 m_X6_peek [.ref 1093] [.int (10 * (hh_i h 93 3)), .ref 1093] (some (.int v0)) h1 rfl rfl rfl rfl rfl rfl rfl rfl rfl (tr_cok rfl (Or.inr ⟨_, _, rfl, tr_rc (hh_rd (hh_obj hL (k := 93) rfl).1) (by decide)⟩)) c_0 ?_
  have hL0 := c_0.2
  refine tr_s .iadd 1 56 [some (.ref 1093)] [.int ((10 * (hh_i h 93 3)) + v0), .ref 1093] h1 rfl rfl rfl ?_
  refine tr_bi 48 48 (by decide) rfl ?_
  refine tr_s .isub 1 59 [some (.ref 1093)] [.int (((10 * (hh_i h 93 3)) + v0) - 48), .ref 1093] h1 rfl rfl rfl ?_
  refine tl_pf hL0 25 93 7 3 [1094, 0, 0, 0, 0, 0, 0] (((10 * (hh_i h 93 3)) + v0) - 48) .int rfl rfl rfl rfl rfl tr_oki ?_
  have hL1 := hh_L_si (sl := 3) (x := (((10 * (hh_i h 93 3)) + v0) - 48)) hL0 (show hh_t[93]? = some (.inr (7, [1094, 0, 0, 0, 0, 0, 0])) from rfl) rfl
  refine tr_s (.aload_n 0) 1 63 [some (.ref 1093)] [.ref 1093] (hh_si h1 93 7 3 (((10 * (hh_i h 93 3)) + v0) - 48)) rfl rfl rfl ?_
  refine tr_s .dup 1 64 [some (.ref 1093)] [.ref 1093, .ref 1093] (hh_si h1 93 7 3 (((10 * (hh_i h 93 3)) + v0) - 48)) rfl rfl rfl ?_
  refine tl_gi hL1 18 93 7 1 [1094, 0, 0, 0, 0, 0, 0] rfl rfl rfl rfl ?_
  refine tr_ic 1 1 (by decide) rfl ?_
  refine tr_s .iadd 1 69 [some (.ref 1093)] [.int ((hh_i (hh_si h1 93 7 3 (((10 * (hh_i h 93 3)) + v0) - 48)) 93 1) + 1), .ref 1093] (hh_si h1 93 7 3 (((10 * (hh_i h 93 3)) + v0) - 48)) rfl rfl rfl ?_
  refine tl_pf hL1 18 93 7 1 [1094, 0, 0, 0, 0, 0, 0] ((hh_i (hh_si h1 93 7 3 (((10 * (hh_i h 93 3)) + v0) - 48)) 93 1) + 1) .int rfl rfl rfl rfl rfl tr_oki ?_
  have hL2 := hh_L_si (sl := 1) (x := ((hh_i (hh_si h1 93 7 3 (((10 * (hh_i h 93 3)) + v0) - 48)) 93 1) + 1)) hL1 (show hh_t[93]? = some (.inr (7, [1094, 0, 0, 0, 0, 0, 0])) from rfl) rfl
  refine tr_ic 1 1 (by decide) rfl ?_
  exact tl_ret hL2 .ireturn 1 (some (.int 1)) rfl rfl rfl rfl hr
theorem sg_X6_takeNumber_72 {g : tr_g} {d : Nat} {h : ev_AH} {r : ev_O × ev_AH} {w0 : Option Value} (hL : hh_L h) (hr : r = (.inl (some (.int 1)), h)) : tr_L g d m_X6_takeNumber 72 [w0] [] h r := by
  refine tr_ic 1 1 (by decide) rfl ?_
  exact tl_ret hL .ireturn 1 (some (.int 1)) rfl rfl rfl rfl hr
theorem sg_X6_isDigit_0 {g : tr_g} {d : Nat} {h : ev_AH} {r : ev_O × ev_AH} {x0 : Int32} (hL : hh_L h) (t : x0 < 48 → tr_L g d m_X6_isDigit 16 [some (.int x0)] [] h r) (f : 48 ≤ x0 → tr_L g d m_X6_isDigit 6 [some (.int x0)] [] h r) : tr_L g d m_X6_isDigit 0 [some (.int x0)] [] h r := by
  refine tr_s (.iload_n 0) 1 1 [some (.int x0)] [.int x0] h rfl rfl rfl ?_
  refine tr_bi 48 48 (by decide) rfl ?_
  exact tr_if2 .lt 13 16 x0 48 rfl rfl rfl (fun hc => t ((tr_lt hc).1 rfl)) (fun hc => f ((tr_lt hc).2 rfl))
theorem sg_X6_isDigit_6 {g : tr_g} {d : Nat} {h : ev_AH} {r : ev_O × ev_AH} {x0 : Int32} (hL : hh_L h) (t : 57 < x0 → tr_L g d m_X6_isDigit 16 [some (.int x0)] [] h r) (f : x0 ≤ 57 → tr_L g d m_X6_isDigit 12 [some (.int x0)] [] h r) : tr_L g d m_X6_isDigit 6 [some (.int x0)] [] h r := by
  refine tr_s (.iload_n 0) 1 7 [some (.int x0)] [.int x0] h rfl rfl rfl ?_
  refine tr_bi 57 57 (by decide) rfl ?_
  exact tr_if2 .gt 7 16 x0 57 rfl rfl rfl (fun hc => t ((tr_gt hc).1 rfl)) (fun hc => f ((tr_gt hc).2 rfl))
theorem sg_X6_isDigit_12 {g : tr_g} {d : Nat} {h : ev_AH} {r : ev_O × ev_AH} {w0 : Option Value} (hL : hh_L h) (hr : r = (.inl (some (.int 1)), h)) : tr_L g d m_X6_isDigit 12 [w0] [] h r := by
  refine tr_ic 1 1 (by decide) rfl ?_
  refine tr_goto 4 17 rfl rfl rfl ?_
  exact tl_ret hL .ireturn 1 (some (.int 1)) rfl rfl rfl rfl hr
theorem sg_X6_isDigit_16 {g : tr_g} {d : Nat} {h : ev_AH} {r : ev_O × ev_AH} {w0 : Option Value} (hL : hh_L h) (hr : r = (.inl (some (.int 0)), h)) : tr_L g d m_X6_isDigit 16 [w0] [] h r := by
  refine tr_ic 0 0 (by decide) rfl ?_
  exact tl_ret hL .ireturn 1 (some (.int 0)) rfl rfl rfl rfl hr
theorem sg_X6_takeRanking_0 {g : tr_g} {d : Nat} {h : ev_AH} {r : ev_O × ev_AH} {h1 : ev_AH} {v0 : Int32} (hL : hh_L h) (c_0 : tr_L g d m_X6_takeFirst 0 [some (.ref 1093), some (.ref 5), none] [] h (.inl (some (.int v0)), h1)) (t : v0 ≠ 0 → tr_L g (d + 1) m_X6_takeRanking 11 [some (.ref 1093), none] [] h1 r) (f : v0 = 0 → tr_L g (d + 1) m_X6_takeRanking 9 [some (.ref 1093), none] [] h1 r) : tr_L g (d + 1) m_X6_takeRanking 0 [some (.ref 1093), none] [] h r := by
  refine tr_s (.aload_n 0) 1 1 [some (.ref 1093), none] [.ref 1093] h rfl rfl rfl ?_
  refine tr_s (.ldc 73) 2 3 [some (.ref 1093), none] [.ref 5, .ref 1093] h rfl rfl rfl ?_
  refine tr_call (.invokevirtual 75) 75 0 1 7 m_X6_takeFirst [.ref 1093, .ref 5] [] (some (.int v0)) h1 rfl rfl rfl rfl rfl rfl rfl rfl rfl (tr_cok rfl (Or.inr ⟨_, _, rfl, tr_rc (hh_rd (hh_obj hL (k := 93) rfl).1) (by decide)⟩)) c_0 ?_
  have hL0 := c_0.2
  exact tr_if1 .ne 5 11 v0 rfl rfl rfl (fun hc => t ((tr_ne hc).1 rfl)) (fun hc => f ((tr_ne hc).2 rfl))
theorem sg_X6_takeRanking_9 {g : tr_g} {d : Nat} {h : ev_AH} {r : ev_O × ev_AH} {w0 w1 : Option Value} (hL : hh_L h) (hr : r = (.inl (some (.int 0)), h)) : tr_L g d m_X6_takeRanking 9 [w0, w1] [] h r := by
  refine tr_ic 0 0 (by decide) rfl ?_
  exact tl_ret hL .ireturn 1 (some (.int 0)) rfl rfl rfl rfl hr
theorem sg_X6_takeRanking_11 {g : tr_g} {d : Nat} {h : ev_AH} {r : ev_O × ev_AH} {w1 : Option Value} {h1 : ev_AH} {v0 : Int32} (hL : hh_L h) (c_0 : tr_L g d m_X6_takeFirst 0 [some (.ref 1093), some (.ref 5), none] [] h (.inl (some (.int v0)), h1)) (t : v0 ≠ 0 → tr_L g (d + 1) m_X6_takeRanking 27 [some (.ref 1093), some (.int (hh_i h 93 4))] [] h1 r) (f : v0 = 0 → tr_L g (d + 1) m_X6_takeRanking 25 [some (.ref 1093), some (.int (hh_i h 93 4))] [] h1 r) : tr_L g (d + 1) m_X6_takeRanking 11 [some (.ref 1093), w1] [] h r := by
  refine tr_s (.aload_n 0) 1 12 [some (.ref 1093), w1] [.ref 1093] h rfl rfl rfl ?_
  refine tl_gi hL 28 93 7 4 [1094, 0, 0, 0, 0, 0, 0] rfl rfl rfl rfl ?_
  refine tr_st (.istore_n 1) 1 1 0 (.int (hh_i h 93 4)) rfl rfl rfl rfl rfl rfl rfl ?_
  refine tr_s (.aload_n 0) 1 17 [some (.ref 1093), some (.int (hh_i h 93 4))] [.ref 1093] h rfl rfl rfl ?_
  refine tr_s (.ldc 73) 2 19 [some (.ref 1093), some (.int (hh_i h 93 4))] [.ref 5, .ref 1093] h rfl rfl rfl ?_
  refine tr_call (.invokevirtual 75) 75 0 1 7 m_X6_takeFirst [.ref 1093, .ref 5] [] (some (.int v0)) h1 rfl rfl rfl rfl rfl rfl rfl rfl rfl (tr_cok rfl (Or.inr ⟨_, _, rfl, tr_rc (hh_rd (hh_obj hL (k := 93) rfl).1) (by decide)⟩)) c_0 ?_
  have hL0 := c_0.2
  exact tr_if1 .ne 5 27 v0 rfl rfl rfl (fun hc => t ((tr_ne hc).1 rfl)) (fun hc => f ((tr_ne hc).2 rfl))
theorem sg_X6_takeRanking_25 {g : tr_g} {d : Nat} {h : ev_AH} {r : ev_O × ev_AH} {w0 w1 : Option Value} (hL : hh_L h) (hr : r = (.inl (some (.int 0)), h)) : tr_L g d m_X6_takeRanking 25 [w0, w1] [] h r := by
  refine tr_ic 0 0 (by decide) rfl ?_
  exact tl_ret hL .ireturn 1 (some (.int 0)) rfl rfl rfl rfl hr
theorem sg_X6_takeRanking_27 {g : tr_g} {d : Nat} {h : ev_AH} {r : ev_O × ev_AH} {x1 v0 : Int32} {h1 : ev_AH} (hL : hh_L h) (hc0 : tr_ch (hh_i h 93 4)) (c_0 : tr_L g d m_X6_takeFirst 0 [some (.ref 1093), some (.ref 5), none] [] (hh_si h 93 7 5 (hh_i h 93 4)) (.inl (some (.int v0)), h1)) (t : v0 ≠ 0 → tr_L g (d + 1) m_X6_takeRanking 46 [some (.ref 1093), some (.int x1)] [] h1 r) (f : v0 = 0 → tr_L g (d + 1) m_X6_takeRanking 44 [some (.ref 1093), some (.int x1)] [] h1 r) : tr_L g (d + 1) m_X6_takeRanking 27 [some (.ref 1093), some (.int x1)] [] h r := by
  refine tr_s (.aload_n 0) 1 28 [some (.ref 1093), some (.int x1)] [.ref 1093] h rfl rfl rfl ?_
  refine tr_s (.aload_n 0) 1 29 [some (.ref 1093), some (.int x1)] [.ref 1093, .ref 1093] h rfl rfl rfl ?_
  refine tl_gi hL 28 93 7 4 [1094, 0, 0, 0, 0, 0, 0] rfl rfl rfl rfl ?_
  refine tl_pf hL 32 93 7 5 [1094, 0, 0, 0, 0, 0, 0] (hh_i h 93 4) .char rfl rfl rfl rfl rfl (tr_okc hc0) ?_
  have hL0 := hh_L_si (sl := 5) (x := (hh_i h 93 4)) hL (show hh_t[93]? = some (.inr (7, [1094, 0, 0, 0, 0, 0, 0])) from rfl) rfl
  refine tr_s (.aload_n 0) 1 36 [some (.ref 1093), some (.int x1)] [.ref 1093] (hh_si h 93 7 5 (hh_i h 93 4)) rfl rfl rfl ?_
  refine tr_s (.ldc 73) 2 38 [some (.ref 1093), some (.int x1)] [.ref 5, .ref 1093] (hh_si h 93 7 5 (hh_i h 93 4)) rfl rfl rfl ?_
  refine tr_call (.invokevirtual 75) 75 0 1 7 m_X6_takeFirst [.ref 1093, .ref 5] [] (some (.int v0)) h1 rfl rfl rfl rfl rfl rfl rfl rfl rfl (tr_cok rfl (Or.inr ⟨_, _, rfl, tr_rc (hh_rd (hh_obj hL0 (k := 93) rfl).1) (by decide)⟩)) c_0 ?_
  have hL1 := c_0.2
  exact tr_if1 .ne 5 46 v0 rfl rfl rfl (fun hc => t ((tr_ne hc).1 rfl)) (fun hc => f ((tr_ne hc).2 rfl))
theorem sg_X6_takeRanking_44 {g : tr_g} {d : Nat} {h : ev_AH} {r : ev_O × ev_AH} {w0 w1 : Option Value} (hL : hh_L h) (hr : r = (.inl (some (.int 0)), h)) : tr_L g d m_X6_takeRanking 44 [w0, w1] [] h r := by
  refine tr_ic 0 0 (by decide) rfl ?_
  exact tl_ret hL .ireturn 1 (some (.int 0)) rfl rfl rfl rfl hr
theorem sg_X6_takeRanking_46 {g : tr_g} {d : Nat} {h : ev_AH} {r : ev_O × ev_AH} {x1 : Int32} (hL : hh_L h) (hc0 : tr_ch (hh_i h 93 4)) (hc1 : tr_ch x1) (hr : r = (.inl (some (.int 1)), hh_si (hh_si h 93 7 6 (hh_i h 93 4)) 93 7 4 x1)) : tr_L g d m_X6_takeRanking 46 [some (.ref 1093), some (.int x1)] [] h r := by
  refine tr_s (.aload_n 0) 1 47 [some (.ref 1093), some (.int x1)] [.ref 1093] h rfl rfl rfl ?_
  refine tr_s (.aload_n 0) 1 48 [some (.ref 1093), some (.int x1)] [.ref 1093, .ref 1093] h rfl rfl rfl ?_
  refine tl_gi hL 28 93 7 4 [1094, 0, 0, 0, 0, 0, 0] rfl rfl rfl rfl ?_
  refine tl_pf hL 35 93 7 6 [1094, 0, 0, 0, 0, 0, 0] (hh_i h 93 4) .char rfl rfl rfl rfl rfl (tr_okc hc0) ?_
  have hL0 := hh_L_si (sl := 6) (x := (hh_i h 93 4)) hL (show hh_t[93]? = some (.inr (7, [1094, 0, 0, 0, 0, 0, 0])) from rfl) rfl
  refine tr_s (.aload_n 0) 1 55 [some (.ref 1093), some (.int x1)] [.ref 1093] (hh_si h 93 7 6 (hh_i h 93 4)) rfl rfl rfl ?_
  refine tr_s (.iload_n 1) 1 56 [some (.ref 1093), some (.int x1)] [.int x1, .ref 1093] (hh_si h 93 7 6 (hh_i h 93 4)) rfl rfl rfl ?_
  refine tl_pf hL0 28 93 7 4 [1094, 0, 0, 0, 0, 0, 0] x1 .char rfl rfl rfl rfl rfl (tr_okc hc1) ?_
  have hL1 := hh_L_si (sl := 4) (x := x1) hL0 (show hh_t[93]? = some (.inr (7, [1094, 0, 0, 0, 0, 0, 0])) from rfl) rfl
  refine tr_ic 1 1 (by decide) rfl ?_
  exact tl_ret hL1 .ireturn 1 (some (.int 1)) rfl rfl rfl rfl hr
theorem sg_X6_takeFirst_0 {g : tr_g} {d : Nat} {h : ev_AH} {r : ev_O × ev_AH} {a1 : Nat} {h1 h2 : ev_AH} {v0 v1 : Int32} {vs0 : List Value} (hL : hh_L h) (c_0 : tr_L g d m_X6_peek 0 [some (.ref 1093)] [] h (.inl (some (.int v0)), h1)) (m0 : ev_rd (tr_G g) h1 a1 = some (.inr (8, vs0))) (c_1 : tr_L g d m_J0_indexOf_0f7a4 0 [some (.ref a1), some (.int v0)] [] h1 (.inl (some (.int v1)), h2)) (t : 0 ≤ v1 → tr_L g (d + 1) m_X6_takeFirst 15 [some (.ref 1093), some (.ref a1), some (.int v0)] [] h2 r) (f : v1 < 0 → tr_L g (d + 1) m_X6_takeFirst 13 [some (.ref 1093), some (.ref a1), some (.int v0)] [] h2 r) : tr_L g (d + 1) m_X6_takeFirst 0 [some (.ref 1093), some (.ref a1), none] [] h r := by
  refine tr_s (.aload_n 0) 1 1 [some (.ref 1093), some (.ref a1), none] [.ref 1093] h rfl rfl rfl ?_
  refine tr_call (.invokevirtual 52) 52 0 0 7 m_X6_peek [.ref 1093] [] (some (.int v0)) h1 rfl rfl rfl rfl rfl rfl rfl rfl rfl (tr_cok rfl (Or.inr ⟨_, _, rfl, tr_rc (hh_rd (hh_obj hL (k := 93) rfl).1) (by decide)⟩)) c_0 ?_
  have hL0 := c_0.2
  refine tr_st (.istore_n 2) 1 2 0 (.int v0) rfl rfl rfl rfl rfl rfl rfl ?_
  refine tr_s (.aload_n 1) 1 6 [some (.ref 1093), some (.ref a1), some (.int v0)] [.ref a1] h1 rfl rfl rfl ?_
  refine tr_s (.iload_n 2) 1 7 [some (.ref 1093), some (.ref a1), some (.int v0)] [.int v0, .ref a1] h1 rfl rfl rfl ?_
  refine tr_call (.invokevirtual 102) 102 0 1 8 m_J0_indexOf_0f7a4 [.ref a1, .int v0] [] (some (.int v1)) h2 rfl rfl rfl rfl rfl rfl rfl rfl rfl (tr_cok rfl (Or.inr ⟨_, _, rfl, tr_rc m0 (by decide)⟩)) c_1 ?_
  have hL1 := c_1.2
  exact tr_if1 .ge 5 15 v1 rfl rfl rfl (fun hc => t ((tr_ge hc).1 rfl)) (fun hc => f ((tr_ge hc).2 rfl))
theorem sg_X6_takeFirst_13 {g : tr_g} {d : Nat} {h : ev_AH} {r : ev_O × ev_AH} {w0 w1 w2 : Option Value} (hL : hh_L h) (hr : r = (.inl (some (.int 0)), h)) : tr_L g d m_X6_takeFirst 13 [w0, w1, w2] [] h r := by
  refine tr_ic 0 0 (by decide) rfl ?_
  exact tl_ret hL .ireturn 1 (some (.int 0)) rfl rfl rfl rfl hr
theorem sg_X6_takeFirst_15 {g : tr_g} {d : Nat} {h : ev_AH} {r : ev_O × ev_AH} {w1 : Option Value} {x2 : Int32} (hL : hh_L h) (hc0 : tr_ch x2) (hr : r = (.inl (some (.int 1)), hh_si (hh_si h 93 7 4 x2) 93 7 1 ((hh_i (hh_si h 93 7 4 x2) 93 1) + 1))) : tr_L g d m_X6_takeFirst 15 [some (.ref 1093), w1, some (.int x2)] [] h r := by
  refine tr_s (.aload_n 0) 1 16 [some (.ref 1093), w1, some (.int x2)] [.ref 1093] h rfl rfl rfl ?_
  refine tr_s (.iload_n 2) 1 17 [some (.ref 1093), w1, some (.int x2)] [.int x2, .ref 1093] h rfl rfl rfl ?_
  refine tl_pf hL 28 93 7 4 [1094, 0, 0, 0, 0, 0, 0] x2 .char rfl rfl rfl rfl rfl (tr_okc hc0) ?_
  have hL0 := hh_L_si (sl := 4) (x := x2) hL (show hh_t[93]? = some (.inr (7, [1094, 0, 0, 0, 0, 0, 0])) from rfl) rfl
  refine tr_s (.aload_n 0) 1 21 [some (.ref 1093), w1, some (.int x2)] [.ref 1093] (hh_si h 93 7 4 x2) rfl rfl rfl ?_
  refine tr_s .dup 1 22 [some (.ref 1093), w1, some (.int x2)] [.ref 1093, .ref 1093] (hh_si h 93 7 4 x2) rfl rfl rfl ?_
  refine tl_gi hL0 18 93 7 1 [1094, 0, 0, 0, 0, 0, 0] rfl rfl rfl rfl ?_
  refine tr_ic 1 1 (by decide) rfl ?_
  refine tr_s .iadd 1 27 [some (.ref 1093), w1, some (.int x2)] [.int ((hh_i (hh_si h 93 7 4 x2) 93 1) + 1), .ref 1093] (hh_si h 93 7 4 x2) rfl rfl rfl ?_
  refine tl_pf hL0 18 93 7 1 [1094, 0, 0, 0, 0, 0, 0] ((hh_i (hh_si h 93 7 4 x2) 93 1) + 1) .int rfl rfl rfl rfl rfl tr_oki ?_
  have hL1 := hh_L_si (sl := 1) (x := ((hh_i (hh_si h 93 7 4 x2) 93 1) + 1)) hL0 (show hh_t[93]? = some (.inr (7, [1094, 0, 0, 0, 0, 0, 0])) from rfl) rfl
  refine tr_ic 1 1 (by decide) rfl ?_
  exact tl_ret hL1 .ireturn 1 (some (.int 1)) rfl rfl rfl rfl hr
theorem sg_X6_readMirrorOrMethod_0 {g : tr_g} {d : Nat} {h : ev_AH} {r : ev_O × ev_AH} {h1 : ev_AH} {v0 : Int32} (hL : hh_L h) (c_0 : tr_L g d m_X6_peek 0 [some (.ref 1093)] [] h (.inl (some (.int v0)), h1)) (t : v0 ≠ 101 → tr_L g (d + 1) m_X6_readMirrorOrMethod 38 [some (.ref 1093)] [] h1 r) (f : v0 = 101 → tr_L g (d + 1) m_X6_readMirrorOrMethod 9 [some (.ref 1093)] [] h1 r) : tr_L g (d + 1) m_X6_readMirrorOrMethod 0 [some (.ref 1093)] [] h r := by
  refine tr_s (.aload_n 0) 1 1 [some (.ref 1093)] [.ref 1093] h rfl rfl rfl ?_
  refine tr_call (.invokevirtual 52) 52 0 0 7 m_X6_peek [.ref 1093] [] (some (.int v0)) h1 rfl rfl rfl rfl rfl rfl rfl rfl rfl (tr_cok rfl (Or.inr ⟨_, _, rfl, tr_rc (hh_rd (hh_obj hL (k := 93) rfl).1) (by decide)⟩)) c_0 ?_
  have hL0 := c_0.2
  refine tr_bi 101 101 (by decide) rfl ?_
  exact tr_if2 .ne 32 38 v0 101 rfl rfl rfl (fun hc => t ((tr_ne hc).1 rfl)) (fun hc => f ((tr_ne hc).2 rfl))
theorem sg_X6_readMirrorOrMethod_9 {g : tr_g} {d : Nat} {h : ev_AH} {r : ev_O × ev_AH} {h1 : ev_AH} {v0 : Int32} (hL : hh_L h) (c_0 : tr_L g d m_X6_takeWord 0 [some (.ref 1093), some (.ref 9), none] [] (hh_si h 93 7 2 3) (.inl (some (.int v0)), h1)) (t : v0 = 0 → tr_L g (d + 1) m_X6_readMirrorOrMethod 36 [some (.ref 1093)] [] h1 r) (f : v0 ≠ 0 → tr_L g (d + 1) m_X6_readMirrorOrMethod 23 [some (.ref 1093)] [] h1 r) : tr_L g (d + 1) m_X6_readMirrorOrMethod 9 [some (.ref 1093)] [] h r := by
  refine tr_s (.aload_n 0) 1 10 [some (.ref 1093)] [.ref 1093] h rfl rfl rfl ?_
  refine tr_ic 3 3 (by decide) rfl ?_
  refine tl_pf hL 22 93 7 2 [1094, 0, 0, 0, 0, 0, 0] 3 .int rfl rfl rfl rfl rfl tr_oki ?_
  have hL0 := hh_L_si (sl := 2) (x := 3) hL (show hh_t[93]? = some (.inr (7, [1094, 0, 0, 0, 0, 0, 0])) from rfl) rfl
  refine tr_s (.aload_n 0) 1 15 [some (.ref 1093)] [.ref 1093] (hh_si h 93 7 2 3) rfl rfl rfl ?_
  refine tr_s (.ldc 82) 2 17 [some (.ref 1093)] [.ref 9, .ref 1093] (hh_si h 93 7 2 3) rfl rfl rfl ?_
  refine tr_call (.invokevirtual 48) 48 0 1 7 m_X6_takeWord [.ref 1093, .ref 9] [] (some (.int v0)) h1 rfl rfl rfl rfl rfl rfl rfl rfl rfl (tr_cok rfl (Or.inr ⟨_, _, rfl, tr_rc (hh_rd (hh_obj hL0 (k := 93) rfl).1) (by decide)⟩)) c_0 ?_
  have hL1 := c_0.2
  exact tr_if1 .eq 16 36 v0 rfl rfl rfl (fun hc => t ((tr_eq hc).1 rfl)) (fun hc => f ((tr_eq hc).2 rfl))
theorem sg_X6_readMirrorOrMethod_23 {g : tr_g} {d : Nat} {h : ev_AH} {r : ev_O × ev_AH} {h1 : ev_AH} {v0 : Int32} (hL : hh_L h) (c_0 : tr_L g d m_X6_takeFirst 0 [some (.ref 1093), some (.ref 11), none] [] h (.inl (some (.int v0)), h1)) (t : v0 = 0 → tr_L g (d + 1) m_X6_readMirrorOrMethod 36 [some (.ref 1093)] [] h1 r) (f : v0 ≠ 0 → tr_L g (d + 1) m_X6_readMirrorOrMethod 32 [some (.ref 1093)] [] h1 r) : tr_L g (d + 1) m_X6_readMirrorOrMethod 23 [some (.ref 1093)] [] h r := by
  refine tr_s (.aload_n 0) 1 24 [some (.ref 1093)] [.ref 1093] h rfl rfl rfl ?_
  refine tr_s (.ldc 84) 2 26 [some (.ref 1093)] [.ref 11, .ref 1093] h rfl rfl rfl ?_
  refine tr_call (.invokevirtual 75) 75 0 1 7 m_X6_takeFirst [.ref 1093, .ref 11] [] (some (.int v0)) h1 rfl rfl rfl rfl rfl rfl rfl rfl rfl (tr_cok rfl (Or.inr ⟨_, _, rfl, tr_rc (hh_rd (hh_obj hL (k := 93) rfl).1) (by decide)⟩)) c_0 ?_
  have hL0 := c_0.2
  exact tr_if1 .eq 7 36 v0 rfl rfl rfl (fun hc => t ((tr_eq hc).1 rfl)) (fun hc => f ((tr_eq hc).2 rfl))
theorem sg_X6_readMirrorOrMethod_32 {g : tr_g} {d : Nat} {h : ev_AH} {r : ev_O × ev_AH} {w0 : Option Value} (hL : hh_L h) (hr : r = (.inl (some (.int 1)), h)) : tr_L g d m_X6_readMirrorOrMethod 32 [w0] [] h r := by
  refine tr_ic 1 1 (by decide) rfl ?_
  refine tr_goto 4 37 rfl rfl rfl ?_
  exact tl_ret hL .ireturn 1 (some (.int 1)) rfl rfl rfl rfl hr
theorem sg_X6_readMirrorOrMethod_36 {g : tr_g} {d : Nat} {h : ev_AH} {r : ev_O × ev_AH} {w0 : Option Value} (hL : hh_L h) (hr : r = (.inl (some (.int 0)), h)) : tr_L g d m_X6_readMirrorOrMethod 36 [w0] [] h r := by
  refine tr_ic 0 0 (by decide) rfl ?_
  exact tl_ret hL .ireturn 1 (some (.int 0)) rfl rfl rfl rfl hr
theorem sg_X6_readMirrorOrMethod_38 {g : tr_g} {d : Nat} {h : ev_AH} {r : ev_O × ev_AH} {h1 : ev_AH} {v0 : Int32} (hL : hh_L h) (c_0 : tr_L g d m_X6_takeWord 0 [some (.ref 1093), some (.ref 13), none] [] (hh_si h 93 7 2 1) (.inl (some (.int v0)), h1)) (t : v0 = 0 → tr_L g (d + 1) m_X6_readMirrorOrMethod 81 [some (.ref 1093)] [] h1 r) (f : v0 ≠ 0 → tr_L g (d + 1) m_X6_readMirrorOrMethod 52 [some (.ref 1093)] [] h1 r) : tr_L g (d + 1) m_X6_readMirrorOrMethod 38 [some (.ref 1093)] [] h r := by
  refine tr_s (.aload_n 0) 1 39 [some (.ref 1093)] [.ref 1093] h rfl rfl rfl ?_
  refine tr_ic 1 1 (by decide) rfl ?_
  refine tl_pf hL 22 93 7 2 [1094, 0, 0, 0, 0, 0, 0] 1 .int rfl rfl rfl rfl rfl tr_oki ?_
  have hL0 := hh_L_si (sl := 2) (x := 1) hL (show hh_t[93]? = some (.inr (7, [1094, 0, 0, 0, 0, 0, 0])) from rfl) rfl
  refine tr_s (.aload_n 0) 1 44 [some (.ref 1093)] [.ref 1093] (hh_si h 93 7 2 1) rfl rfl rfl ?_
  refine tr_s (.ldc 86) 2 46 [some (.ref 1093)] [.ref 13, .ref 1093] (hh_si h 93 7 2 1) rfl rfl rfl ?_
  refine tr_call (.invokevirtual 48) 48 0 1 7 m_X6_takeWord [.ref 1093, .ref 13] [] (some (.int v0)) h1 rfl rfl rfl rfl rfl rfl rfl rfl rfl (tr_cok rfl (Or.inr ⟨_, _, rfl, tr_rc (hh_rd (hh_obj hL0 (k := 93) rfl).1) (by decide)⟩)) c_0 ?_
  have hL1 := c_0.2
  exact tr_if1 .eq 32 81 v0 rfl rfl rfl (fun hc => t ((tr_eq hc).1 rfl)) (fun hc => f ((tr_eq hc).2 rfl))
theorem sg_X6_readMirrorOrMethod_52 {g : tr_g} {d : Nat} {h : ev_AH} {r : ev_O × ev_AH} {h1 : ev_AH} {v0 : Int32} (hL : hh_L h) (c_0 : tr_L g d m_X6_takeNumber 0 [some (.ref 1093)] [] h (.inl (some (.int v0)), h1)) (t : v0 = 0 → tr_L g (d + 1) m_X6_readMirrorOrMethod 81 [some (.ref 1093)] [] h1 r) (f : v0 ≠ 0 → tr_L g (d + 1) m_X6_readMirrorOrMethod 59 [some (.ref 1093)] [] h1 r) : tr_L g (d + 1) m_X6_readMirrorOrMethod 52 [some (.ref 1093)] [] h r := by
  refine tr_s (.aload_n 0) 1 53 [some (.ref 1093)] [.ref 1093] h rfl rfl rfl ?_
  refine tr_call (.invokevirtual 58) 58 0 0 7 m_X6_takeNumber [.ref 1093] [] (some (.int v0)) h1 rfl rfl rfl rfl rfl rfl rfl rfl rfl (tr_cok rfl (Or.inr ⟨_, _, rfl, tr_rc (hh_rd (hh_obj hL (k := 93) rfl).1) (by decide)⟩)) c_0 ?_
  have hL0 := c_0.2
  exact tr_if1 .eq 25 81 v0 rfl rfl rfl (fun hc => t ((tr_eq hc).1 rfl)) (fun hc => f ((tr_eq hc).2 rfl))
theorem sg_X6_readMirrorOrMethod_59 {g : tr_g} {d : Nat} {h : ev_AH} {r : ev_O × ev_AH} {h1 : ev_AH} {v0 : Int32} (hL : hh_L h) (c_0 : tr_L g d m_X6_takeWord 0 [some (.ref 1093), some (.ref 3), none] [] h (.inl (some (.int v0)), h1)) (t : v0 = 0 → tr_L g (d + 1) m_X6_readMirrorOrMethod 81 [some (.ref 1093)] [] h1 r) (f : v0 ≠ 0 → tr_L g (d + 1) m_X6_readMirrorOrMethod 68 [some (.ref 1093)] [] h1 r) : tr_L g (d + 1) m_X6_readMirrorOrMethod 59 [some (.ref 1093)] [] h r := by
  refine tr_s (.aload_n 0) 1 60 [some (.ref 1093)] [.ref 1093] h rfl rfl rfl ?_
  refine tr_s (.ldc 61) 2 62 [some (.ref 1093)] [.ref 3, .ref 1093] h rfl rfl rfl ?_
  refine tr_call (.invokevirtual 48) 48 0 1 7 m_X6_takeWord [.ref 1093, .ref 3] [] (some (.int v0)) h1 rfl rfl rfl rfl rfl rfl rfl rfl rfl (tr_cok rfl (Or.inr ⟨_, _, rfl, tr_rc (hh_rd (hh_obj hL (k := 93) rfl).1) (by decide)⟩)) c_0 ?_
  have hL0 := c_0.2
  exact tr_if1 .eq 16 81 v0 rfl rfl rfl (fun hc => t ((tr_eq hc).1 rfl)) (fun hc => f ((tr_eq hc).2 rfl))
theorem sg_X6_readMirrorOrMethod_68 {g : tr_g} {d : Nat} {h : ev_AH} {r : ev_O × ev_AH} {h1 : ev_AH} {v0 : Int32} (hL : hh_L h) (c_0 : tr_L g d m_X6_takeFirst 0 [some (.ref 1093), some (.ref 15), none] [] h (.inl (some (.int v0)), h1)) (t : v0 = 0 → tr_L g (d + 1) m_X6_readMirrorOrMethod 81 [some (.ref 1093)] [] h1 r) (f : v0 ≠ 0 → tr_L g (d + 1) m_X6_readMirrorOrMethod 77 [some (.ref 1093)] [] h1 r) : tr_L g (d + 1) m_X6_readMirrorOrMethod 68 [some (.ref 1093)] [] h r := by
  refine tr_s (.aload_n 0) 1 69 [some (.ref 1093)] [.ref 1093] h rfl rfl rfl ?_
  refine tr_s (.ldc 88) 2 71 [some (.ref 1093)] [.ref 15, .ref 1093] h rfl rfl rfl ?_
  refine tr_call (.invokevirtual 75) 75 0 1 7 m_X6_takeFirst [.ref 1093, .ref 15] [] (some (.int v0)) h1 rfl rfl rfl rfl rfl rfl rfl rfl rfl (tr_cok rfl (Or.inr ⟨_, _, rfl, tr_rc (hh_rd (hh_obj hL (k := 93) rfl).1) (by decide)⟩)) c_0 ?_
  have hL0 := c_0.2
  exact tr_if1 .eq 7 81 v0 rfl rfl rfl (fun hc => t ((tr_eq hc).1 rfl)) (fun hc => f ((tr_eq hc).2 rfl))
theorem sg_X6_readMirrorOrMethod_77 {g : tr_g} {d : Nat} {h : ev_AH} {r : ev_O × ev_AH} {w0 : Option Value} (hL : hh_L h) (hr : r = (.inl (some (.int 1)), h)) : tr_L g d m_X6_readMirrorOrMethod 77 [w0] [] h r := by
  refine tr_ic 1 1 (by decide) rfl ?_
  refine tr_goto 4 82 rfl rfl rfl ?_
  exact tl_ret hL .ireturn 1 (some (.int 1)) rfl rfl rfl rfl hr
theorem sg_X6_readMirrorOrMethod_81 {g : tr_g} {d : Nat} {h : ev_AH} {r : ev_O × ev_AH} {w0 : Option Value} (hL : hh_L h) (hr : r = (.inl (some (.int 0)), h)) : tr_L g d m_X6_readMirrorOrMethod 81 [w0] [] h r := by
  refine tr_ic 0 0 (by decide) rfl ?_
  exact tl_ret hL .ireturn 1 (some (.int 0)) rfl rfl rfl rfl hr
theorem sg_X6_skipSeparator_0 {g : tr_g} {d : Nat} {h : ev_AH} {r : ev_O × ev_AH} (hL : hh_L h) (t : (hh_i h 93 1) ≤ 0 → tr_L g d m_X6_skipSeparator 14 [some (.ref 1093)] [] h r) (f : 0 < (hh_i h 93 1) → tr_L g d m_X6_skipSeparator 7 [some (.ref 1093)] [] h r) : tr_L g d m_X6_skipSeparator 0 [some (.ref 1093)] [] h r := by
  refine tr_s (.aload_n 0) 1 1 [some (.ref 1093)] [.ref 1093] h rfl rfl rfl ?_
  refine tl_gi hL 18 93 7 1 [1094, 0, 0, 0, 0, 0, 0] rfl rfl rfl rfl ?_
  exact tr_if1 .le 10 14 (hh_i h 93 1) rfl rfl rfl (fun hc => t ((tr_le hc).1 rfl)) (fun hc => f ((tr_le hc).2 rfl))
theorem sg_X6_skipSeparator_7 {g : tr_g} {d : Nat} {h : ev_AH} {r : ev_O × ev_AH} {h1 : ev_AH} {v0 : Int32} (hL : hh_L h) (c_0 : tr_L g d m_X6_takeWord 0 [some (.ref 1093), some (.ref 23), none] [] h (.inl (some (.int v0)), h1)) (hr : r = (.inl (none), h1)) : tr_L g (d + 1) m_X6_skipSeparator 7 [some (.ref 1093)] [] h r := by
  refine tr_s (.aload_n 0) 1 8 [some (.ref 1093)] [.ref 1093] h rfl rfl rfl ?_
  refine tr_s (.ldc 46) 2 10 [some (.ref 1093)] [.ref 23, .ref 1093] h rfl rfl rfl ?_
  refine tr_call (.invokevirtual 48) 48 0 1 7 m_X6_takeWord [.ref 1093, .ref 23] [] (some (.int v0)) h1 rfl rfl rfl rfl rfl rfl rfl rfl rfl (tr_cok rfl (Or.inr ⟨_, _, rfl, tr_rc (hh_rd (hh_obj hL (k := 93) rfl).1) (by decide)⟩)) c_0 ?_
  have hL0 := c_0.2
  refine tr_s .pop 1 14 [some (.ref 1093)] [] h1 rfl rfl rfl ?_
  exact tl_ret hL0 .return_ 1 none rfl rfl rfl rfl hr
theorem sg_X6_skipSeparator_14 {g : tr_g} {d : Nat} {h : ev_AH} {r : ev_O × ev_AH} {w0 : Option Value} (hL : hh_L h) (hr : r = (.inl (none), h)) : tr_L g d m_X6_skipSeparator 14 [w0] [] h r := by
  exact tl_ret hL .return_ 1 none rfl rfl rfl rfl hr
theorem sg_X8_writeRow_0 {g : tr_g} {d : Nat} {h : ev_AH} {r : ev_O × ev_AH} {x1 : Int32} (hL : hh_L h) (t : x1 < 0 → tr_L g d m_X8_writeRow 9 [some (.ref 1000), some (.int x1), none, none, none] [] h r) (f : 0 ≤ x1 → tr_L g d m_X8_writeRow 4 [some (.ref 1000), some (.int x1), none, none, none] [] h r) : tr_L g d m_X8_writeRow 0 [some (.ref 1000), some (.int x1), none, none, none] [] h r := by
  refine tr_s (.iload_n 1) 1 1 [some (.ref 1000), some (.int x1), none, none, none] [.int x1] h rfl rfl rfl ?_
  exact tr_if1 .lt 8 9 x1 rfl rfl rfl (fun hc => t ((tr_lt hc).1 rfl)) (fun hc => f ((tr_lt hc).2 rfl))
theorem sg_X8_writeRow_4 {g : tr_g} {d : Nat} {h : ev_AH} {r : ev_O × ev_AH} {x1 : Int32} {w2 w3 w4 : Option Value} (hL : hh_L h) (t : x1 < 5 → tr_L g d m_X8_writeRow 20 [some (.ref 1000), some (.int x1), w2, w3, w4] [] h r) (f : 5 ≤ x1 → tr_L g d m_X8_writeRow 9 [some (.ref 1000), some (.int x1), w2, w3, w4] [] h r) : tr_L g d m_X8_writeRow 4 [some (.ref 1000), some (.int x1), w2, w3, w4] [] h r := by
  refine tr_s (.iload_n 1) 1 5 [some (.ref 1000), some (.int x1), w2, w3, w4] [.int x1] h rfl rfl rfl ?_
  refine tr_ic 5 5 (by decide) rfl ?_
  exact tr_if2 .lt 14 20 x1 5 rfl rfl rfl (fun hc => t ((tr_lt hc).1 rfl)) (fun hc => f ((tr_lt hc).2 rfl))
theorem sg_X8_writeRow_9 {g : tr_g} {d : Nat} {h : ev_AH} {r : ev_O × ev_AH} {w0 w1 w2 w3 w4 : Option Value} (hL : hh_L h) (hr : r = (.inr 0, hh_x h)) : tr_L g d m_X8_writeRow 9 [w0, w1, w2, w3, w4] [] h r := by
  exact tl_thr hL 358 0 rfl rfl rfl rfl rfl hr
theorem sg_X8_writeRow_20 {g : tr_g} {d : Nat} {h : ev_AH} {r : ev_O × ev_AH} {x1 : Int32} {w2 w3 w4 : Option Value} {h1 : ev_AH} (hL : hh_L h) (c_0 : tr_L g d m_J4_setLength_d00df 0 [some (.ref 1096), some (.int 0)] [] h (.inl none, h1)) (k : tr_L g (d + 1) m_X8_writeRow 30 [some (.ref 1000), some (.int x1), some (.int 0), w3, w4] [] h1 r) : tr_L g (d + 1) m_X8_writeRow 20 [some (.ref 1000), some (.int x1), w2, w3, w4] [] h r := by
  refine tr_s (.aload_n 0) 1 21 [some (.ref 1000), some (.int x1), w2, w3, w4] [.ref 1000] h rfl rfl rfl ?_
  refine tl_gr hL 67 0 0 9 96 [1001, 1008, 1015, 1080, 1081, 1083, 1086, 1089, 1093, 1096, 1098, 0, 0, 0, 0, 0] rfl rfl rfl rfl ?_
  refine tr_ic 0 0 (by decide) rfl ?_
  refine tr_call (.invokevirtual 363) 363 0 1 9 m_J4_setLength_d00df [.ref 1096, .int 0] [] none h1 rfl rfl rfl rfl rfl rfl rfl rfl rfl (tr_cok rfl (Or.inr ⟨_, _, rfl, tr_rc (hh_rd (hh_obj hL (k := 96) rfl).1) (by decide)⟩)) c_0 ?_
  have hL0 := c_0.2
  refine tr_ic 0 0 (by decide) rfl ?_
  refine tr_st (.istore_n 2) 1 2 0 (.int 0) rfl rfl rfl rfl rfl rfl rfl ?_
  exact k
theorem sg_X8_writeRow_30 {g : tr_g} {d : Nat} {h : ev_AH} {r : ev_O × ev_AH} {x1 x2 : Int32} {w3 w4 : Option Value} (hL : hh_L h) (t : 7 ≤ x2 → tr_L g d m_X8_writeRow 93 [some (.ref 1000), some (.int x1), some (.int x2), w3, w4] [] h r) (f : x2 < 7 → tr_L g d m_X8_writeRow 36 [some (.ref 1000), some (.int x1), some (.int x2), w3, w4] [] h r) : tr_L g d m_X8_writeRow 30 [some (.ref 1000), some (.int x1), some (.int x2), w3, w4] [] h r := by
  refine tr_s (.iload_n 2) 1 31 [some (.ref 1000), some (.int x1), some (.int x2), w3, w4] [.int x2] h rfl rfl rfl ?_
  refine tr_bi 7 7 (by decide) rfl ?_
  exact tr_if2 .ge 60 93 x2 7 rfl rfl rfl (fun hc => t ((tr_ge hc).1 rfl)) (fun hc => f ((tr_ge hc).2 rfl))
theorem sg_X8_writeRow_36 {g : tr_g} {d : Nat} {h : ev_AH} {r : ev_O × ev_AH} {x1 x2 v0 : Int32} {w3 w4 : Option Value} {h1 : ev_AH} (hL : hh_L h) (c_0 : tr_L g d m_X8_at_ 0 [some (.ref 1002), some (.int ((7 * x1) + x2))] [] h (.inl (some (.int v0)), h1)) (t : v0 ≠ 99 → tr_L g (d + 1) m_X8_writeRow 81 [some (.ref 1000), some (.int x1), some (.int x2), some (.int ((7 * x1) + x2)), some (.int v0)] [.ref 1096] h1 r) (f : v0 = 99 → tr_L g (d + 1) m_X8_writeRow 67 [some (.ref 1000), some (.int x1), some (.int x2), some (.int ((7 * x1) + x2)), some (.int v0)] [.ref 1096] h1 r) : tr_L g (d + 1) m_X8_writeRow 36 [some (.ref 1000), some (.int x1), some (.int x2), w3, w4] [] h r := by
  refine tr_bi 7 7 (by decide) rfl ?_
  refine tr_s (.iload_n 1) 1 39 [some (.ref 1000), some (.int x1), some (.int x2), w3, w4] [.int x1, .int 7] h rfl rfl rfl ?_
  refine tr_s .imul 1 40 [some (.ref 1000), some (.int x1), some (.int x2), w3, w4] [.int (7 * x1)] h rfl rfl rfl ?_
  refine tr_s (.iload_n 2) 1 41 [some (.ref 1000), some (.int x1), some (.int x2), w3, w4] [.int x2, .int (7 * x1)] h rfl rfl rfl ?_
  refine tr_s .iadd 1 42 [some (.ref 1000), some (.int x1), some (.int x2), w3, w4] [.int ((7 * x1) + x2)] h rfl rfl rfl ?_
  refine tr_st (.istore_n 3) 1 3 0 (.int ((7 * x1) + x2)) rfl rfl rfl rfl rfl rfl rfl ?_
  refine tr_s (.aload_n 0) 1 44 [some (.ref 1000), some (.int x1), some (.int x2), some (.int ((7 * x1) + x2)), w4] [.ref 1000] h rfl rfl rfl ?_
  refine tl_gr hL 10 0 0 0 1 [1001, 1008, 1015, 1080, 1081, 1083, 1086, 1089, 1093, 1096, 1098, 0, 0, 0, 0, 0] rfl rfl rfl rfl ?_
  refine tl_gr hL 168 1 1 0 2 [1002, 1003, 1004, 1005, 1006, 1007, 0, 0, 0, 0, 0, 0, 0, 0] rfl rfl rfl rfl ?_
  refine tr_s (.iload_n 3) 1 51 [some (.ref 1000), some (.int x1), some (.int x2), some (.int ((7 * x1) + x2)), w4] [.int ((7 * x1) + x2), .ref 1002] h rfl rfl rfl ?_
  refine tr_call (.invokestatic 172) 172 2 2 0 m_X8_at_ [.ref 1002, .int ((7 * x1) + x2)] [] (some (.int v0)) h1 rfl rfl rfl rfl rfl rfl rfl rfl rfl (tr_cok rfl (Or.inl rfl)) c_0 ?_
  have hL0 := c_0.2
  refine tr_st (.istore 4) 2 4 0 (.int v0) rfl rfl rfl rfl rfl rfl rfl ?_
  refine tr_s (.aload_n 0) 1 57 [some (.ref 1000), some (.int x1), some (.int x2), some (.int ((7 * x1) + x2)), some (.int v0)] [.ref 1000] h1 rfl rfl rfl ?_
  refine tl_gr hL0 67 0 0 9 96 [1001, 1008, 1015, 1080, 1081, 1083, 1086, 1089, 1093, 1096, 1098, 0, 0, 0, 0, 0] rfl rfl rfl rfl ?_
  refine tr_s (.iload 4) 2 62 [some (.ref 1000), some (.int x1), some (.int x2), some (.int ((7 * x1) + x2)), some (.int v0)] [.int v0, .ref 1096] h1 rfl rfl rfl ?_
  refine tr_bi 99 99 (by decide) rfl ?_
  exact tr_if2 .ne 17 81 v0 99 rfl rfl rfl (fun hc => t ((tr_ne hc).1 rfl)) (fun hc => f ((tr_ne hc).2 rfl))
theorem sg_X8_writeRow_67 {g : tr_g} {d : Nat} {h : ev_AH} {r : ev_O × ev_AH} {x1 x2 x3 v0 v1 : Int32} {w4 : Option Value} {h1 h2 h3 : ev_AH} {c0 : Nat} (hL : hh_L h) (c_0 : tr_L g d m_X2_findCat 0 [some (.ref 1001), some (.int x3), none] [] h (.inl (some (.int v0)), h1)) (c_1 : tr_L g d m_X8_digitOf 0 [some (.int v0)] [] h1 (.inl (some (.int v1)), h2)) (c_2 : tr_L g d m_J4_append_cf468 0 [some (.ref 1096), some (.int v1)] [] h2 (.inl (some (.ref (c0 + 1000))), h3)) (k : tr_L g (d + 1) m_X8_writeRow 30 [some (.ref 1000), some (.int x1), some (.int (x2 + 1)), some (.int x3), w4] [] h3 r) : tr_L g (d + 1) m_X8_writeRow 67 [some (.ref 1000), some (.int x1), some (.int x2), some (.int x3), w4] [.ref 1096] h r := by
  refine tr_s (.aload_n 0) 1 68 [some (.ref 1000), some (.int x1), some (.int x2), some (.int x3), w4] [.ref 1000, .ref 1096] h rfl rfl rfl ?_
  refine tl_gr hL 10 0 0 0 1 [1001, 1008, 1015, 1080, 1081, 1083, 1086, 1089, 1093, 1096, 1098, 0, 0, 0, 0, 0] rfl rfl rfl rfl ?_
  refine tr_s (.iload_n 3) 1 72 [some (.ref 1000), some (.int x1), some (.int x2), some (.int x3), w4] [.int x3, .ref 1001, .ref 1096] h rfl rfl rfl ?_
  refine tr_call (.invokevirtual 111) 111 1 1 1 m_X2_findCat [.ref 1001, .int x3] [.ref 1096] (some (.int v0)) h1 rfl rfl rfl rfl rfl rfl rfl rfl rfl (tr_cok rfl (Or.inr ⟨_, _, rfl, tr_rc (hh_rd (hh_obj hL (k := 1) rfl).1) (by decide)⟩)) c_0 ?_
  have hL0 := c_0.2
  refine tr_call (.invokestatic 366) 366 2 1 0 m_X8_digitOf [.int v0] [.ref 1096] (some (.int v1)) h2 rfl rfl rfl rfl rfl rfl rfl rfl rfl (tr_cok rfl (Or.inl rfl)) c_1 ?_
  have hL1 := c_1.2
  refine tr_goto 5 83 rfl rfl rfl ?_
  refine tr_call (.invokevirtual 369) 369 0 1 9 m_J4_append_cf468 [.ref 1096, .int v1] [] (some (.ref (c0 + 1000))) h3 rfl rfl rfl rfl rfl rfl rfl rfl rfl (tr_cok rfl (Or.inr ⟨_, _, rfl, tr_rc (hh_rd (hh_obj hL1 (k := 96) rfl).1) (by decide)⟩)) c_2 ?_
  have hL2 := c_2.2
  refine tr_s .pop 1 87 [some (.ref 1000), some (.int x1), some (.int x2), some (.int x3), w4] [] h3 rfl rfl rfl ?_
  refine tr_inc 2 1 x2 1 (by decide) rfl rfl rfl ?_
  refine tr_goto (-60) 30 rfl rfl rfl ?_
  exact k
theorem sg_X8_writeRow_81 {g : tr_g} {d : Nat} {h : ev_AH} {r : ev_O × ev_AH} {x1 x2 x4 : Int32} {w3 : Option Value} {h1 : ev_AH} {c0 : Nat} (hL : hh_L h) (c_0 : tr_L g d m_J4_append_cf468 0 [some (.ref 1096), some (.int x4)] [] h (.inl (some (.ref (c0 + 1000))), h1)) (k : tr_L g (d + 1) m_X8_writeRow 30 [some (.ref 1000), some (.int x1), some (.int (x2 + 1)), w3, some (.int x4)] [] h1 r) : tr_L g (d + 1) m_X8_writeRow 81 [some (.ref 1000), some (.int x1), some (.int x2), w3, some (.int x4)] [.ref 1096] h r := by
  refine tr_s (.iload 4) 2 83 [some (.ref 1000), some (.int x1), some (.int x2), w3, some (.int x4)] [.int x4, .ref 1096] h rfl rfl rfl ?_
  refine tr_call (.invokevirtual 369) 369 0 1 9 m_J4_append_cf468 [.ref 1096, .int x4] [] (some (.ref (c0 + 1000))) h1 rfl rfl rfl rfl rfl rfl rfl rfl rfl (tr_cok rfl (Or.inr ⟨_, _, rfl, tr_rc (hh_rd (hh_obj hL (k := 96) rfl).1) (by decide)⟩)) c_0 ?_
  have hL0 := c_0.2
  refine tr_s .pop 1 87 [some (.ref 1000), some (.int x1), some (.int x2), w3, some (.int x4)] [] h1 rfl rfl rfl ?_
  refine tr_inc 2 1 x2 1 (by decide) rfl rfl rfl ?_
  refine tr_goto (-60) 30 rfl rfl rfl ?_
  exact k
theorem sg_X8_writeRow_93 {g : tr_g} {d : Nat} {h : ev_AH} {r : ev_O × ev_AH} {w1 w2 w3 w4 : Option Value} {h1 : ev_AH} {v0 : Int32} (hL : hh_L h) (c_0 : tr_L g d m_J4_length_8abf5 0 [some (.ref 1096)] [] h (.inl (some (.int v0)), h1)) (hr : r = (.inl (some (.int v0)), h1)) : tr_L g (d + 1) m_X8_writeRow 93 [some (.ref 1000), w1, w2, w3, w4] [] h r := by
  refine tr_s (.aload_n 0) 1 94 [some (.ref 1000), w1, w2, w3, w4] [.ref 1000] h rfl rfl rfl ?_
  refine tl_gr hL 67 0 0 9 96 [1001, 1008, 1015, 1080, 1081, 1083, 1086, 1089, 1093, 1096, 1098, 0, 0, 0, 0, 0] rfl rfl rfl rfl ?_
  refine tr_call (.invokevirtual 373) 373 0 0 9 m_J4_length_8abf5 [.ref 1096] [] (some (.int v0)) h1 rfl rfl rfl rfl rfl rfl rfl rfl rfl (tr_cok rfl (Or.inr ⟨_, _, rfl, tr_rc (hh_rd (hh_obj hL (k := 96) rfl).1) (by decide)⟩)) c_0 ?_
  have hL0 := c_0.2
  exact tl_ret hL0 .ireturn 1 (some (.int v0)) rfl rfl rfl rfl hr
theorem sg_X8_digitOf_0 {g : tr_g} {d : Nat} {h : ev_AH} {r : ev_O × ev_AH} {x0 : Int32} (hL : hh_L h) (hc0 : tr_ch (((48 + x0).toUInt32 % 65536).toInt32)) (hr : r = (.inl (some (.int (((48 + x0).toUInt32 % 65536).toInt32))), h)) : tr_L g d m_X8_digitOf 0 [some (.int x0)] [] h r := by
  refine tr_bi 48 48 (by decide) rfl ?_
  refine tr_s (.iload_n 0) 1 3 [some (.int x0)] [.int x0, .int 48] h rfl rfl rfl ?_
  refine tr_s .iadd 1 4 [some (.int x0)] [.int (48 + x0)] h rfl rfl rfl ?_
  refine tr_s .i2c 1 5 [some (.int x0)] [.int (((48 + x0).toUInt32 % 65536).toInt32)] h rfl rfl rfl ?_
  exact tl_ret hL .ireturn 1 (some (.int (((48 + x0).toUInt32 % 65536).toInt32))) rfl rfl rfl (tr_ec rfl hc0) hr
theorem sg_X8_saveSnapshot_0 {g : tr_g} {d : Nat} {h : ev_AH} {r : ev_O × ev_AH} {h1 : ev_AH} (hL : hh_L h) (c_0 : tr_L g d m_X2_copyFrom 0 [some (.ref 1008), some (.ref 1001)] [] h (.inl none, h1)) (hr : r = (.inl (some (.int (hh_i (hh_si h1 0 0 11 1) 1 6))), hh_si h1 0 0 11 1)) : tr_L g (d + 1) m_X8_saveSnapshot 0 [some (.ref 1000)] [] h r := by
  refine tr_s (.aload_n 0) 1 1 [some (.ref 1000)] [.ref 1000] h rfl rfl rfl ?_
  refine tl_gr hL 16 0 0 1 8 [1001, 1008, 1015, 1080, 1081, 1083, 1086, 1089, 1093, 1096, 1098, 0, 0, 0, 0, 0] rfl rfl rfl rfl ?_
  refine tr_s (.aload_n 0) 1 5 [some (.ref 1000)] [.ref 1000, .ref 1008] h rfl rfl rfl ?_
  refine tl_gr hL 10 0 0 0 1 [1001, 1008, 1015, 1080, 1081, 1083, 1086, 1089, 1093, 1096, 1098, 0, 0, 0, 0, 0] rfl rfl rfl rfl ?_
  refine tr_call (.invokevirtual 432) 432 1 1 1 m_X2_copyFrom [.ref 1008, .ref 1001] [] none h1 rfl rfl rfl rfl rfl rfl rfl rfl rfl (tr_cok rfl (Or.inr ⟨_, _, rfl, tr_rc (hh_rd (hh_obj hL (k := 8) rfl).1) (by decide)⟩)) c_0 ?_
  have hL0 := c_0.2
  refine tr_s (.aload_n 0) 1 12 [some (.ref 1000)] [.ref 1000] h1 rfl rfl rfl ?_
  refine tr_ic 1 1 (by decide) rfl ?_
  refine tl_pf hL0 75 0 0 11 [1001, 1008, 1015, 1080, 1081, 1083, 1086, 1089, 1093, 1096, 1098, 0, 0, 0, 0, 0] 1 .boolean rfl rfl rfl rfl rfl (by decide) ?_
  have hL1 := hh_L_si (sl := 11) (x := 1) hL0 (show hh_t[0]? = some (.inr (0, [1001, 1008, 1015, 1080, 1081, 1083, 1086, 1089, 1093, 1096, 1098, 0, 0, 0, 0, 0])) from rfl) rfl
  refine tr_s (.aload_n 0) 1 17 [some (.ref 1000)] [.ref 1000] (hh_si h1 0 0 11 1) rfl rfl rfl ?_
  refine tl_gr hL1 10 0 0 0 1 [1001, 1008, 1015, 1080, 1081, 1083, 1086, 1089, 1093, 1096, 1098, 0, 0, 0, 0, 0] rfl rfl rfl rfl ?_
  refine tl_gi hL1 131 1 1 6 [1002, 1003, 1004, 1005, 1006, 1007, 0, 0, 0, 0, 0, 0, 0, 0] rfl rfl rfl rfl ?_
  exact tl_ret hL1 .ireturn 1 (some (.int (hh_i (hh_si h1 0 0 11 1) 1 6))) rfl rfl rfl rfl hr
theorem sx_X8_setMirror_0_1 {g : tr_g} {d : Nat} {h : ev_AH} {r : ev_O × ev_AH} {x1 x2 : Int32} {h1 hx : ev_AH} {E : Nat} (hL : hh_L h) (cx : tr_L g d m_X8_requireCell 0 [some (.int x1)] [] h (.inr E, hx)) (hr : r = (.inr E, hx)) : tr_L g (d + 1) m_X8_setMirror 0 [some (.ref 1000), some (.int x1), some (.int x2), none] [] h r := by
  refine tr_s (.iload_n 1) 1 1 [some (.ref 1000), some (.int x1), some (.int x2), none] [.int x1] h rfl rfl rfl ?_
  exact tr_callx (.invokestatic 92) 92 2 1 0 m_X8_requireCell [.int x1] [] E hx rfl rfl rfl rfl rfl rfl rfl rfl rfl (tr_cok rfl (Or.inl rfl)) rfl cx hr
theorem sg_X8_setMirror_0 {g : tr_g} {d : Nat} {h : ev_AH} {r : ev_O × ev_AH} {x1 x2 v0 : Int32} {h1 h2 : ev_AH} (hL : hh_L h) (c_0 : tr_L g d m_X8_requireCell 0 [some (.int x1)] [] h (.inl none, h1)) (c_1 : tr_L g d m_X8_isContent 0 [some (.int x2)] [] h1 (.inl (some (.int v0)), h2)) (t : v0 ≠ 0 → tr_L g (d + 1) m_X8_setMirror 21 [some (.ref 1000), some (.int x1), some (.int x2), none] [] h2 r) (f : v0 = 0 → tr_L g (d + 1) m_X8_setMirror 11 [some (.ref 1000), some (.int x1), some (.int x2), none] [] h2 r) : tr_L g (d + 1) m_X8_setMirror 0 [some (.ref 1000), some (.int x1), some (.int x2), none] [] h r := by
  refine tr_s (.iload_n 1) 1 1 [some (.ref 1000), some (.int x1), some (.int x2), none] [.int x1] h rfl rfl rfl ?_
  refine tr_call (.invokestatic 92) 92 2 1 0 m_X8_requireCell [.int x1] [] none h1 rfl rfl rfl rfl rfl rfl rfl rfl rfl (tr_cok rfl (Or.inl rfl)) c_0 ?_
  have hL0 := c_0.2
  refine tr_s (.iload_n 2) 1 5 [some (.ref 1000), some (.int x1), some (.int x2), none] [.int x2] h1 rfl rfl rfl ?_
  refine tr_call (.invokestatic 134) 134 2 1 0 m_X8_isContent [.int x2] [] (some (.int v0)) h2 rfl rfl rfl rfl rfl rfl rfl rfl rfl (tr_cok rfl (Or.inl rfl)) c_1 ?_
  have hL1 := c_1.2
  exact tr_if1 .ne 13 21 v0 rfl rfl rfl (fun hc => t ((tr_ne hc).1 rfl)) (fun hc => f ((tr_ne hc).2 rfl))
theorem sg_X8_setMirror_11 {g : tr_g} {d : Nat} {h : ev_AH} {r : ev_O × ev_AH} {w0 w1 w2 w3 : Option Value} (hL : hh_L h) (hr : r = (.inr 1, hh_x h)) : tr_L g d m_X8_setMirror 11 [w0, w1, w2, w3] [] h r := by
  exact tl_thr hL 100 1 rfl rfl rfl rfl rfl hr
theorem sg_X8_setMirror_21 {g : tr_g} {d : Nat} {h : ev_AH} {r : ev_O × ev_AH} {x1 x2 v0 : Int32} {w3 : Option Value} {h1 : ev_AH} (hL : hh_L h) (c_0 : tr_L g d m_X2_reasonAgainstMirror 0 [some (.ref 1001), some (.int x1)] [] h (.inl (some (.int v0)), h1)) (t : v0 = 0 → tr_L g (d + 1) m_X8_setMirror 57 [some (.ref 1000), some (.int x1), some (.int x2), some (.int v0)] [] h1 r) (f : v0 ≠ 0 → tr_L g (d + 1) m_X8_setMirror 34 [some (.ref 1000), some (.int x1), some (.int x2), some (.int v0)] [] h1 r) : tr_L g (d + 1) m_X8_setMirror 21 [some (.ref 1000), some (.int x1), some (.int x2), w3] [] h r := by
  refine tr_s (.aload_n 0) 1 22 [some (.ref 1000), some (.int x1), some (.int x2), w3] [.ref 1000] h rfl rfl rfl ?_
  refine tl_gr hL 10 0 0 0 1 [1001, 1008, 1015, 1080, 1081, 1083, 1086, 1089, 1093, 1096, 1098, 0, 0, 0, 0, 0] rfl rfl rfl rfl ?_
  refine tr_s (.iload_n 1) 1 26 [some (.ref 1000), some (.int x1), some (.int x2), w3] [.int x1, .ref 1001] h rfl rfl rfl ?_
  refine tr_call (.invokevirtual 140) 140 1 1 1 m_X2_reasonAgainstMirror [.ref 1001, .int x1] [] (some (.int v0)) h1 rfl rfl rfl rfl rfl rfl rfl rfl rfl (tr_cok rfl (Or.inr ⟨_, _, rfl, tr_rc (hh_rd (hh_obj hL (k := 1) rfl).1) (by decide)⟩)) c_0 ?_
  have hL0 := c_0.2
  refine tr_st (.istore_n 3) 1 3 0 (.int v0) rfl rfl rfl rfl rfl rfl rfl ?_
  refine tr_s (.iload_n 3) 1 31 [some (.ref 1000), some (.int x1), some (.int x2), some (.int v0)] [.int v0] h1 rfl rfl rfl ?_
  exact tr_if1 .eq 26 57 v0 rfl rfl rfl (fun hc => t ((tr_eq hc).1 rfl)) (fun hc => f ((tr_eq hc).2 rfl))
theorem sg_X8_setMirror_34 {g : tr_g} {d : Nat} {h : ev_AH} {r : ev_O × ev_AH} {x1 x3 v0 : Int32} {w2 : Option Value} {h1 h2 : ev_AH} (hL : hh_L h) (c_0 : tr_L g d m_X2_findCat 0 [some (.ref 1001), some (.int x1), none] [] h (.inl (some (.int v0)), h1)) (c_1 : tr_L g d m_X8_reject 0 [some (.ref 1000), some (.int x3), some (.int v0)] [] h1 (.inl none, h2)) (hr : r = (.inr 2, hh_x h2)) : tr_L g (d + 1) m_X8_setMirror 34 [some (.ref 1000), some (.int x1), w2, some (.int x3)] [] h r := by
  refine tr_s (.aload_n 0) 1 35 [some (.ref 1000), some (.int x1), w2, some (.int x3)] [.ref 1000] h rfl rfl rfl ?_
  refine tr_s (.iload_n 3) 1 36 [some (.ref 1000), some (.int x1), w2, some (.int x3)] [.int x3, .ref 1000] h rfl rfl rfl ?_
  refine tr_s (.aload_n 0) 1 37 [some (.ref 1000), some (.int x1), w2, some (.int x3)] [.ref 1000, .int x3, .ref 1000] h rfl rfl rfl ?_
  refine tl_gr hL 10 0 0 0 1 [1001, 1008, 1015, 1080, 1081, 1083, 1086, 1089, 1093, 1096, 1098, 0, 0, 0, 0, 0] rfl rfl rfl rfl ?_
  refine tr_s (.iload_n 1) 1 41 [some (.ref 1000), some (.int x1), w2, some (.int x3)] [.int x1, .ref 1001, .int x3, .ref 1000] h rfl rfl rfl ?_
  refine tr_call (.invokevirtual 111) 111 1 1 1 m_X2_findCat [.ref 1001, .int x1] [.int x3, .ref 1000] (some (.int v0)) h1 rfl rfl rfl rfl rfl rfl rfl rfl rfl (tr_cok rfl (Or.inr ⟨_, _, rfl, tr_rc (hh_rd (hh_obj hL (k := 1) rfl).1) (by decide)⟩)) c_0 ?_
  have hL0 := c_0.2
  refine tr_call (.invokevirtual 114) 114 0 2 0 m_X8_reject [.ref 1000, .int x3, .int v0] [] none h2 rfl rfl rfl rfl rfl rfl rfl rfl rfl (tr_cok rfl (Or.inr ⟨_, _, rfl, tr_rc (hh_rd (hh_obj hL0 (k := 0) rfl).1) (by decide)⟩)) c_1 ?_
  have hL1 := c_1.2
  exact tl_thr hL1 118 2 rfl rfl rfl rfl rfl hr
theorem sg_X8_setMirror_57 {g : tr_g} {d : Nat} {h : ev_AH} {r : ev_O × ev_AH} {x1 x2 v0 : Int32} {w3 : Option Value} {h1 h2 h3 : ev_AH} (hL : hh_L h) (c_0 : tr_L g d m_X3_keep 0 [some (.ref 1015), some (.ref 1001)] [] h (.inl none, h1)) (c_1 : tr_L g d m_X2_changeContent 0 [some (.ref 1001), some (.int x1), some (.int x2)] [] h1 (.inl none, h2)) (c_2 : tr_L g d m_X2_countMirrors 0 [some (.ref 1001), none, none, none] [] h2 (.inl (some (.int v0)), h3)) (hr : r = (.inl (some (.int v0)), h3)) : tr_L g (d + 1) m_X8_setMirror 57 [some (.ref 1000), some (.int x1), some (.int x2), w3] [] h r := by
  refine tr_s (.aload_n 0) 1 58 [some (.ref 1000), some (.int x1), some (.int x2), w3] [.ref 1000] h rfl rfl rfl ?_
  refine tl_gr hL 22 0 0 2 15 [1001, 1008, 1015, 1080, 1081, 1083, 1086, 1089, 1093, 1096, 1098, 0, 0, 0, 0, 0] rfl rfl rfl rfl ?_
  refine tr_s (.aload_n 0) 1 62 [some (.ref 1000), some (.int x1), some (.int x2), w3] [.ref 1000, .ref 1015] h rfl rfl rfl ?_
  refine tl_gr hL 10 0 0 0 1 [1001, 1008, 1015, 1080, 1081, 1083, 1086, 1089, 1093, 1096, 1098, 0, 0, 0, 0, 0] rfl rfl rfl rfl ?_
  refine tr_call (.invokevirtual 123) 123 1 1 2 m_X3_keep [.ref 1015, .ref 1001] [] none h1 rfl rfl rfl rfl rfl rfl rfl rfl rfl (tr_cok rfl (Or.inr ⟨_, _, rfl, tr_rc (hh_rd (hh_obj hL (k := 15) rfl).1) (by decide)⟩)) c_0 ?_
  have hL0 := c_0.2
  refine tr_s (.aload_n 0) 1 69 [some (.ref 1000), some (.int x1), some (.int x2), w3] [.ref 1000] h1 rfl rfl rfl ?_
  refine tl_gr hL0 10 0 0 0 1 [1001, 1008, 1015, 1080, 1081, 1083, 1086, 1089, 1093, 1096, 1098, 0, 0, 0, 0, 0] rfl rfl rfl rfl ?_
  refine tr_s (.iload_n 1) 1 73 [some (.ref 1000), some (.int x1), some (.int x2), w3] [.int x1, .ref 1001] h1 rfl rfl rfl ?_
  refine tr_s (.iload_n 2) 1 74 [some (.ref 1000), some (.int x1), some (.int x2), w3] [.int x2, .int x1, .ref 1001] h1 rfl rfl rfl ?_
  refine tr_call (.invokevirtual 145) 145 1 2 1 m_X2_changeContent [.ref 1001, .int x1, .int x2] [] none h2 rfl rfl rfl rfl rfl rfl rfl rfl rfl (tr_cok rfl (Or.inr ⟨_, _, rfl, tr_rc (hh_rd (hh_obj hL0 (k := 1) rfl).1) (by decide)⟩)) c_1 ?_
  have hL1 := c_1.2
  refine tr_s (.aload_n 0) 1 78 [some (.ref 1000), some (.int x1), some (.int x2), w3] [.ref 1000] h2 rfl rfl rfl ?_
  refine tl_gr hL1 10 0 0 0 1 [1001, 1008, 1015, 1080, 1081, 1083, 1086, 1089, 1093, 1096, 1098, 0, 0, 0, 0, 0] rfl rfl rfl rfl ?_
  refine tr_call (.invokevirtual 149) 149 1 0 1 m_X2_countMirrors [.ref 1001] [] (some (.int v0)) h3 rfl rfl rfl rfl rfl rfl rfl rfl rfl (tr_cok rfl (Or.inr ⟨_, _, rfl, tr_rc (hh_rd (hh_obj hL1 (k := 1) rfl).1) (by decide)⟩)) c_2 ?_
  have hL2 := c_2.2
  exact tl_ret hL2 .ireturn 1 (some (.int v0)) rfl rfl rfl rfl hr
theorem sg_X8_requireCell_0 {g : tr_g} {d : Nat} {h : ev_AH} {r : ev_O × ev_AH} {x0 v0 : Int32} {h1 : ev_AH} (hL : hh_L h) (c_0 : tr_L g d m_X8_isCell 0 [some (.int x0)] [] h (.inl (some (.int v0)), h1)) (t : v0 ≠ 0 → tr_L g (d + 1) m_X8_requireCell 18 [some (.int x0)] [] h1 r) (f : v0 = 0 → tr_L g (d + 1) m_X8_requireCell 7 [some (.int x0)] [] h1 r) : tr_L g (d + 1) m_X8_requireCell 0 [some (.int x0)] [] h r := by
  refine tr_s (.iload_n 0) 1 1 [some (.int x0)] [.int x0] h rfl rfl rfl ?_
  refine tr_call (.invokestatic 440) 440 2 1 0 m_X8_isCell [.int x0] [] (some (.int v0)) h1 rfl rfl rfl rfl rfl rfl rfl rfl rfl (tr_cok rfl (Or.inl rfl)) c_0 ?_
  have hL0 := c_0.2
  exact tr_if1 .ne 14 18 v0 rfl rfl rfl (fun hc => t ((tr_ne hc).1 rfl)) (fun hc => f ((tr_ne hc).2 rfl))
theorem sg_X8_requireCell_7 {g : tr_g} {d : Nat} {h : ev_AH} {r : ev_O × ev_AH} {w0 : Option Value} (hL : hh_L h) (hr : r = (.inr 0, hh_x h)) : tr_L g d m_X8_requireCell 7 [w0] [] h r := by
  exact tl_thr hL 358 0 rfl rfl rfl rfl rfl hr
theorem sg_X8_requireCell_18 {g : tr_g} {d : Nat} {h : ev_AH} {r : ev_O × ev_AH} {w0 : Option Value} (hL : hh_L h) (hr : r = (.inl (none), h)) : tr_L g d m_X8_requireCell 18 [w0] [] h r := by
  exact tl_ret hL .return_ 1 none rfl rfl rfl rfl hr
theorem sg_X8_isCell_0 {g : tr_g} {d : Nat} {h : ev_AH} {r : ev_O × ev_AH} {x0 : Int32} (hL : hh_L h) (t : x0 < 0 → tr_L g d m_X8_isCell 14 [some (.int x0)] [] h r) (f : 0 ≤ x0 → tr_L g d m_X8_isCell 4 [some (.int x0)] [] h r) : tr_L g d m_X8_isCell 0 [some (.int x0)] [] h r := by
  refine tr_s (.iload_n 0) 1 1 [some (.int x0)] [.int x0] h rfl rfl rfl ?_
  exact tr_if1 .lt 13 14 x0 rfl rfl rfl (fun hc => t ((tr_lt hc).1 rfl)) (fun hc => f ((tr_lt hc).2 rfl))
theorem sg_X8_isCell_4 {g : tr_g} {d : Nat} {h : ev_AH} {r : ev_O × ev_AH} {x0 : Int32} (hL : hh_L h) (t : 35 ≤ x0 → tr_L g d m_X8_isCell 14 [some (.int x0)] [] h r) (f : x0 < 35 → tr_L g d m_X8_isCell 10 [some (.int x0)] [] h r) : tr_L g d m_X8_isCell 4 [some (.int x0)] [] h r := by
  refine tr_s (.iload_n 0) 1 5 [some (.int x0)] [.int x0] h rfl rfl rfl ?_
  refine tr_bi 35 35 (by decide) rfl ?_
  exact tr_if2 .ge 7 14 x0 35 rfl rfl rfl (fun hc => t ((tr_ge hc).1 rfl)) (fun hc => f ((tr_ge hc).2 rfl))
theorem sg_X8_isCell_10 {g : tr_g} {d : Nat} {h : ev_AH} {r : ev_O × ev_AH} {w0 : Option Value} (hL : hh_L h) (hr : r = (.inl (some (.int 1)), h)) : tr_L g d m_X8_isCell 10 [w0] [] h r := by
  refine tr_ic 1 1 (by decide) rfl ?_
  refine tr_goto 4 15 rfl rfl rfl ?_
  exact tl_ret hL .ireturn 1 (some (.int 1)) rfl rfl rfl rfl hr
theorem sg_X8_isCell_14 {g : tr_g} {d : Nat} {h : ev_AH} {r : ev_O × ev_AH} {w0 : Option Value} (hL : hh_L h) (hr : r = (.inl (some (.int 0)), h)) : tr_L g d m_X8_isCell 14 [w0] [] h r := by
  refine tr_ic 0 0 (by decide) rfl ?_
  exact tl_ret hL .ireturn 1 (some (.int 0)) rfl rfl rfl rfl hr
theorem sg_X8_isContent_0 {g : tr_g} {d : Nat} {h : ev_AH} {r : ev_O × ev_AH} {x0 : Int32} (hL : hh_L h) (t : x0 = 46 → tr_L g d m_X8_isContent 18 [some (.int x0)] [] h r) (f : x0 ≠ 46 → tr_L g d m_X8_isContent 6 [some (.int x0)] [] h r) : tr_L g d m_X8_isContent 0 [some (.int x0)] [] h r := by
  refine tr_s (.iload_n 0) 1 1 [some (.int x0)] [.int x0] h rfl rfl rfl ?_
  refine tr_bi 46 46 (by decide) rfl ?_
  exact tr_if2 .eq 15 18 x0 46 rfl rfl rfl (fun hc => t ((tr_eq hc).1 rfl)) (fun hc => f ((tr_eq hc).2 rfl))
theorem sg_X8_isContent_6 {g : tr_g} {d : Nat} {h : ev_AH} {r : ev_O × ev_AH} {x0 : Int32} (hL : hh_L h) (t : x0 = 47 → tr_L g d m_X8_isContent 18 [some (.int x0)] [] h r) (f : x0 ≠ 47 → tr_L g d m_X8_isContent 12 [some (.int x0)] [] h r) : tr_L g d m_X8_isContent 6 [some (.int x0)] [] h r := by
  refine tr_s (.iload_n 0) 1 7 [some (.int x0)] [.int x0] h rfl rfl rfl ?_
  refine tr_bi 47 47 (by decide) rfl ?_
  exact tr_if2 .eq 9 18 x0 47 rfl rfl rfl (fun hc => t ((tr_eq hc).1 rfl)) (fun hc => f ((tr_eq hc).2 rfl))
theorem sg_X8_isContent_12 {g : tr_g} {d : Nat} {h : ev_AH} {r : ev_O × ev_AH} {x0 : Int32} (hL : hh_L h) (t : x0 ≠ 92 → tr_L g d m_X8_isContent 22 [some (.int x0)] [] h r) (f : x0 = 92 → tr_L g d m_X8_isContent 18 [some (.int x0)] [] h r) : tr_L g d m_X8_isContent 12 [some (.int x0)] [] h r := by
  refine tr_s (.iload_n 0) 1 13 [some (.int x0)] [.int x0] h rfl rfl rfl ?_
  refine tr_bi 92 92 (by decide) rfl ?_
  exact tr_if2 .ne 7 22 x0 92 rfl rfl rfl (fun hc => t ((tr_ne hc).1 rfl)) (fun hc => f ((tr_ne hc).2 rfl))
theorem sg_X8_isContent_18 {g : tr_g} {d : Nat} {h : ev_AH} {r : ev_O × ev_AH} {w0 : Option Value} (hL : hh_L h) (hr : r = (.inl (some (.int 1)), h)) : tr_L g d m_X8_isContent 18 [w0] [] h r := by
  refine tr_ic 1 1 (by decide) rfl ?_
  refine tr_goto 4 23 rfl rfl rfl ?_
  exact tl_ret hL .ireturn 1 (some (.int 1)) rfl rfl rfl rfl hr
theorem sg_X8_isContent_22 {g : tr_g} {d : Nat} {h : ev_AH} {r : ev_O × ev_AH} {w0 : Option Value} (hL : hh_L h) (hr : r = (.inl (some (.int 0)), h)) : tr_L g d m_X8_isContent 22 [w0] [] h r := by
  refine tr_ic 0 0 (by decide) rfl ?_
  exact tl_ret hL .ireturn 1 (some (.int 0)) rfl rfl rfl rfl hr
theorem sg_X8_reject_0 {g : tr_g} {d : Nat} {h : ev_AH} {r : ev_O × ev_AH} {x1 x2 : Int32} (hL : hh_L h) (hr : r = (.inl (none), hh_si (hh_si h 0 0 13 x1) 0 0 14 x2)) : tr_L g d m_X8_reject 0 [some (.ref 1000), some (.int x1), some (.int x2)] [] h r := by
  refine tr_s (.aload_n 0) 1 1 [some (.ref 1000), some (.int x1), some (.int x2)] [.ref 1000] h rfl rfl rfl ?_
  refine tr_s (.iload_n 1) 1 2 [some (.ref 1000), some (.int x1), some (.int x2)] [.int x1, .ref 1000] h rfl rfl rfl ?_
  refine tl_pf hL 83 0 0 13 [1001, 1008, 1015, 1080, 1081, 1083, 1086, 1089, 1093, 1096, 1098, 0, 0, 0, 0, 0] x1 .int rfl rfl rfl rfl rfl tr_oki ?_
  have hL0 := hh_L_si (sl := 13) (x := x1) hL (show hh_t[0]? = some (.inr (0, [1001, 1008, 1015, 1080, 1081, 1083, 1086, 1089, 1093, 1096, 1098, 0, 0, 0, 0, 0])) from rfl) rfl
  refine tr_s (.aload_n 0) 1 6 [some (.ref 1000), some (.int x1), some (.int x2)] [.ref 1000] (hh_si h 0 0 13 x1) rfl rfl rfl ?_
  refine tr_s (.iload_n 2) 1 7 [some (.ref 1000), some (.int x1), some (.int x2)] [.int x2, .ref 1000] (hh_si h 0 0 13 x1) rfl rfl rfl ?_
  refine tl_pf hL0 86 0 0 14 [1001, 1008, 1015, 1080, 1081, 1083, 1086, 1089, 1093, 1096, 1098, 0, 0, 0, 0, 0] x2 .int rfl rfl rfl rfl rfl tr_oki ?_
  have hL1 := hh_L_si (sl := 14) (x := x2) hL0 (show hh_t[0]? = some (.inr (0, [1001, 1008, 1015, 1080, 1081, 1083, 1086, 1089, 1093, 1096, 1098, 0, 0, 0, 0, 0])) from rfl) rfl
  exact tl_ret hL1 .return_ 1 none rfl rfl rfl rfl hr
theorem sx_X8_leastEffort_0_1 {g : tr_g} {d : Nat} {h : ev_AH} {r : ev_O × ev_AH} {x1 x2 : Int32} {h1 hx : ev_AH} {E : Nat} (hL : hh_L h) (cx : tr_L g d m_X8_requirePort 0 [some (.int x1)] [] h (.inr E, hx)) (hr : r = (.inr E, hx)) : tr_L g (d + 1) m_X8_leastEffort 0 [some (.ref 1000), some (.int x1), some (.int x2), none] [] h r := by
  refine tr_s (.iload_n 1) 1 1 [some (.ref 1000), some (.int x1), some (.int x2), none] [.int x1] h rfl rfl rfl ?_
  exact tr_callx (.invokestatic 199) 199 2 1 0 m_X8_requirePort [.int x1] [] E hx rfl rfl rfl rfl rfl rfl rfl rfl rfl (tr_cok rfl (Or.inl rfl)) rfl cx hr
theorem sx_X8_leastEffort_0_6 {g : tr_g} {d : Nat} {h : ev_AH} {r : ev_O × ev_AH} {x1 x2 : Int32} {h1 h2 hx : ev_AH} {E : Nat} (hL : hh_L h) (c_0 : tr_L g d m_X8_requirePort 0 [some (.int x1)] [] h (.inl none, h1)) (cx : tr_L g d m_X8_requireCat 0 [some (.ref 1000), some (.int x2)] [] h1 (.inr E, hx)) (hr : r = (.inr E, hx)) : tr_L g (d + 1) m_X8_leastEffort 0 [some (.ref 1000), some (.int x1), some (.int x2), none] [] h r := by
  refine tr_s (.iload_n 1) 1 1 [some (.ref 1000), some (.int x1), some (.int x2), none] [.int x1] h rfl rfl rfl ?_
  refine tr_call (.invokestatic 199) 199 2 1 0 m_X8_requirePort [.int x1] [] none h1 rfl rfl rfl rfl rfl rfl rfl rfl rfl (tr_cok rfl (Or.inl rfl)) c_0 ?_
  have hL0 := c_0.2
  refine tr_s (.aload_n 0) 1 5 [some (.ref 1000), some (.int x1), some (.int x2), none] [.ref 1000] h1 rfl rfl rfl ?_
  refine tr_s (.iload_n 2) 1 6 [some (.ref 1000), some (.int x1), some (.int x2), none] [.int x2, .ref 1000] h1 rfl rfl rfl ?_
  exact tr_callx (.invokevirtual 153) 153 0 1 0 m_X8_requireCat [.ref 1000, .int x2] [] E hx rfl rfl rfl rfl rfl rfl rfl rfl rfl (tr_cok rfl (Or.inr ⟨_, _, rfl, tr_rc (hh_rd (hh_obj hL0 (k := 0) rfl).1) (by decide)⟩)) rfl cx hr
theorem sg_X8_leastEffort_0 {g : tr_g} {d : Nat} {h : ev_AH} {r : ev_O × ev_AH} {x1 x2 v0 v1 : Int32} {h1 h2 h3 h4 h5 : ev_AH} (hL : hh_L h) (c_0 : tr_L g d m_X8_requirePort 0 [some (.int x1)] [] h (.inl none, h1)) (c_1 : tr_L g d m_X8_requireCat 0 [some (.ref 1000), some (.int x2)] [] h1 (.inl none, h2)) (c_2 : tr_L g d m_X1_searchByQueue 0 [some (.ref 1083), some (.ref 1001), some (.int x1), none] [] h2 (.inl none, h3)) (c_3 : tr_L g d m_X8_at 0 [some (.ref 1003), some (.int x2)] [] h3 (.inl (some (.int v0)), h4)) (c_4 : tr_L g d m_X1_effortInto 0 [some (.ref 1083), some (.int v0), none, none, none] [] h4 (.inl (some (.int v1)), h5)) (t : v1 ≠ 1000 → tr_L g (d + 1) m_X8_leastEffort 57 [some (.ref 1000), some (.int x1), some (.int x2), some (.int v1)] [] h5 r) (f : v1 = 1000 → tr_L g (d + 1) m_X8_leastEffort 47 [some (.ref 1000), some (.int x1), some (.int x2), some (.int v1)] [] h5 r) : tr_L g (d + 1) m_X8_leastEffort 0 [some (.ref 1000), some (.int x1), some (.int x2), none] [] h r := by
  refine tr_s (.iload_n 1) 1 1 [some (.ref 1000), some (.int x1), some (.int x2), none] [.int x1] h rfl rfl rfl ?_
  refine tr_call (.invokestatic 199) 199 2 1 0 m_X8_requirePort [.int x1] [] none h1 rfl rfl rfl rfl rfl rfl rfl rfl rfl (tr_cok rfl (Or.inl rfl)) c_0 ?_
  have hL0 := c_0.2
  refine tr_s (.aload_n 0) 1 5 [some (.ref 1000), some (.int x1), some (.int x2), none] [.ref 1000] h1 rfl rfl rfl ?_
  refine tr_s (.iload_n 2) 1 6 [some (.ref 1000), some (.int x1), some (.int x2), none] [.int x2, .ref 1000] h1 rfl rfl rfl ?_
  refine tr_call (.invokevirtual 153) 153 0 1 0 m_X8_requireCat [.ref 1000, .int x2] [] none h2 rfl rfl rfl rfl rfl rfl rfl rfl rfl (tr_cok rfl (Or.inr ⟨_, _, rfl, tr_rc (hh_rd (hh_obj hL0 (k := 0) rfl).1) (by decide)⟩)) c_1 ?_
  have hL1 := c_1.2
  refine tr_s (.aload_n 0) 1 10 [some (.ref 1000), some (.int x1), some (.int x2), none] [.ref 1000] h2 rfl rfl rfl ?_
  refine tl_gr hL1 43 0 0 5 83 [1001, 1008, 1015, 1080, 1081, 1083, 1086, 1089, 1093, 1096, 1098, 0, 0, 0, 0, 0] rfl rfl rfl rfl ?_
  refine tr_s (.aload_n 0) 1 14 [some (.ref 1000), some (.int x1), some (.int x2), none] [.ref 1000, .ref 1083] h2 rfl rfl rfl ?_
  refine tl_gr hL1 10 0 0 0 1 [1001, 1008, 1015, 1080, 1081, 1083, 1086, 1089, 1093, 1096, 1098, 0, 0, 0, 0, 0] rfl rfl rfl rfl ?_
  refine tr_s (.iload_n 1) 1 18 [some (.ref 1000), some (.int x1), some (.int x2), none] [.int x1, .ref 1001, .ref 1083] h2 rfl rfl rfl ?_
  refine tr_call (.invokevirtual 228) 228 1 2 5 m_X1_searchByQueue [.ref 1083, .ref 1001, .int x1] [] none h3 rfl rfl rfl rfl rfl rfl rfl rfl rfl (tr_cok rfl (Or.inr ⟨_, _, rfl, tr_rc (hh_rd (hh_obj hL1 (k := 83) rfl).1) (by decide)⟩)) c_2 ?_
  have hL2 := c_2.2
  refine tr_s (.aload_n 0) 1 22 [some (.ref 1000), some (.int x1), some (.int x2), none] [.ref 1000] h3 rfl rfl rfl ?_
  refine tl_gr hL2 43 0 0 5 83 [1001, 1008, 1015, 1080, 1081, 1083, 1086, 1089, 1093, 1096, 1098, 0, 0, 0, 0, 0] rfl rfl rfl rfl ?_
  refine tr_s (.aload_n 0) 1 26 [some (.ref 1000), some (.int x1), some (.int x2), none] [.ref 1000, .ref 1083] h3 rfl rfl rfl ?_
  refine tl_gr hL2 10 0 0 0 1 [1001, 1008, 1015, 1080, 1081, 1083, 1086, 1089, 1093, 1096, 1098, 0, 0, 0, 0, 0] rfl rfl rfl rfl ?_
  refine tl_gr hL2 156 1 1 1 3 [1002, 1003, 1004, 1005, 1006, 1007, 0, 0, 0, 0, 0, 0, 0, 0] rfl rfl rfl rfl ?_
  refine tr_s (.iload_n 2) 1 33 [some (.ref 1000), some (.int x1), some (.int x2), none] [.int x2, .ref 1003, .ref 1083] h3 rfl rfl rfl ?_
  refine tr_call (.invokestatic 159) 159 2 2 0 m_X8_at [.ref 1003, .int x2] [.ref 1083] (some (.int v0)) h4 rfl rfl rfl rfl rfl rfl rfl rfl rfl (tr_cok rfl (Or.inl rfl)) c_3 ?_
  have hL3 := c_3.2
  refine tr_call (.invokevirtual 231) 231 1 1 5 m_X1_effortInto [.ref 1083, .int v0] [] (some (.int v1)) h5 rfl rfl rfl rfl rfl rfl rfl rfl rfl (tr_cok rfl (Or.inr ⟨_, _, rfl, tr_rc (hh_rd (hh_obj hL3 (k := 83) rfl).1) (by decide)⟩)) c_4 ?_
  have hL4 := c_4.2
  refine tr_st (.istore_n 3) 1 3 0 (.int v1) rfl rfl rfl rfl rfl rfl rfl ?_
  refine tr_s (.iload_n 3) 1 41 [some (.ref 1000), some (.int x1), some (.int x2), some (.int v1)] [.int v1] h5 rfl rfl rfl ?_
  refine tr_si 1000 1000 (by decide) rfl ?_
  exact tr_if2 .ne 13 57 v1 1000 rfl rfl rfl (fun hc => t ((tr_ne hc).1 rfl)) (fun hc => f ((tr_ne hc).2 rfl))
theorem sg_X8_leastEffort_47 {g : tr_g} {d : Nat} {h : ev_AH} {r : ev_O × ev_AH} {w0 w1 w2 w3 : Option Value} (hL : hh_L h) (hr : r = (.inr 3, hh_x h)) : tr_L g d m_X8_leastEffort 47 [w0, w1, w2, w3] [] h r := by
  exact tl_thr hL 163 3 rfl rfl rfl rfl rfl hr
theorem sg_X8_leastEffort_57 {g : tr_g} {d : Nat} {h : ev_AH} {r : ev_O × ev_AH} {w0 w1 w2 : Option Value} {x3 : Int32} (hL : hh_L h) (hr : r = (.inl (some (.int x3)), h)) : tr_L g d m_X8_leastEffort 57 [w0, w1, w2, some (.int x3)] [] h r := by
  refine tr_s (.iload_n 3) 1 58 [w0, w1, w2, some (.int x3)] [.int x3] h rfl rfl rfl ?_
  exact tl_ret hL .ireturn 1 (some (.int x3)) rfl rfl rfl rfl hr
theorem sg_X8_requirePort_0 {g : tr_g} {d : Nat} {h : ev_AH} {r : ev_O × ev_AH} {x0 v0 : Int32} {h1 : ev_AH} (hL : hh_L h) (c_0 : tr_L g d m_X8_isPort 0 [some (.int x0)] [] h (.inl (some (.int v0)), h1)) (t : v0 ≠ 0 → tr_L g (d + 1) m_X8_requirePort 18 [some (.int x0)] [] h1 r) (f : v0 = 0 → tr_L g (d + 1) m_X8_requirePort 7 [some (.int x0)] [] h1 r) : tr_L g (d + 1) m_X8_requirePort 0 [some (.int x0)] [] h r := by
  refine tr_s (.iload_n 0) 1 1 [some (.int x0)] [.int x0] h rfl rfl rfl ?_
  refine tr_call (.invokestatic 446) 446 2 1 0 m_X8_isPort [.int x0] [] (some (.int v0)) h1 rfl rfl rfl rfl rfl rfl rfl rfl rfl (tr_cok rfl (Or.inl rfl)) c_0 ?_
  have hL0 := c_0.2
  exact tr_if1 .ne 14 18 v0 rfl rfl rfl (fun hc => t ((tr_ne hc).1 rfl)) (fun hc => f ((tr_ne hc).2 rfl))
theorem sg_X8_requirePort_7 {g : tr_g} {d : Nat} {h : ev_AH} {r : ev_O × ev_AH} {w0 : Option Value} (hL : hh_L h) (hr : r = (.inr 1, hh_x h)) : tr_L g d m_X8_requirePort 7 [w0] [] h r := by
  exact tl_thr hL 100 1 rfl rfl rfl rfl rfl hr
theorem sg_X8_requirePort_18 {g : tr_g} {d : Nat} {h : ev_AH} {r : ev_O × ev_AH} {w0 : Option Value} (hL : hh_L h) (hr : r = (.inl (none), h)) : tr_L g d m_X8_requirePort 18 [w0] [] h r := by
  exact tl_ret hL .return_ 1 none rfl rfl rfl rfl hr
theorem sg_X8_isPort_0 {g : tr_g} {d : Nat} {h : ev_AH} {r : ev_O × ev_AH} {x0 : Int32} (hL : hh_L h) (t : x0 < 0 → tr_L g d m_X8_isPort 14 [some (.int x0)] [] h r) (f : 0 ≤ x0 → tr_L g d m_X8_isPort 4 [some (.int x0)] [] h r) : tr_L g d m_X8_isPort 0 [some (.int x0)] [] h r := by
  refine tr_s (.iload_n 0) 1 1 [some (.int x0)] [.int x0] h rfl rfl rfl ?_
  exact tr_if1 .lt 13 14 x0 rfl rfl rfl (fun hc => t ((tr_lt hc).1 rfl)) (fun hc => f ((tr_lt hc).2 rfl))
theorem sg_X8_isPort_4 {g : tr_g} {d : Nat} {h : ev_AH} {r : ev_O × ev_AH} {x0 : Int32} (hL : hh_L h) (t : 24 ≤ x0 → tr_L g d m_X8_isPort 14 [some (.int x0)] [] h r) (f : x0 < 24 → tr_L g d m_X8_isPort 10 [some (.int x0)] [] h r) : tr_L g d m_X8_isPort 4 [some (.int x0)] [] h r := by
  refine tr_s (.iload_n 0) 1 5 [some (.int x0)] [.int x0] h rfl rfl rfl ?_
  refine tr_bi 24 24 (by decide) rfl ?_
  exact tr_if2 .ge 7 14 x0 24 rfl rfl rfl (fun hc => t ((tr_ge hc).1 rfl)) (fun hc => f ((tr_ge hc).2 rfl))
theorem sg_X8_isPort_10 {g : tr_g} {d : Nat} {h : ev_AH} {r : ev_O × ev_AH} {w0 : Option Value} (hL : hh_L h) (hr : r = (.inl (some (.int 1)), h)) : tr_L g d m_X8_isPort 10 [w0] [] h r := by
  refine tr_ic 1 1 (by decide) rfl ?_
  refine tr_goto 4 15 rfl rfl rfl ?_
  exact tl_ret hL .ireturn 1 (some (.int 1)) rfl rfl rfl rfl hr
theorem sg_X8_isPort_14 {g : tr_g} {d : Nat} {h : ev_AH} {r : ev_O × ev_AH} {w0 : Option Value} (hL : hh_L h) (hr : r = (.inl (some (.int 0)), h)) : tr_L g d m_X8_isPort 14 [w0] [] h r := by
  refine tr_ic 0 0 (by decide) rfl ?_
  exact tl_ret hL .ireturn 1 (some (.int 0)) rfl rfl rfl rfl hr
theorem sg_X8_requireCat_0 {g : tr_g} {d : Nat} {h : ev_AH} {r : ev_O × ev_AH} {x1 : Int32} (hL : hh_L h) (t : x1 < 0 → tr_L g d m_X8_requireCat 15 [some (.ref 1000), some (.int x1)] [] h r) (f : 0 ≤ x1 → tr_L g d m_X8_requireCat 4 [some (.ref 1000), some (.int x1)] [] h r) : tr_L g d m_X8_requireCat 0 [some (.ref 1000), some (.int x1)] [] h r := by
  refine tr_s (.iload_n 1) 1 1 [some (.ref 1000), some (.int x1)] [.int x1] h rfl rfl rfl ?_
  exact tr_if1 .lt 14 15 x1 rfl rfl rfl (fun hc => t ((tr_lt hc).1 rfl)) (fun hc => f ((tr_lt hc).2 rfl))
theorem sg_X8_requireCat_4 {g : tr_g} {d : Nat} {h : ev_AH} {r : ev_O × ev_AH} {x1 : Int32} (hL : hh_L h) (t : x1 < (hh_i h 1 6) → tr_L g d m_X8_requireCat 26 [some (.ref 1000), some (.int x1)] [] h r) (f : (hh_i h 1 6) ≤ x1 → tr_L g d m_X8_requireCat 15 [some (.ref 1000), some (.int x1)] [] h r) : tr_L g d m_X8_requireCat 4 [some (.ref 1000), some (.int x1)] [] h r := by
  refine tr_s (.iload_n 1) 1 5 [some (.ref 1000), some (.int x1)] [.int x1] h rfl rfl rfl ?_
  refine tr_s (.aload_n 0) 1 6 [some (.ref 1000), some (.int x1)] [.ref 1000, .int x1] h rfl rfl rfl ?_
  refine tl_gr hL 10 0 0 0 1 [1001, 1008, 1015, 1080, 1081, 1083, 1086, 1089, 1093, 1096, 1098, 0, 0, 0, 0, 0] rfl rfl rfl rfl ?_
  refine tl_gi hL 131 1 1 6 [1002, 1003, 1004, 1005, 1006, 1007, 0, 0, 0, 0, 0, 0, 0, 0] rfl rfl rfl rfl ?_
  exact tr_if2 .lt 14 26 x1 (hh_i h 1 6) rfl rfl rfl (fun hc => t ((tr_lt hc).1 rfl)) (fun hc => f ((tr_lt hc).2 rfl))
theorem sg_X8_requireCat_15 {g : tr_g} {d : Nat} {h : ev_AH} {r : ev_O × ev_AH} {w0 w1 : Option Value} (hL : hh_L h) (hr : r = (.inr 0, hh_x h)) : tr_L g d m_X8_requireCat 15 [w0, w1] [] h r := by
  exact tl_thr hL 358 0 rfl rfl rfl rfl rfl hr
theorem sg_X8_requireCat_26 {g : tr_g} {d : Nat} {h : ev_AH} {r : ev_O × ev_AH} {w0 w1 : Option Value} (hL : hh_L h) (hr : r = (.inl (none), h)) : tr_L g d m_X8_requireCat 26 [w0, w1] [] h r := by
  exact tl_ret hL .return_ 1 none rfl rfl rfl rfl hr
theorem sg_X8_portByLength_0 {g : tr_g} {d : Nat} {h : ev_AH} {r : ev_O × ev_AH} {x1 : Int32} (hL : hh_L h) (t : x1 < 0 → tr_L g d m_X8_portByLength 10 [some (.ref 1000), some (.int x1), none, none] [] h r) (f : 0 ≤ x1 → tr_L g d m_X8_portByLength 4 [some (.ref 1000), some (.int x1), none, none] [] h r) : tr_L g d m_X8_portByLength 0 [some (.ref 1000), some (.int x1), none, none] [] h r := by
  refine tr_s (.iload_n 1) 1 1 [some (.ref 1000), some (.int x1), none, none] [.int x1] h rfl rfl rfl ?_
  exact tr_if1 .lt 9 10 x1 rfl rfl rfl (fun hc => t ((tr_lt hc).1 rfl)) (fun hc => f ((tr_lt hc).2 rfl))
theorem sg_X8_portByLength_4 {g : tr_g} {d : Nat} {h : ev_AH} {r : ev_O × ev_AH} {x1 : Int32} {w2 w3 : Option Value} (hL : hh_L h) (t : x1 < 24 → tr_L g d m_X8_portByLength 20 [some (.ref 1000), some (.int x1), w2, w3] [] h r) (f : 24 ≤ x1 → tr_L g d m_X8_portByLength 10 [some (.ref 1000), some (.int x1), w2, w3] [] h r) : tr_L g d m_X8_portByLength 4 [some (.ref 1000), some (.int x1), w2, w3] [] h r := by
  refine tr_s (.iload_n 1) 1 5 [some (.ref 1000), some (.int x1), w2, w3] [.int x1] h rfl rfl rfl ?_
  refine tr_bi 24 24 (by decide) rfl ?_
  exact tr_if2 .lt 13 20 x1 24 rfl rfl rfl (fun hc => t ((tr_lt hc).1 rfl)) (fun hc => f ((tr_lt hc).2 rfl))
theorem sg_X8_portByLength_10 {g : tr_g} {d : Nat} {h : ev_AH} {r : ev_O × ev_AH} {w0 w1 w2 w3 : Option Value} (hL : hh_L h) (hr : r = (.inr 3, hh_x h)) : tr_L g d m_X8_portByLength 10 [w0, w1, w2, w3] [] h r := by
  exact tl_thr hL 163 3 rfl rfl rfl rfl rfl hr
theorem sg_X8_portByLength_20 {g : tr_g} {d : Nat} {h : ev_AH} {r : ev_O × ev_AH} {x1 : Int32} {w2 w3 : Option Value} (hL : hh_L h) (k : tr_L g d m_X8_portByLength 22 [some (.ref 1000), some (.int x1), some (.int 0), w3] [] h r) : tr_L g d m_X8_portByLength 20 [some (.ref 1000), some (.int x1), w2, w3] [] h r := by
  refine tr_ic 0 0 (by decide) rfl ?_
  refine tr_st (.istore_n 2) 1 2 0 (.int 0) rfl rfl rfl rfl rfl rfl rfl ?_
  exact k
theorem sg_X8_portByLength_22 {g : tr_g} {d : Nat} {h : ev_AH} {r : ev_O × ev_AH} {x1 x2 : Int32} {w3 : Option Value} (hL : hh_L h) (t : 24 ≤ x2 → tr_L g d m_X8_portByLength 61 [some (.ref 1000), some (.int x1), some (.int x2), w3] [] h r) (f : x2 < 24 → tr_L g d m_X8_portByLength 28 [some (.ref 1000), some (.int x1), some (.int x2), w3] [] h r) : tr_L g d m_X8_portByLength 22 [some (.ref 1000), some (.int x1), some (.int x2), w3] [] h r := by
  refine tr_s (.iload_n 2) 1 23 [some (.ref 1000), some (.int x1), some (.int x2), w3] [.int x2] h rfl rfl rfl ?_
  refine tr_bi 24 24 (by decide) rfl ?_
  exact tr_if2 .ge 36 61 x2 24 rfl rfl rfl (fun hc => t ((tr_ge hc).1 rfl)) (fun hc => f ((tr_ge hc).2 rfl))
theorem sg_X8_portByLength_28 {g : tr_g} {d : Nat} {h : ev_AH} {r : ev_O × ev_AH} {x1 x2 : Int32} {w3 : Option Value} {h1 h2 : ev_AH} (hL : hh_L h) (c_0 : tr_L g d m_X5_follow 0 [some (.ref 1080), some (.ref 1001), some (.int x2), none, none, none, none, none] [] h (.inl none, h1)) (c_1 : tr_L g d m_X8_put 0 [some (.ref 1098), some (.int x2), some (.int (hh_i h1 80 2))] [] h1 (.inl none, h2)) (k : tr_L g (d + 1) m_X8_portByLength 22 [some (.ref 1000), some (.int x1), some (.int (x2 + 1)), w3] [] h2 r) : tr_L g (d + 1) m_X8_portByLength 28 [some (.ref 1000), some (.int x1), some (.int x2), w3] [] h r := by
  refine tr_s (.aload_n 0) 1 29 [some (.ref 1000), some (.int x1), some (.int x2), w3] [.ref 1000] h rfl rfl rfl ?_
  refine tl_gr hL 29 0 0 3 80 [1001, 1008, 1015, 1080, 1081, 1083, 1086, 1089, 1093, 1096, 1098, 0, 0, 0, 0, 0] rfl rfl rfl rfl ?_
  refine tr_s (.aload_n 0) 1 33 [some (.ref 1000), some (.int x1), some (.int x2), w3] [.ref 1000, .ref 1080] h rfl rfl rfl ?_
  refine tl_gr hL 10 0 0 0 1 [1001, 1008, 1015, 1080, 1081, 1083, 1086, 1089, 1093, 1096, 1098, 0, 0, 0, 0, 0] rfl rfl rfl rfl ?_
  refine tr_s (.iload_n 2) 1 37 [some (.ref 1000), some (.int x1), some (.int x2), w3] [.int x2, .ref 1001, .ref 1080] h rfl rfl rfl ?_
  refine tr_call (.invokevirtual 202) 202 1 2 3 m_X5_follow [.ref 1080, .ref 1001, .int x2] [] none h1 rfl rfl rfl rfl rfl rfl rfl rfl rfl (tr_cok rfl (Or.inr ⟨_, _, rfl, tr_rc (hh_rd (hh_obj hL (k := 80) rfl).1) (by decide)⟩)) c_0 ?_
  have hL0 := c_0.2
  refine tr_s (.aload_n 0) 1 41 [some (.ref 1000), some (.int x1), some (.int x2), w3] [.ref 1000] h1 rfl rfl rfl ?_
  refine tl_gr hL0 71 0 0 10 98 [1001, 1008, 1015, 1080, 1081, 1083, 1086, 1089, 1093, 1096, 1098, 0, 0, 0, 0, 0] rfl rfl rfl rfl ?_
  refine tr_s (.iload_n 2) 1 45 [some (.ref 1000), some (.int x1), some (.int x2), w3] [.int x2, .ref 1098] h1 rfl rfl rfl ?_
  refine tr_s (.aload_n 0) 1 46 [some (.ref 1000), some (.int x1), some (.int x2), w3] [.ref 1000, .int x2, .ref 1098] h1 rfl rfl rfl ?_
  refine tl_gr hL0 29 0 0 3 80 [1001, 1008, 1015, 1080, 1081, 1083, 1086, 1089, 1093, 1096, 1098, 0, 0, 0, 0, 0] rfl rfl rfl rfl ?_
  refine tl_gi hL0 222 80 3 2 [0, 0, 0, 0] rfl rfl rfl rfl ?_
  refine tr_call (.invokestatic 241) 241 2 3 0 m_X8_put [.ref 1098, .int x2, .int (hh_i h1 80 2)] [] none h2 rfl rfl rfl rfl rfl rfl rfl rfl rfl (tr_cok rfl (Or.inl rfl)) c_1 ?_
  have hL1 := c_1.2
  refine tr_inc 2 1 x2 1 (by decide) rfl rfl rfl ?_
  refine tr_goto (-36) 22 rfl rfl rfl ?_
  exact k
theorem sg_X8_portByLength_61 {g : tr_g} {d : Nat} {h : ev_AH} {r : ev_O × ev_AH} {x1 : Int32} {w2 w3 : Option Value} (hL : hh_L h) (k : tr_L g d m_X8_portByLength 65 [some (.ref 1000), some (.int x1), some (.int 0), some (.int 0)] [] h r) : tr_L g d m_X8_portByLength 61 [some (.ref 1000), some (.int x1), w2, w3] [] h r := by
  refine tr_ic 0 0 (by decide) rfl ?_
  refine tr_st (.istore_n 2) 1 2 0 (.int 0) rfl rfl rfl rfl rfl rfl rfl ?_
  refine tr_ic 0 0 (by decide) rfl ?_
  refine tr_st (.istore_n 3) 1 3 0 (.int 0) rfl rfl rfl rfl rfl rfl rfl ?_
  exact k
theorem sg_X8_portByLength_65 {g : tr_g} {d : Nat} {h : ev_AH} {r : ev_O × ev_AH} {x1 x2 x3 : Int32} (hL : hh_L h) (t : 24 ≤ x3 → tr_L g d m_X8_portByLength 88 [some (.ref 1000), some (.int x1), some (.int x2), some (.int x3)] [] h r) (f : x3 < 24 → tr_L g d m_X8_portByLength 71 [some (.ref 1000), some (.int x1), some (.int x2), some (.int x3)] [] h r) : tr_L g d m_X8_portByLength 65 [some (.ref 1000), some (.int x1), some (.int x2), some (.int x3)] [] h r := by
  refine tr_s (.iload_n 3) 1 66 [some (.ref 1000), some (.int x1), some (.int x2), some (.int x3)] [.int x3] h rfl rfl rfl ?_
  refine tr_bi 24 24 (by decide) rfl ?_
  exact tr_if2 .ge 20 88 x3 24 rfl rfl rfl (fun hc => t ((tr_ge hc).1 rfl)) (fun hc => f ((tr_ge hc).2 rfl))
theorem sg_X8_portByLength_71 {g : tr_g} {d : Nat} {h : ev_AH} {r : ev_O × ev_AH} {x1 x2 x3 v0 : Int32} {h1 : ev_AH} (hL : hh_L h) (c_0 : tr_L g d m_X8_portsAhead 0 [some (.ref 1000), some (.int x3), none, none, none, none] [] h (.inl (some (.int v0)), h1)) (t : v0 ≠ x1 → tr_L g (d + 1) m_X8_portByLength 82 [some (.ref 1000), some (.int x1), some (.int x2), some (.int x3)] [] h1 r) (f : v0 = x1 → tr_L g (d + 1) m_X8_portByLength 80 [some (.ref 1000), some (.int x1), some (.int x2), some (.int x3)] [] h1 r) : tr_L g (d + 1) m_X8_portByLength 71 [some (.ref 1000), some (.int x1), some (.int x2), some (.int x3)] [] h r := by
  refine tr_s (.aload_n 0) 1 72 [some (.ref 1000), some (.int x1), some (.int x2), some (.int x3)] [.ref 1000] h rfl rfl rfl ?_
  refine tr_s (.iload_n 3) 1 73 [some (.ref 1000), some (.int x1), some (.int x2), some (.int x3)] [.int x3, .ref 1000] h rfl rfl rfl ?_
  refine tr_call (.invokevirtual 245) 245 0 1 0 m_X8_portsAhead [.ref 1000, .int x3] [] (some (.int v0)) h1 rfl rfl rfl rfl rfl rfl rfl rfl rfl (tr_cok rfl (Or.inr ⟨_, _, rfl, tr_rc (hh_rd (hh_obj hL (k := 0) rfl).1) (by decide)⟩)) c_0 ?_
  have hL0 := c_0.2
  refine tr_s (.iload_n 1) 1 77 [some (.ref 1000), some (.int x1), some (.int x2), some (.int x3)] [.int x1, .int v0] h1 rfl rfl rfl ?_
  exact tr_if2 .ne 5 82 v0 x1 rfl rfl rfl (fun hc => t ((tr_ne hc).1 rfl)) (fun hc => f ((tr_ne hc).2 rfl))
theorem sg_X8_portByLength_80 {g : tr_g} {d : Nat} {h : ev_AH} {r : ev_O × ev_AH} {x1 x3 : Int32} {w2 : Option Value} (hL : hh_L h) (k : tr_L g d m_X8_portByLength 65 [some (.ref 1000), some (.int x1), some (.int x3), some (.int (x3 + 1))] [] h r) : tr_L g d m_X8_portByLength 80 [some (.ref 1000), some (.int x1), w2, some (.int x3)] [] h r := by
  refine tr_s (.iload_n 3) 1 81 [some (.ref 1000), some (.int x1), w2, some (.int x3)] [.int x3] h rfl rfl rfl ?_
  refine tr_st (.istore_n 2) 1 2 0 (.int x3) rfl rfl rfl rfl rfl rfl rfl ?_
  refine tr_inc 3 1 x3 1 (by decide) rfl rfl rfl ?_
  refine tr_goto (-20) 65 rfl rfl rfl ?_
  exact k
theorem sg_X8_portByLength_82 {g : tr_g} {d : Nat} {h : ev_AH} {r : ev_O × ev_AH} {x1 x2 x3 : Int32} (hL : hh_L h) (k : tr_L g d m_X8_portByLength 65 [some (.ref 1000), some (.int x1), some (.int x2), some (.int (x3 + 1))] [] h r) : tr_L g d m_X8_portByLength 82 [some (.ref 1000), some (.int x1), some (.int x2), some (.int x3)] [] h r := by
  refine tr_inc 3 1 x3 1 (by decide) rfl rfl rfl ?_
  refine tr_goto (-20) 65 rfl rfl rfl ?_
  exact k
theorem sg_X8_portByLength_88 {g : tr_g} {d : Nat} {h : ev_AH} {r : ev_O × ev_AH} {w0 w1 w3 : Option Value} {x2 : Int32} (hL : hh_L h) (hr : r = (.inl (some (.int x2)), h)) : tr_L g d m_X8_portByLength 88 [w0, w1, some (.int x2), w3] [] h r := by
  refine tr_s (.iload_n 2) 1 89 [w0, w1, some (.int x2), w3] [.int x2] h rfl rfl rfl ?_
  exact tl_ret hL .ireturn 1 (some (.int x2)) rfl rfl rfl rfl hr
theorem sg_X8_portsAhead_0 {g : tr_g} {d : Nat} {h : ev_AH} {r : ev_O × ev_AH} {x1 v0 : Int32} {h1 : ev_AH} (hL : hh_L h) (c_0 : tr_L g d m_X8_at 0 [some (.ref 1098), some (.int x1)] [] h (.inl (some (.int v0)), h1)) (k : tr_L g (d + 1) m_X8_portsAhead 14 [some (.ref 1000), some (.int x1), some (.int v0), some (.int 0), some (.int 0), none] [] h1 r) : tr_L g (d + 1) m_X8_portsAhead 0 [some (.ref 1000), some (.int x1), none, none, none, none] [] h r := by
  refine tr_s (.aload_n 0) 1 1 [some (.ref 1000), some (.int x1), none, none, none, none] [.ref 1000] h rfl rfl rfl ?_
  refine tl_gr hL 71 0 0 10 98 [1001, 1008, 1015, 1080, 1081, 1083, 1086, 1089, 1093, 1096, 1098, 0, 0, 0, 0, 0] rfl rfl rfl rfl ?_
  refine tr_s (.iload_n 1) 1 5 [some (.ref 1000), some (.int x1), none, none, none, none] [.int x1, .ref 1098] h rfl rfl rfl ?_
  refine tr_call (.invokestatic 159) 159 2 2 0 m_X8_at [.ref 1098, .int x1] [] (some (.int v0)) h1 rfl rfl rfl rfl rfl rfl rfl rfl rfl (tr_cok rfl (Or.inl rfl)) c_0 ?_
  have hL0 := c_0.2
  refine tr_st (.istore_n 2) 1 2 0 (.int v0) rfl rfl rfl rfl rfl rfl rfl ?_
  refine tr_ic 0 0 (by decide) rfl ?_
  refine tr_st (.istore_n 3) 1 3 0 (.int 0) rfl rfl rfl rfl rfl rfl rfl ?_
  refine tr_ic 0 0 (by decide) rfl ?_
  refine tr_st (.istore 4) 2 4 0 (.int 0) rfl rfl rfl rfl rfl rfl rfl ?_
  exact k
theorem sg_X8_portsAhead_14 {g : tr_g} {d : Nat} {h : ev_AH} {r : ev_O × ev_AH} {x1 x2 x3 x4 : Int32} {w5 : Option Value} (hL : hh_L h) (t : 24 ≤ x4 → tr_L g d m_X8_portsAhead 59 [some (.ref 1000), some (.int x1), some (.int x2), some (.int x3), some (.int x4), w5] [] h r) (f : x4 < 24 → tr_L g d m_X8_portsAhead 21 [some (.ref 1000), some (.int x1), some (.int x2), some (.int x3), some (.int x4), w5] [] h r) : tr_L g d m_X8_portsAhead 14 [some (.ref 1000), some (.int x1), some (.int x2), some (.int x3), some (.int x4), w5] [] h r := by
  refine tr_s (.iload 4) 2 16 [some (.ref 1000), some (.int x1), some (.int x2), some (.int x3), some (.int x4), w5] [.int x4] h rfl rfl rfl ?_
  refine tr_bi 24 24 (by decide) rfl ?_
  exact tr_if2 .ge 41 59 x4 24 rfl rfl rfl (fun hc => t ((tr_ge hc).1 rfl)) (fun hc => f ((tr_ge hc).2 rfl))
theorem sg_X8_portsAhead_21 {g : tr_g} {d : Nat} {h : ev_AH} {r : ev_O × ev_AH} {x1 x2 x3 x4 v0 : Int32} {w5 : Option Value} {h1 : ev_AH} (hL : hh_L h) (c_0 : tr_L g d m_X8_at 0 [some (.ref 1098), some (.int x4)] [] h (.inl (some (.int v0)), h1)) (t : x2 < v0 → tr_L g (d + 1) m_X8_portsAhead 50 [some (.ref 1000), some (.int x1), some (.int x2), some (.int x3), some (.int x4), some (.int v0)] [] h1 r) (f : v0 ≤ x2 → tr_L g (d + 1) m_X8_portsAhead 38 [some (.ref 1000), some (.int x1), some (.int x2), some (.int x3), some (.int x4), some (.int v0)] [] h1 r) : tr_L g (d + 1) m_X8_portsAhead 21 [some (.ref 1000), some (.int x1), some (.int x2), some (.int x3), some (.int x4), w5] [] h r := by
  refine tr_s (.aload_n 0) 1 22 [some (.ref 1000), some (.int x1), some (.int x2), some (.int x3), some (.int x4), w5] [.ref 1000] h rfl rfl rfl ?_
  refine tl_gr hL 71 0 0 10 98 [1001, 1008, 1015, 1080, 1081, 1083, 1086, 1089, 1093, 1096, 1098, 0, 0, 0, 0, 0] rfl rfl rfl rfl ?_
  refine tr_s (.iload 4) 2 27 [some (.ref 1000), some (.int x1), some (.int x2), some (.int x3), some (.int x4), w5] [.int x4, .ref 1098] h rfl rfl rfl ?_
  refine tr_call (.invokestatic 159) 159 2 2 0 m_X8_at [.ref 1098, .int x4] [] (some (.int v0)) h1 rfl rfl rfl rfl rfl rfl rfl rfl rfl (tr_cok rfl (Or.inl rfl)) c_0 ?_
  have hL0 := c_0.2
  refine tr_st (.istore 5) 2 5 0 (.int v0) rfl rfl rfl rfl rfl rfl rfl ?_
  refine tr_s (.iload 5) 2 34 [some (.ref 1000), some (.int x1), some (.int x2), some (.int x3), some (.int x4), some (.int v0)] [.int v0] h1 rfl rfl rfl ?_
  refine tr_s (.iload_n 2) 1 35 [some (.ref 1000), some (.int x1), some (.int x2), some (.int x3), some (.int x4), some (.int v0)] [.int x2, .int v0] h1 rfl rfl rfl ?_
  exact tr_if2 .gt 15 50 v0 x2 rfl rfl rfl (fun hc => t ((tr_gt hc).1 rfl)) (fun hc => f ((tr_gt hc).2 rfl))
theorem sg_X8_portsAhead_38 {g : tr_g} {d : Nat} {h : ev_AH} {r : ev_O × ev_AH} {x1 x2 x3 x4 x5 : Int32} (hL : hh_L h) (t : x5 ≠ x2 → tr_L g d m_X8_portsAhead 53 [some (.ref 1000), some (.int x1), some (.int x2), some (.int x3), some (.int x4), some (.int x5)] [] h r) (f : x5 = x2 → tr_L g d m_X8_portsAhead 44 [some (.ref 1000), some (.int x1), some (.int x2), some (.int x3), some (.int x4), some (.int x5)] [] h r) : tr_L g d m_X8_portsAhead 38 [some (.ref 1000), some (.int x1), some (.int x2), some (.int x3), some (.int x4), some (.int x5)] [] h r := by
  refine tr_s (.iload 5) 2 40 [some (.ref 1000), some (.int x1), some (.int x2), some (.int x3), some (.int x4), some (.int x5)] [.int x5] h rfl rfl rfl ?_
  refine tr_s (.iload_n 2) 1 41 [some (.ref 1000), some (.int x1), some (.int x2), some (.int x3), some (.int x4), some (.int x5)] [.int x2, .int x5] h rfl rfl rfl ?_
  exact tr_if2 .ne 12 53 x5 x2 rfl rfl rfl (fun hc => t ((tr_ne hc).1 rfl)) (fun hc => f ((tr_ne hc).2 rfl))
theorem sg_X8_portsAhead_44 {g : tr_g} {d : Nat} {h : ev_AH} {r : ev_O × ev_AH} {x1 x2 x3 x4 : Int32} {w5 : Option Value} (hL : hh_L h) (t : x1 ≤ x4 → tr_L g d m_X8_portsAhead 53 [some (.ref 1000), some (.int x1), some (.int x2), some (.int x3), some (.int x4), w5] [] h r) (f : x4 < x1 → tr_L g d m_X8_portsAhead 50 [some (.ref 1000), some (.int x1), some (.int x2), some (.int x3), some (.int x4), w5] [] h r) : tr_L g d m_X8_portsAhead 44 [some (.ref 1000), some (.int x1), some (.int x2), some (.int x3), some (.int x4), w5] [] h r := by
  refine tr_s (.iload 4) 2 46 [some (.ref 1000), some (.int x1), some (.int x2), some (.int x3), some (.int x4), w5] [.int x4] h rfl rfl rfl ?_
  refine tr_s (.iload_n 1) 1 47 [some (.ref 1000), some (.int x1), some (.int x2), some (.int x3), some (.int x4), w5] [.int x1, .int x4] h rfl rfl rfl ?_
  exact tr_if2 .ge 6 53 x4 x1 rfl rfl rfl (fun hc => t ((tr_ge hc).1 rfl)) (fun hc => f ((tr_ge hc).2 rfl))
theorem sg_X8_portsAhead_50 {g : tr_g} {d : Nat} {h : ev_AH} {r : ev_O × ev_AH} {x1 x2 x3 x4 : Int32} {w5 : Option Value} (hL : hh_L h) (k : tr_L g d m_X8_portsAhead 14 [some (.ref 1000), some (.int x1), some (.int x2), some (.int (x3 + 1)), some (.int (x4 + 1)), w5] [] h r) : tr_L g d m_X8_portsAhead 50 [some (.ref 1000), some (.int x1), some (.int x2), some (.int x3), some (.int x4), w5] [] h r := by
  refine tr_inc 3 1 x3 1 (by decide) rfl rfl rfl ?_
  refine tr_inc 4 1 x4 1 (by decide) rfl rfl rfl ?_
  refine tr_goto (-42) 14 rfl rfl rfl ?_
  exact k
theorem sg_X8_portsAhead_53 {g : tr_g} {d : Nat} {h : ev_AH} {r : ev_O × ev_AH} {x1 x2 x3 x4 : Int32} {w5 : Option Value} (hL : hh_L h) (k : tr_L g d m_X8_portsAhead 14 [some (.ref 1000), some (.int x1), some (.int x2), some (.int x3), some (.int (x4 + 1)), w5] [] h r) : tr_L g d m_X8_portsAhead 53 [some (.ref 1000), some (.int x1), some (.int x2), some (.int x3), some (.int x4), w5] [] h r := by
  refine tr_inc 4 1 x4 1 (by decide) rfl rfl rfl ?_
  refine tr_goto (-42) 14 rfl rfl rfl ?_
  exact k
theorem sg_X8_portsAhead_59 {g : tr_g} {d : Nat} {h : ev_AH} {r : ev_O × ev_AH} {w0 w1 w2 w4 w5 : Option Value} {x3 : Int32} (hL : hh_L h) (hr : r = (.inl (some (.int x3)), h)) : tr_L g d m_X8_portsAhead 59 [w0, w1, w2, some (.int x3), w4, w5] [] h r := by
  refine tr_s (.iload_n 3) 1 60 [w0, w1, w2, some (.int x3), w4, w5] [.int x3] h rfl rfl rfl ?_
  exact tl_ret hL .ireturn 1 (some (.int x3)) rfl rfl rfl rfl hr
theorem sx_X8_testify_0_1 {g : tr_g} {d : Nat} {h : ev_AH} {r : ev_O × ev_AH} {x1 x2 : Int32} {h1 hx : ev_AH} {E : Nat} (hL : hh_L h) (cx : tr_L g d m_X8_requirePort 0 [some (.int x1)] [] h (.inr E, hx)) (hr : r = (.inr E, hx)) : tr_L g (d + 1) m_X8_testify 0 [some (.ref 1000), some (.int x1), some (.int x2)] [] h r := by
  refine tr_s (.iload_n 1) 1 1 [some (.ref 1000), some (.int x1), some (.int x2)] [.int x1] h rfl rfl rfl ?_
  exact tr_callx (.invokestatic 199) 199 2 1 0 m_X8_requirePort [.int x1] [] E hx rfl rfl rfl rfl rfl rfl rfl rfl rfl (tr_cok rfl (Or.inl rfl)) rfl cx hr
theorem sx_X8_testify_0_5 {g : tr_g} {d : Nat} {h : ev_AH} {r : ev_O × ev_AH} {x1 x2 : Int32} {h1 h2 hx : ev_AH} {E : Nat} (hL : hh_L h) (c_0 : tr_L g d m_X8_requirePort 0 [some (.int x1)] [] h (.inl none, h1)) (cx : tr_L g d m_X8_requireOption 0 [some (.int x2)] [] h1 (.inr E, hx)) (hr : r = (.inr E, hx)) : tr_L g (d + 1) m_X8_testify 0 [some (.ref 1000), some (.int x1), some (.int x2)] [] h r := by
  refine tr_s (.iload_n 1) 1 1 [some (.ref 1000), some (.int x1), some (.int x2)] [.int x1] h rfl rfl rfl ?_
  refine tr_call (.invokestatic 199) 199 2 1 0 m_X8_requirePort [.int x1] [] none h1 rfl rfl rfl rfl rfl rfl rfl rfl rfl (tr_cok rfl (Or.inl rfl)) c_0 ?_
  have hL0 := c_0.2
  refine tr_s (.iload_n 2) 1 5 [some (.ref 1000), some (.int x1), some (.int x2)] [.int x2] h1 rfl rfl rfl ?_
  exact tr_callx (.invokestatic 185) 185 2 1 0 m_X8_requireOption [.int x2] [] E hx rfl rfl rfl rfl rfl rfl rfl rfl rfl (tr_cok rfl (Or.inl rfl)) rfl cx hr
theorem sg_X8_testify_0 {g : tr_g} {d : Nat} {h : ev_AH} {r : ev_O × ev_AH} {x1 x2 : Int32} {h1 h2 h3 : ev_AH} (hL : hh_L h) (c_0 : tr_L g d m_X8_requirePort 0 [some (.int x1)] [] h (.inl none, h1)) (c_1 : tr_L g d m_X8_requireOption 0 [some (.int x2)] [] h1 (.inl none, h2)) (c_2 : tr_L g d m_X5_follow 0 [some (.ref 1080), some (.ref 1001), some (.int x1), none, none, none, none, none] [] h2 (.inl none, h3)) (t : (hh_i h3 80 1) ≠ (-1) → tr_L g (d + 1) m_X8_testify 53 [some (.ref 1000), some (.int x1), some (.int x2)] [] h3 r) (f : (hh_i h3 80 1) = (-1) → tr_L g (d + 1) m_X8_testify 31 [some (.ref 1000), some (.int x1), some (.int x2)] [] h3 r) : tr_L g (d + 1) m_X8_testify 0 [some (.ref 1000), some (.int x1), some (.int x2)] [] h r := by
  refine tr_s (.iload_n 1) 1 1 [some (.ref 1000), some (.int x1), some (.int x2)] [.int x1] h rfl rfl rfl ?_
  refine tr_call (.invokestatic 199) 199 2 1 0 m_X8_requirePort [.int x1] [] none h1 rfl rfl rfl rfl rfl rfl rfl rfl rfl (tr_cok rfl (Or.inl rfl)) c_0 ?_
  have hL0 := c_0.2
  refine tr_s (.iload_n 2) 1 5 [some (.ref 1000), some (.int x1), some (.int x2)] [.int x2] h1 rfl rfl rfl ?_
  refine tr_call (.invokestatic 185) 185 2 1 0 m_X8_requireOption [.int x2] [] none h2 rfl rfl rfl rfl rfl rfl rfl rfl rfl (tr_cok rfl (Or.inl rfl)) c_1 ?_
  have hL1 := c_1.2
  refine tr_s (.aload_n 0) 1 9 [some (.ref 1000), some (.int x1), some (.int x2)] [.ref 1000] h2 rfl rfl rfl ?_
  refine tl_gr hL1 29 0 0 3 80 [1001, 1008, 1015, 1080, 1081, 1083, 1086, 1089, 1093, 1096, 1098, 0, 0, 0, 0, 0] rfl rfl rfl rfl ?_
  refine tr_s (.aload_n 0) 1 13 [some (.ref 1000), some (.int x1), some (.int x2)] [.ref 1000, .ref 1080] h2 rfl rfl rfl ?_
  refine tl_gr hL1 10 0 0 0 1 [1001, 1008, 1015, 1080, 1081, 1083, 1086, 1089, 1093, 1096, 1098, 0, 0, 0, 0, 0] rfl rfl rfl rfl ?_
  refine tr_s (.iload_n 1) 1 17 [some (.ref 1000), some (.int x1), some (.int x2)] [.int x1, .ref 1001, .ref 1080] h2 rfl rfl rfl ?_
  refine tr_call (.invokevirtual 202) 202 1 2 3 m_X5_follow [.ref 1080, .ref 1001, .int x1] [] none h3 rfl rfl rfl rfl rfl rfl rfl rfl rfl (tr_cok rfl (Or.inr ⟨_, _, rfl, tr_rc (hh_rd (hh_obj hL1 (k := 80) rfl).1) (by decide)⟩)) c_2 ?_
  have hL2 := c_2.2
  refine tr_s (.aload_n 0) 1 21 [some (.ref 1000), some (.int x1), some (.int x2)] [.ref 1000] h3 rfl rfl rfl ?_
  refine tl_gr hL2 29 0 0 3 80 [1001, 1008, 1015, 1080, 1081, 1083, 1086, 1089, 1093, 1096, 1098, 0, 0, 0, 0, 0] rfl rfl rfl rfl ?_
  refine tl_gi hL2 217 80 3 1 [0, 0, 0, 0] rfl rfl rfl rfl ?_
  refine tr_ic (-1) (-1) (by decide) rfl ?_
  exact tr_if2 .ne 25 53 (hh_i h3 80 1) (-1) rfl rfl rfl (fun hc => t ((tr_ne hc).1 rfl)) (fun hc => f ((tr_ne hc).2 rfl))
theorem sg_X8_testify_31 {g : tr_g} {d : Nat} {h : ev_AH} {r : ev_O × ev_AH} {w1 w2 : Option Value} {h1 : ev_AH} (hL : hh_L h) (c_0 : tr_L g d m_X8_reject 0 [some (.ref 1000), some (.int 3), some (.int (hh_i h 80 0))] [] h (.inl none, h1)) (hr : r = (.inr 2, hh_x h1)) : tr_L g (d + 1) m_X8_testify 31 [some (.ref 1000), w1, w2] [] h r := by
  refine tr_s (.aload_n 0) 1 32 [some (.ref 1000), w1, w2] [.ref 1000] h rfl rfl rfl ?_
  refine tr_ic 3 3 (by decide) rfl ?_
  refine tr_s (.aload_n 0) 1 34 [some (.ref 1000), w1, w2] [.ref 1000, .int 3, .ref 1000] h rfl rfl rfl ?_
  refine tl_gr hL 29 0 0 3 80 [1001, 1008, 1015, 1080, 1081, 1083, 1086, 1089, 1093, 1096, 1098, 0, 0, 0, 0, 0] rfl rfl rfl rfl ?_
  refine tl_gi hL 206 80 3 0 [0, 0, 0, 0] rfl rfl rfl rfl ?_
  refine tr_call (.invokevirtual 114) 114 0 2 0 m_X8_reject [.ref 1000, .int 3, .int (hh_i h 80 0)] [] none h1 rfl rfl rfl rfl rfl rfl rfl rfl rfl (tr_cok rfl (Or.inr ⟨_, _, rfl, tr_rc (hh_rd (hh_obj hL (k := 0) rfl).1) (by decide)⟩)) c_0 ?_
  have hL0 := c_0.2
  exact tl_thr hL0 118 2 rfl rfl rfl rfl rfl hr
theorem sg_X8_testify_53 {g : tr_g} {d : Nat} {h : ev_AH} {r : ev_O × ev_AH} {w1 : Option Value} {x2 v0 : Int32} {h1 h2 h3 : ev_AH} (hL : hh_L h) (c_0 : tr_L g d m_X3_keep 0 [some (.ref 1015), some (.ref 1001)] [] h (.inl none, h1)) (c_1 : tr_L g d m_X8_indexOf 0 [some (.int x2)] [] h1 (.inl (some (.int v0)), h2)) (c_2 : tr_L g d m_X2_hear 0 [some (.ref 1001), some (.int (hh_i h1 80 1)), some (.int v0), none, none] [] h2 (.inl none, h3)) (hr : r = (.inl (some (.int (hh_i h3 80 1))), h3)) : tr_L g (d + 1) m_X8_testify 53 [some (.ref 1000), w1, some (.int x2)] [] h r := by
  refine tr_s (.aload_n 0) 1 54 [some (.ref 1000), w1, some (.int x2)] [.ref 1000] h rfl rfl rfl ?_
  refine tl_gr hL 22 0 0 2 15 [1001, 1008, 1015, 1080, 1081, 1083, 1086, 1089, 1093, 1096, 1098, 0, 0, 0, 0, 0] rfl rfl rfl rfl ?_
  refine tr_s (.aload_n 0) 1 58 [some (.ref 1000), w1, some (.int x2)] [.ref 1000, .ref 1015] h rfl rfl rfl ?_
  refine tl_gr hL 10 0 0 0 1 [1001, 1008, 1015, 1080, 1081, 1083, 1086, 1089, 1093, 1096, 1098, 0, 0, 0, 0, 0] rfl rfl rfl rfl ?_
  refine tr_call (.invokevirtual 123) 123 1 1 2 m_X3_keep [.ref 1015, .ref 1001] [] none h1 rfl rfl rfl rfl rfl rfl rfl rfl rfl (tr_cok rfl (Or.inr ⟨_, _, rfl, tr_rc (hh_rd (hh_obj hL (k := 15) rfl).1) (by decide)⟩)) c_0 ?_
  have hL0 := c_0.2
  refine tr_s (.aload_n 0) 1 65 [some (.ref 1000), w1, some (.int x2)] [.ref 1000] h1 rfl rfl rfl ?_
  refine tl_gr hL0 10 0 0 0 1 [1001, 1008, 1015, 1080, 1081, 1083, 1086, 1089, 1093, 1096, 1098, 0, 0, 0, 0, 0] rfl rfl rfl rfl ?_
  refine tr_s (.aload_n 0) 1 69 [some (.ref 1000), w1, some (.int x2)] [.ref 1000, .ref 1001] h1 rfl rfl rfl ?_
  refine tl_gr hL0 29 0 0 3 80 [1001, 1008, 1015, 1080, 1081, 1083, 1086, 1089, 1093, 1096, 1098, 0, 0, 0, 0, 0] rfl rfl rfl rfl ?_
  refine tl_gi hL0 217 80 3 1 [0, 0, 0, 0] rfl rfl rfl rfl ?_
  refine tr_s (.iload_n 2) 1 76 [some (.ref 1000), w1, some (.int x2)] [.int x2, .int (hh_i h1 80 1), .ref 1001] h1 rfl rfl rfl ?_
  refine tr_call (.invokestatic 189) 189 2 1 0 m_X8_indexOf [.int x2] [.int (hh_i h1 80 1), .ref 1001] (some (.int v0)) h2 rfl rfl rfl rfl rfl rfl rfl rfl rfl (tr_cok rfl (Or.inl rfl)) c_1 ?_
  have hL1 := c_1.2
  refine tr_call (.invokevirtual 248) 248 1 2 1 m_X2_hear [.ref 1001, .int (hh_i h1 80 1), .int v0] [] none h3 rfl rfl rfl rfl rfl rfl rfl rfl rfl (tr_cok rfl (Or.inr ⟨_, _, rfl, tr_rc (hh_rd (hh_obj hL1 (k := 1) rfl).1) (by decide)⟩)) c_2 ?_
  have hL2 := c_2.2
  refine tr_s (.aload_n 0) 1 83 [some (.ref 1000), w1, some (.int x2)] [.ref 1000] h3 rfl rfl rfl ?_
  refine tl_gr hL2 29 0 0 3 80 [1001, 1008, 1015, 1080, 1081, 1083, 1086, 1089, 1093, 1096, 1098, 0, 0, 0, 0, 0] rfl rfl rfl rfl ?_
  refine tl_gi hL2 217 80 3 1 [0, 0, 0, 0] rfl rfl rfl rfl ?_
  exact tl_ret hL2 .ireturn 1 (some (.int (hh_i h3 80 1))) rfl rfl rfl rfl hr
theorem sg_X8_requireOption_0 {g : tr_g} {d : Nat} {h : ev_AH} {r : ev_O × ev_AH} {x0 v0 : Int32} {h1 : ev_AH} (hL : hh_L h) (c_0 : tr_L g d m_X8_isOption 0 [some (.int x0)] [] h (.inl (some (.int v0)), h1)) (t : v0 ≠ 0 → tr_L g (d + 1) m_X8_requireOption 18 [some (.int x0)] [] h1 r) (f : v0 = 0 → tr_L g (d + 1) m_X8_requireOption 7 [some (.int x0)] [] h1 r) : tr_L g (d + 1) m_X8_requireOption 0 [some (.int x0)] [] h r := by
  refine tr_s (.iload_n 0) 1 1 [some (.int x0)] [.int x0] h rfl rfl rfl ?_
  refine tr_call (.invokestatic 437) 437 2 1 0 m_X8_isOption [.int x0] [] (some (.int v0)) h1 rfl rfl rfl rfl rfl rfl rfl rfl rfl (tr_cok rfl (Or.inl rfl)) c_0 ?_
  have hL0 := c_0.2
  exact tr_if1 .ne 14 18 v0 rfl rfl rfl (fun hc => t ((tr_ne hc).1 rfl)) (fun hc => f ((tr_ne hc).2 rfl))
theorem sg_X8_requireOption_7 {g : tr_g} {d : Nat} {h : ev_AH} {r : ev_O × ev_AH} {w0 : Option Value} (hL : hh_L h) (hr : r = (.inr 1, hh_x h)) : tr_L g d m_X8_requireOption 7 [w0] [] h r := by
  exact tl_thr hL 100 1 rfl rfl rfl rfl rfl hr
theorem sg_X8_requireOption_18 {g : tr_g} {d : Nat} {h : ev_AH} {r : ev_O × ev_AH} {w0 : Option Value} (hL : hh_L h) (hr : r = (.inl (none), h)) : tr_L g d m_X8_requireOption 18 [w0] [] h r := by
  exact tl_ret hL .return_ 1 none rfl rfl rfl rfl hr
theorem sg_X8_isOption_0 {g : tr_g} {d : Nat} {h : ev_AH} {r : ev_O × ev_AH} {x0 : Int32} (hL : hh_L h) (t : x0 < 97 → tr_L g d m_X8_isOption 16 [some (.int x0)] [] h r) (f : 97 ≤ x0 → tr_L g d m_X8_isOption 6 [some (.int x0)] [] h r) : tr_L g d m_X8_isOption 0 [some (.int x0)] [] h r := by
  refine tr_s (.iload_n 0) 1 1 [some (.int x0)] [.int x0] h rfl rfl rfl ?_
  refine tr_bi 97 97 (by decide) rfl ?_
  exact tr_if2 .lt 13 16 x0 97 rfl rfl rfl (fun hc => t ((tr_lt hc).1 rfl)) (fun hc => f ((tr_lt hc).2 rfl))
theorem sg_X8_isOption_6 {g : tr_g} {d : Nat} {h : ev_AH} {r : ev_O × ev_AH} {x0 : Int32} (hL : hh_L h) (t : 100 < x0 → tr_L g d m_X8_isOption 16 [some (.int x0)] [] h r) (f : x0 ≤ 100 → tr_L g d m_X8_isOption 12 [some (.int x0)] [] h r) : tr_L g d m_X8_isOption 6 [some (.int x0)] [] h r := by
  refine tr_s (.iload_n 0) 1 7 [some (.int x0)] [.int x0] h rfl rfl rfl ?_
  refine tr_bi 100 100 (by decide) rfl ?_
  exact tr_if2 .gt 7 16 x0 100 rfl rfl rfl (fun hc => t ((tr_gt hc).1 rfl)) (fun hc => f ((tr_gt hc).2 rfl))
theorem sg_X8_isOption_12 {g : tr_g} {d : Nat} {h : ev_AH} {r : ev_O × ev_AH} {w0 : Option Value} (hL : hh_L h) (hr : r = (.inl (some (.int 1)), h)) : tr_L g d m_X8_isOption 12 [w0] [] h r := by
  refine tr_ic 1 1 (by decide) rfl ?_
  refine tr_goto 4 17 rfl rfl rfl ?_
  exact tl_ret hL .ireturn 1 (some (.int 1)) rfl rfl rfl rfl hr
theorem sg_X8_isOption_16 {g : tr_g} {d : Nat} {h : ev_AH} {r : ev_O × ev_AH} {w0 : Option Value} (hL : hh_L h) (hr : r = (.inl (some (.int 0)), h)) : tr_L g d m_X8_isOption 16 [w0] [] h r := by
  refine tr_ic 0 0 (by decide) rfl ?_
  exact tl_ret hL .ireturn 1 (some (.int 0)) rfl rfl rfl rfl hr
theorem sg_X8_indexOf_0 {g : tr_g} {d : Nat} {h : ev_AH} {r : ev_O × ev_AH} {x0 : Int32} (hL : hh_L h) (hr : r = (.inl (some (.int (x0 - 97))), h)) : tr_L g d m_X8_indexOf 0 [some (.int x0)] [] h r := by
  refine tr_s (.iload_n 0) 1 1 [some (.int x0)] [.int x0] h rfl rfl rfl ?_
  refine tr_bi 97 97 (by decide) rfl ?_
  refine tr_s .isub 1 4 [some (.int x0)] [.int (x0 - 97)] h rfl rfl rfl ?_
  exact tl_ret hL .ireturn 1 (some (.int (x0 - 97))) rfl rfl rfl rfl hr
theorem sg_X8_retry_0 {g : tr_g} {d : Nat} {h : ev_AH} {r : ev_O × ev_AH} {h1 : ev_AH} {v0 : Int32} (hL : hh_L h) (c_0 : tr_L g d m_X2_mayRetry 0 [some (.ref 1001)] [] h (.inl (some (.int v0)), h1)) (t : v0 ≠ 0 → tr_L g (d + 1) m_X8_retry 33 [some (.ref 1000)] [] h1 r) (f : v0 = 0 → tr_L g (d + 1) m_X8_retry 10 [some (.ref 1000)] [] h1 r) : tr_L g (d + 1) m_X8_retry 0 [some (.ref 1000)] [] h r := by
  refine tr_s (.aload_n 0) 1 1 [some (.ref 1000)] [.ref 1000] h rfl rfl rfl ?_
  refine tl_gr hL 10 0 0 0 1 [1001, 1008, 1015, 1080, 1081, 1083, 1086, 1089, 1093, 1096, 1098, 0, 0, 0, 0, 0] rfl rfl rfl rfl ?_
  refine tr_call (.invokevirtual 315) 315 1 0 1 m_X2_mayRetry [.ref 1001] [] (some (.int v0)) h1 rfl rfl rfl rfl rfl rfl rfl rfl rfl (tr_cok rfl (Or.inr ⟨_, _, rfl, tr_rc (hh_rd (hh_obj hL (k := 1) rfl).1) (by decide)⟩)) c_0 ?_
  have hL0 := c_0.2
  exact tr_if1 .ne 26 33 v0 rfl rfl rfl (fun hc => t ((tr_ne hc).1 rfl)) (fun hc => f ((tr_ne hc).2 rfl))
theorem sg_X8_retry_10 {g : tr_g} {d : Nat} {h : ev_AH} {r : ev_O × ev_AH} {h1 : ev_AH} (hL : hh_L h) (c_0 : tr_L g d m_X8_reject 0 [some (.ref 1000), some (.int 5), some (.int (hh_i h 1 8))] [] h (.inl none, h1)) (hr : r = (.inr 2, hh_x h1)) : tr_L g (d + 1) m_X8_retry 10 [some (.ref 1000)] [] h r := by
  refine tr_s (.aload_n 0) 1 11 [some (.ref 1000)] [.ref 1000] h rfl rfl rfl ?_
  refine tr_ic 5 5 (by decide) rfl ?_
  refine tr_s (.aload_n 0) 1 13 [some (.ref 1000)] [.ref 1000, .int 5, .ref 1000] h rfl rfl rfl ?_
  refine tl_gr hL 10 0 0 0 1 [1001, 1008, 1015, 1080, 1081, 1083, 1086, 1089, 1093, 1096, 1098, 0, 0, 0, 0, 0] rfl rfl rfl rfl ?_
  refine tl_gi hL 319 1 1 8 [1002, 1003, 1004, 1005, 1006, 1007, 0, 0, 0, 0, 0, 0, 0, 0] rfl rfl rfl rfl ?_
  refine tr_call (.invokevirtual 114) 114 0 2 0 m_X8_reject [.ref 1000, .int 5, .int (hh_i h 1 8)] [] none h1 rfl rfl rfl rfl rfl rfl rfl rfl rfl (tr_cok rfl (Or.inr ⟨_, _, rfl, tr_rc (hh_rd (hh_obj hL (k := 0) rfl).1) (by decide)⟩)) c_0 ?_
  have hL0 := c_0.2
  exact tl_thr hL0 118 2 rfl rfl rfl rfl rfl hr
theorem sg_X8_retry_33 {g : tr_g} {d : Nat} {h : ev_AH} {r : ev_O × ev_AH} {h1 h2 : ev_AH} {v0 : Int32} (hL : hh_L h) (c_0 : tr_L g d m_X3_keep 0 [some (.ref 1015), some (.ref 1001)] [] h (.inl none, h1)) (c_1 : tr_L g d m_X2_startAgain 0 [some (.ref 1001), none, none] [] h1 (.inl (some (.int v0)), h2)) (hr : r = (.inl (some (.int v0)), h2)) : tr_L g (d + 1) m_X8_retry 33 [some (.ref 1000)] [] h r := by
  refine tr_s (.aload_n 0) 1 34 [some (.ref 1000)] [.ref 1000] h rfl rfl rfl ?_
  refine tl_gr hL 22 0 0 2 15 [1001, 1008, 1015, 1080, 1081, 1083, 1086, 1089, 1093, 1096, 1098, 0, 0, 0, 0, 0] rfl rfl rfl rfl ?_
  refine tr_s (.aload_n 0) 1 38 [some (.ref 1000)] [.ref 1000, .ref 1015] h rfl rfl rfl ?_
  refine tl_gr hL 10 0 0 0 1 [1001, 1008, 1015, 1080, 1081, 1083, 1086, 1089, 1093, 1096, 1098, 0, 0, 0, 0, 0] rfl rfl rfl rfl ?_
  refine tr_call (.invokevirtual 123) 123 1 1 2 m_X3_keep [.ref 1015, .ref 1001] [] none h1 rfl rfl rfl rfl rfl rfl rfl rfl rfl (tr_cok rfl (Or.inr ⟨_, _, rfl, tr_rc (hh_rd (hh_obj hL (k := 15) rfl).1) (by decide)⟩)) c_0 ?_
  have hL0 := c_0.2
  refine tr_s (.aload_n 0) 1 45 [some (.ref 1000)] [.ref 1000] h1 rfl rfl rfl ?_
  refine tl_gr hL0 10 0 0 0 1 [1001, 1008, 1015, 1080, 1081, 1083, 1086, 1089, 1093, 1096, 1098, 0, 0, 0, 0, 0] rfl rfl rfl rfl ?_
  refine tr_call (.invokevirtual 324) 324 1 0 1 m_X2_startAgain [.ref 1001] [] (some (.int v0)) h2 rfl rfl rfl rfl rfl rfl rfl rfl rfl (tr_cok rfl (Or.inr ⟨_, _, rfl, tr_rc (hh_rd (hh_obj hL0 (k := 1) rfl).1) (by decide)⟩)) c_1 ?_
  have hL1 := c_1.2
  exact tl_ret hL1 .ireturn 1 (some (.int v0)) rfl rfl rfl rfl hr
theorem sg_X8_catByHeard_0 {g : tr_g} {d : Nat} {h : ev_AH} {r : ev_O × ev_AH} {x1 : Int32} (hL : hh_L h) (t : x1 < 0 → tr_L g d m_X8_catByHeard 15 [some (.ref 1000), some (.int x1), none, none] [] h r) (f : 0 ≤ x1 → tr_L g d m_X8_catByHeard 4 [some (.ref 1000), some (.int x1), none, none] [] h r) : tr_L g d m_X8_catByHeard 0 [some (.ref 1000), some (.int x1), none, none] [] h r := by
  refine tr_s (.iload_n 1) 1 1 [some (.ref 1000), some (.int x1), none, none] [.int x1] h rfl rfl rfl ?_
  exact tr_if1 .lt 14 15 x1 rfl rfl rfl (fun hc => t ((tr_lt hc).1 rfl)) (fun hc => f ((tr_lt hc).2 rfl))
theorem sg_X8_catByHeard_4 {g : tr_g} {d : Nat} {h : ev_AH} {r : ev_O × ev_AH} {x1 : Int32} {w2 w3 : Option Value} (hL : hh_L h) (t : x1 < (hh_i h 1 6) → tr_L g d m_X8_catByHeard 25 [some (.ref 1000), some (.int x1), w2, w3] [] h r) (f : (hh_i h 1 6) ≤ x1 → tr_L g d m_X8_catByHeard 15 [some (.ref 1000), some (.int x1), w2, w3] [] h r) : tr_L g d m_X8_catByHeard 4 [some (.ref 1000), some (.int x1), w2, w3] [] h r := by
  refine tr_s (.iload_n 1) 1 5 [some (.ref 1000), some (.int x1), w2, w3] [.int x1] h rfl rfl rfl ?_
  refine tr_s (.aload_n 0) 1 6 [some (.ref 1000), some (.int x1), w2, w3] [.ref 1000, .int x1] h rfl rfl rfl ?_
  refine tl_gr hL 10 0 0 0 1 [1001, 1008, 1015, 1080, 1081, 1083, 1086, 1089, 1093, 1096, 1098, 0, 0, 0, 0, 0] rfl rfl rfl rfl ?_
  refine tl_gi hL 131 1 1 6 [1002, 1003, 1004, 1005, 1006, 1007, 0, 0, 0, 0, 0, 0, 0, 0] rfl rfl rfl rfl ?_
  exact tr_if2 .lt 13 25 x1 (hh_i h 1 6) rfl rfl rfl (fun hc => t ((tr_lt hc).1 rfl)) (fun hc => f ((tr_lt hc).2 rfl))
theorem sg_X8_catByHeard_15 {g : tr_g} {d : Nat} {h : ev_AH} {r : ev_O × ev_AH} {w0 w1 w2 w3 : Option Value} (hL : hh_L h) (hr : r = (.inr 3, hh_x h)) : tr_L g d m_X8_catByHeard 15 [w0, w1, w2, w3] [] h r := by
  exact tl_thr hL 163 3 rfl rfl rfl rfl rfl hr
theorem sg_X8_catByHeard_25 {g : tr_g} {d : Nat} {h : ev_AH} {r : ev_O × ev_AH} {x1 : Int32} {w2 w3 : Option Value} (hL : hh_L h) (k : tr_L g d m_X8_catByHeard 29 [some (.ref 1000), some (.int x1), some (.int 0), some (.int 0)] [] h r) : tr_L g d m_X8_catByHeard 25 [some (.ref 1000), some (.int x1), w2, w3] [] h r := by
  refine tr_ic 0 0 (by decide) rfl ?_
  refine tr_st (.istore_n 2) 1 2 0 (.int 0) rfl rfl rfl rfl rfl rfl rfl ?_
  refine tr_ic 0 0 (by decide) rfl ?_
  refine tr_st (.istore_n 3) 1 3 0 (.int 0) rfl rfl rfl rfl rfl rfl rfl ?_
  exact k
theorem sg_X8_catByHeard_29 {g : tr_g} {d : Nat} {h : ev_AH} {r : ev_O × ev_AH} {x1 x2 x3 : Int32} (hL : hh_L h) (t : (hh_i h 1 6) ≤ x3 → tr_L g d m_X8_catByHeard 60 [some (.ref 1000), some (.int x1), some (.int x2), some (.int x3)] [] h r) (f : x3 < (hh_i h 1 6) → tr_L g d m_X8_catByHeard 40 [some (.ref 1000), some (.int x1), some (.int x2), some (.int x3)] [] h r) : tr_L g d m_X8_catByHeard 29 [some (.ref 1000), some (.int x1), some (.int x2), some (.int x3)] [] h r := by
  refine tr_s (.iload_n 3) 1 30 [some (.ref 1000), some (.int x1), some (.int x2), some (.int x3)] [.int x3] h rfl rfl rfl ?_
  refine tr_s (.aload_n 0) 1 31 [some (.ref 1000), some (.int x1), some (.int x2), some (.int x3)] [.ref 1000, .int x3] h rfl rfl rfl ?_
  refine tl_gr hL 10 0 0 0 1 [1001, 1008, 1015, 1080, 1081, 1083, 1086, 1089, 1093, 1096, 1098, 0, 0, 0, 0, 0] rfl rfl rfl rfl ?_
  refine tl_gi hL 131 1 1 6 [1002, 1003, 1004, 1005, 1006, 1007, 0, 0, 0, 0, 0, 0, 0, 0] rfl rfl rfl rfl ?_
  exact tr_if2 .ge 23 60 x3 (hh_i h 1 6) rfl rfl rfl (fun hc => t ((tr_ge hc).1 rfl)) (fun hc => f ((tr_ge hc).2 rfl))
theorem sg_X8_catByHeard_40 {g : tr_g} {d : Nat} {h : ev_AH} {r : ev_O × ev_AH} {x1 x2 x3 v0 : Int32} {h1 : ev_AH} (hL : hh_L h) (c_0 : tr_L g d m_X2_catsAhead 0 [some (.ref 1001), some (.int x3), none, none, none] [] h (.inl (some (.int v0)), h1)) (t : v0 ≠ x1 → tr_L g (d + 1) m_X8_catByHeard 54 [some (.ref 1000), some (.int x1), some (.int x2), some (.int x3)] [] h1 r) (f : v0 = x1 → tr_L g (d + 1) m_X8_catByHeard 52 [some (.ref 1000), some (.int x1), some (.int x2), some (.int x3)] [] h1 r) : tr_L g (d + 1) m_X8_catByHeard 40 [some (.ref 1000), some (.int x1), some (.int x2), some (.int x3)] [] h r := by
  refine tr_s (.aload_n 0) 1 41 [some (.ref 1000), some (.int x1), some (.int x2), some (.int x3)] [.ref 1000] h rfl rfl rfl ?_
  refine tl_gr hL 10 0 0 0 1 [1001, 1008, 1015, 1080, 1081, 1083, 1086, 1089, 1093, 1096, 1098, 0, 0, 0, 0, 0] rfl rfl rfl rfl ?_
  refine tr_s (.iload_n 3) 1 45 [some (.ref 1000), some (.int x1), some (.int x2), some (.int x3)] [.int x3, .ref 1001] h rfl rfl rfl ?_
  refine tr_call (.invokevirtual 338) 338 1 1 1 m_X2_catsAhead [.ref 1001, .int x3] [] (some (.int v0)) h1 rfl rfl rfl rfl rfl rfl rfl rfl rfl (tr_cok rfl (Or.inr ⟨_, _, rfl, tr_rc (hh_rd (hh_obj hL (k := 1) rfl).1) (by decide)⟩)) c_0 ?_
  have hL0 := c_0.2
  refine tr_s (.iload_n 1) 1 49 [some (.ref 1000), some (.int x1), some (.int x2), some (.int x3)] [.int x1, .int v0] h1 rfl rfl rfl ?_
  exact tr_if2 .ne 5 54 v0 x1 rfl rfl rfl (fun hc => t ((tr_ne hc).1 rfl)) (fun hc => f ((tr_ne hc).2 rfl))
theorem sg_X8_catByHeard_52 {g : tr_g} {d : Nat} {h : ev_AH} {r : ev_O × ev_AH} {x1 x3 : Int32} {w2 : Option Value} (hL : hh_L h) (k : tr_L g d m_X8_catByHeard 29 [some (.ref 1000), some (.int x1), some (.int x3), some (.int (x3 + 1))] [] h r) : tr_L g d m_X8_catByHeard 52 [some (.ref 1000), some (.int x1), w2, some (.int x3)] [] h r := by
  refine tr_s (.iload_n 3) 1 53 [some (.ref 1000), some (.int x1), w2, some (.int x3)] [.int x3] h rfl rfl rfl ?_
  refine tr_st (.istore_n 2) 1 2 0 (.int x3) rfl rfl rfl rfl rfl rfl rfl ?_
  refine tr_inc 3 1 x3 1 (by decide) rfl rfl rfl ?_
  refine tr_goto (-28) 29 rfl rfl rfl ?_
  exact k
theorem sg_X8_catByHeard_54 {g : tr_g} {d : Nat} {h : ev_AH} {r : ev_O × ev_AH} {x1 x2 x3 : Int32} (hL : hh_L h) (k : tr_L g d m_X8_catByHeard 29 [some (.ref 1000), some (.int x1), some (.int x2), some (.int (x3 + 1))] [] h r) : tr_L g d m_X8_catByHeard 54 [some (.ref 1000), some (.int x1), some (.int x2), some (.int x3)] [] h r := by
  refine tr_inc 3 1 x3 1 (by decide) rfl rfl rfl ?_
  refine tr_goto (-28) 29 rfl rfl rfl ?_
  exact k
theorem sg_X8_catByHeard_60 {g : tr_g} {d : Nat} {h : ev_AH} {r : ev_O × ev_AH} {w0 w1 w3 : Option Value} {x2 : Int32} (hL : hh_L h) (hr : r = (.inl (some (.int x2)), h)) : tr_L g d m_X8_catByHeard 60 [w0, w1, some (.int x2), w3] [] h r := by
  refine tr_s (.iload_n 2) 1 61 [w0, w1, some (.int x2), w3] [.int x2] h rfl rfl rfl ?_
  exact tl_ret hL .ireturn 1 (some (.int x2)) rfl rfl rfl rfl hr
theorem sg_X8_undo_0 {g : tr_g} {d : Nat} {h : ev_AH} {r : ev_O × ev_AH} (hL : hh_L h) (t : (hh_i h 15 2) ≠ 0 → tr_L g d m_X8_undo 21 [some (.ref 1000)] [] h r) (f : (hh_i h 15 2) = 0 → tr_L g d m_X8_undo 10 [some (.ref 1000)] [] h r) : tr_L g d m_X8_undo 0 [some (.ref 1000)] [] h r := by
  refine tr_s (.aload_n 0) 1 1 [some (.ref 1000)] [.ref 1000] h rfl rfl rfl ?_
  refine tl_gr hL 22 0 0 2 15 [1001, 1008, 1015, 1080, 1081, 1083, 1086, 1089, 1093, 1096, 1098, 0, 0, 0, 0, 0] rfl rfl rfl rfl ?_
  refine tl_gi hL 424 15 2 2 [1016, 0, 0] rfl rfl rfl rfl ?_
  exact tr_if1 .ne 14 21 (hh_i h 15 2) rfl rfl rfl (fun hc => t ((tr_ne hc).1 rfl)) (fun hc => f ((tr_ne hc).2 rfl))
theorem sg_X8_undo_10 {g : tr_g} {d : Nat} {h : ev_AH} {r : ev_O × ev_AH} {w0 : Option Value} (hL : hh_L h) (hr : r = (.inr 5, hh_x h)) : tr_L g d m_X8_undo 10 [w0] [] h r := by
  exact tl_thr hL 388 5 rfl rfl rfl rfl rfl hr
theorem sg_X8_undo_21 {g : tr_g} {d : Nat} {h : ev_AH} {r : ev_O × ev_AH} {h1 : ev_AH} (hL : hh_L h) (c_0 : tr_L g d m_X3_stepBack 0 [some (.ref 1015), some (.ref 1001)] [] h (.inl none, h1)) (hr : r = (.inl (some (.int (hh_i h1 15 2))), h1)) : tr_L g (d + 1) m_X8_undo 21 [some (.ref 1000)] [] h r := by
  refine tr_s (.aload_n 0) 1 22 [some (.ref 1000)] [.ref 1000] h rfl rfl rfl ?_
  refine tl_gr hL 22 0 0 2 15 [1001, 1008, 1015, 1080, 1081, 1083, 1086, 1089, 1093, 1096, 1098, 0, 0, 0, 0, 0] rfl rfl rfl rfl ?_
  refine tr_s (.aload_n 0) 1 26 [some (.ref 1000)] [.ref 1000, .ref 1015] h rfl rfl rfl ?_
  refine tl_gr hL 10 0 0 0 1 [1001, 1008, 1015, 1080, 1081, 1083, 1086, 1089, 1093, 1096, 1098, 0, 0, 0, 0, 0] rfl rfl rfl rfl ?_
  refine tr_call (.invokevirtual 429) 429 1 1 2 m_X3_stepBack [.ref 1015, .ref 1001] [] none h1 rfl rfl rfl rfl rfl rfl rfl rfl rfl (tr_cok rfl (Or.inr ⟨_, _, rfl, tr_rc (hh_rd (hh_obj hL (k := 15) rfl).1) (by decide)⟩)) c_0 ?_
  have hL0 := c_0.2
  refine tr_s (.aload_n 0) 1 33 [some (.ref 1000)] [.ref 1000] h1 rfl rfl rfl ?_
  refine tl_gr hL0 22 0 0 2 15 [1001, 1008, 1015, 1080, 1081, 1083, 1086, 1089, 1093, 1096, 1098, 0, 0, 0, 0, 0] rfl rfl rfl rfl ?_
  refine tl_gi hL0 424 15 2 2 [1016, 0, 0] rfl rfl rfl rfl ?_
  exact tl_ret hL0 .ireturn 1 (some (.int (hh_i h1 15 2))) rfl rfl rfl rfl hr
theorem sg_X8_restoreSnapshot_0 {g : tr_g} {d : Nat} {h : ev_AH} {r : ev_O × ev_AH} (hL : hh_L h) (t : (hh_i h 0 11) ≠ 0 → tr_L g d m_X8_restoreSnapshot 18 [some (.ref 1000)] [] h r) (f : (hh_i h 0 11) = 0 → tr_L g d m_X8_restoreSnapshot 7 [some (.ref 1000)] [] h r) : tr_L g d m_X8_restoreSnapshot 0 [some (.ref 1000)] [] h r := by
  refine tr_s (.aload_n 0) 1 1 [some (.ref 1000)] [.ref 1000] h rfl rfl rfl ?_
  refine tl_gi hL 75 0 0 11 [1001, 1008, 1015, 1080, 1081, 1083, 1086, 1089, 1093, 1096, 1098, 0, 0, 0, 0, 0] rfl rfl rfl rfl ?_
  exact tr_if1 .ne 14 18 (hh_i h 0 11) rfl rfl rfl (fun hc => t ((tr_ne hc).1 rfl)) (fun hc => f ((tr_ne hc).2 rfl))
theorem sg_X8_restoreSnapshot_7 {g : tr_g} {d : Nat} {h : ev_AH} {r : ev_O × ev_AH} {w0 : Option Value} (hL : hh_L h) (hr : r = (.inr 5, hh_x h)) : tr_L g d m_X8_restoreSnapshot 7 [w0] [] h r := by
  exact tl_thr hL 388 5 rfl rfl rfl rfl rfl hr
theorem sg_X8_restoreSnapshot_18 {g : tr_g} {d : Nat} {h : ev_AH} {r : ev_O × ev_AH} {h1 : ev_AH} (hL : hh_L h) (c_0 : tr_L g d m_X2_copyFrom 0 [some (.ref 1001), some (.ref 1008)] [] h (.inl none, h1)) (hr : r = (.inl (some (.int (hh_i (hh_si h1 15 2 2 0) 1 6))), hh_si h1 15 2 2 0)) : tr_L g (d + 1) m_X8_restoreSnapshot 18 [some (.ref 1000)] [] h r := by
  refine tr_s (.aload_n 0) 1 19 [some (.ref 1000)] [.ref 1000] h rfl rfl rfl ?_
  refine tl_gr hL 10 0 0 0 1 [1001, 1008, 1015, 1080, 1081, 1083, 1086, 1089, 1093, 1096, 1098, 0, 0, 0, 0, 0] rfl rfl rfl rfl ?_
  refine tr_s (.aload_n 0) 1 23 [some (.ref 1000)] [.ref 1000, .ref 1001] h rfl rfl rfl ?_
  refine tl_gr hL 16 0 0 1 8 [1001, 1008, 1015, 1080, 1081, 1083, 1086, 1089, 1093, 1096, 1098, 0, 0, 0, 0, 0] rfl rfl rfl rfl ?_
  refine tr_call (.invokevirtual 432) 432 1 1 1 m_X2_copyFrom [.ref 1001, .ref 1008] [] none h1 rfl rfl rfl rfl rfl rfl rfl rfl rfl (tr_cok rfl (Or.inr ⟨_, _, rfl, tr_rc (hh_rd (hh_obj hL (k := 1) rfl).1) (by decide)⟩)) c_0 ?_
  have hL0 := c_0.2
  refine tr_s (.aload_n 0) 1 30 [some (.ref 1000)] [.ref 1000] h1 rfl rfl rfl ?_
  refine tl_gr hL0 22 0 0 2 15 [1001, 1008, 1015, 1080, 1081, 1083, 1086, 1089, 1093, 1096, 1098, 0, 0, 0, 0, 0] rfl rfl rfl rfl ?_
  refine tr_ic 0 0 (by decide) rfl ?_
  refine tl_pf hL0 424 15 2 2 [1016, 0, 0] 0 .int rfl rfl rfl rfl rfl tr_oki ?_
  have hL1 := hh_L_si (sl := 2) (x := 0) hL0 (show hh_t[15]? = some (.inr (2, [1016, 0, 0])) from rfl) rfl
  refine tr_s (.aload_n 0) 1 38 [some (.ref 1000)] [.ref 1000] (hh_si h1 15 2 2 0) rfl rfl rfl ?_
  refine tl_gr hL1 10 0 0 0 1 [1001, 1008, 1015, 1080, 1081, 1083, 1086, 1089, 1093, 1096, 1098, 0, 0, 0, 0, 0] rfl rfl rfl rfl ?_
  refine tl_gi hL1 131 1 1 6 [1002, 1003, 1004, 1005, 1006, 1007, 0, 0, 0, 0, 0, 0, 0, 0] rfl rfl rfl rfl ?_
  exact tl_ret hL1 .ireturn 1 (some (.int (hh_i (hh_si h1 15 2 2 0) 1 6))) rfl rfl rfl rfl hr
theorem sg_X8_deliberate_0 {g : tr_g} {d : Nat} {h : ev_AH} {r : ev_O × ev_AH} (hL : hh_L h) (t : (hh_i h 1 6) ≠ 0 → tr_L g d m_X8_deliberate 33 [some (.ref 1000)] [] h r) (f : (hh_i h 1 6) = 0 → tr_L g d m_X8_deliberate 10 [some (.ref 1000)] [] h r) : tr_L g d m_X8_deliberate 0 [some (.ref 1000)] [] h r := by
  refine tr_s (.aload_n 0) 1 1 [some (.ref 1000)] [.ref 1000] h rfl rfl rfl ?_
  refine tl_gr hL 10 0 0 0 1 [1001, 1008, 1015, 1080, 1081, 1083, 1086, 1089, 1093, 1096, 1098, 0, 0, 0, 0, 0] rfl rfl rfl rfl ?_
  refine tl_gi hL 131 1 1 6 [1002, 1003, 1004, 1005, 1006, 1007, 0, 0, 0, 0, 0, 0, 0, 0] rfl rfl rfl rfl ?_
  exact tr_if1 .ne 26 33 (hh_i h 1 6) rfl rfl rfl (fun hc => t ((tr_ne hc).1 rfl)) (fun hc => f ((tr_ne hc).2 rfl))
theorem sg_X8_deliberate_10 {g : tr_g} {d : Nat} {h : ev_AH} {r : ev_O × ev_AH} {h1 h2 : ev_AH} {v0 : Int32} (hL : hh_L h) (c_0 : tr_L g d m_X2_countMirrors 0 [some (.ref 1001), none, none, none] [] h (.inl (some (.int v0)), h1)) (c_1 : tr_L g d m_X8_reject 0 [some (.ref 1000), some (.int 4), some (.int v0)] [] h1 (.inl none, h2)) (hr : r = (.inr 2, hh_x h2)) : tr_L g (d + 1) m_X8_deliberate 10 [some (.ref 1000)] [] h r := by
  refine tr_s (.aload_n 0) 1 11 [some (.ref 1000)] [.ref 1000] h rfl rfl rfl ?_
  refine tr_ic 4 4 (by decide) rfl ?_
  refine tr_s (.aload_n 0) 1 13 [some (.ref 1000)] [.ref 1000, .int 4, .ref 1000] h rfl rfl rfl ?_
  refine tl_gr hL 10 0 0 0 1 [1001, 1008, 1015, 1080, 1081, 1083, 1086, 1089, 1093, 1096, 1098, 0, 0, 0, 0, 0] rfl rfl rfl rfl ?_
  refine tr_call (.invokevirtual 149) 149 1 0 1 m_X2_countMirrors [.ref 1001] [.int 4, .ref 1000] (some (.int v0)) h1 rfl rfl rfl rfl rfl rfl rfl rfl rfl (tr_cok rfl (Or.inr ⟨_, _, rfl, tr_rc (hh_rd (hh_obj hL (k := 1) rfl).1) (by decide)⟩)) c_0 ?_
  have hL0 := c_0.2
  refine tr_call (.invokevirtual 114) 114 0 2 0 m_X8_reject [.ref 1000, .int 4, .int v0] [] none h2 rfl rfl rfl rfl rfl rfl rfl rfl rfl (tr_cok rfl (Or.inr ⟨_, _, rfl, tr_rc (hh_rd (hh_obj hL0 (k := 0) rfl).1) (by decide)⟩)) c_1 ?_
  have hL1 := c_1.2
  exact tl_thr hL1 118 2 rfl rfl rfl rfl rfl hr
theorem sg_X8_deliberate_33 {g : tr_g} {d : Nat} {h : ev_AH} {r : ev_O × ev_AH} {h1 h2 h3 : ev_AH} {v0 : Int32} (hL : hh_L h) (c_0 : tr_L g d m_X3_keep 0 [some (.ref 1015), some (.ref 1001)] [] h (.inl none, h1)) (c_1 : tr_L g d m_X8_holdVote 0 [some (.ref 1000), none] [] h1 (.inl none, h2)) (c_2 : tr_L g d m_X8_at_ 0 [some (.ref 1007), some (.int 0)] [] h2 (.inl (some (.int v0)), h3)) (hc0 : tr_ch v0) (hr : r = (.inl (some (.int v0)), h3)) : tr_L g (d + 1) m_X8_deliberate 33 [some (.ref 1000)] [] h r := by
  refine tr_s (.aload_n 0) 1 34 [some (.ref 1000)] [.ref 1000] h rfl rfl rfl ?_
  refine tl_gr hL 22 0 0 2 15 [1001, 1008, 1015, 1080, 1081, 1083, 1086, 1089, 1093, 1096, 1098, 0, 0, 0, 0, 0] rfl rfl rfl rfl ?_
  refine tr_s (.aload_n 0) 1 38 [some (.ref 1000)] [.ref 1000, .ref 1015] h rfl rfl rfl ?_
  refine tl_gr hL 10 0 0 0 1 [1001, 1008, 1015, 1080, 1081, 1083, 1086, 1089, 1093, 1096, 1098, 0, 0, 0, 0, 0] rfl rfl rfl rfl ?_
  refine tr_call (.invokevirtual 123) 123 1 1 2 m_X3_keep [.ref 1015, .ref 1001] [] none h1 rfl rfl rfl rfl rfl rfl rfl rfl rfl (tr_cok rfl (Or.inr ⟨_, _, rfl, tr_rc (hh_rd (hh_obj hL (k := 15) rfl).1) (by decide)⟩)) c_0 ?_
  have hL0 := c_0.2
  refine tr_s (.aload_n 0) 1 45 [some (.ref 1000)] [.ref 1000] h1 rfl rfl rfl ?_
  refine tr_call (.invokevirtual 309) 309 0 0 0 m_X8_holdVote [.ref 1000] [] none h2 rfl rfl rfl rfl rfl rfl rfl rfl rfl (tr_cok rfl (Or.inr ⟨_, _, rfl, tr_rc (hh_rd (hh_obj hL0 (k := 0) rfl).1) (by decide)⟩)) c_1 ?_
  have hL1 := c_1.2
  refine tr_s (.aload_n 0) 1 49 [some (.ref 1000)] [.ref 1000] h2 rfl rfl rfl ?_
  refine tl_gr hL1 10 0 0 0 1 [1001, 1008, 1015, 1080, 1081, 1083, 1086, 1089, 1093, 1096, 1098, 0, 0, 0, 0, 0] rfl rfl rfl rfl ?_
  refine tl_gr hL1 312 1 1 5 7 [1002, 1003, 1004, 1005, 1006, 1007, 0, 0, 0, 0, 0, 0, 0, 0] rfl rfl rfl rfl ?_
  refine tr_ic 0 0 (by decide) rfl ?_
  refine tr_call (.invokestatic 172) 172 2 2 0 m_X8_at_ [.ref 1007, .int 0] [] (some (.int v0)) h3 rfl rfl rfl rfl rfl rfl rfl rfl rfl (tr_cok rfl (Or.inl rfl)) c_2 ?_
  have hL2 := c_2.2
  exact tl_ret hL2 .ireturn 1 (some (.int v0)) rfl rfl rfl (tr_ec rfl hc0) hr
theorem sg_X8_holdVote_0 {g : tr_g} {d : Nat} {h : ev_AH} {r : ev_O × ev_AH} (hL : hh_L h) (t : (hh_i h 1 7) ≠ 114 → tr_L g d m_X8_holdVote 27 [some (.ref 1000), none] [] h r) (f : (hh_i h 1 7) = 114 → tr_L g d m_X8_holdVote 12 [some (.ref 1000), none] [] h r) : tr_L g d m_X8_holdVote 0 [some (.ref 1000), none] [] h r := by
  refine tr_s (.aload_n 0) 1 1 [some (.ref 1000), none] [.ref 1000] h rfl rfl rfl ?_
  refine tl_gr hL 10 0 0 0 1 [1001, 1008, 1015, 1080, 1081, 1083, 1086, 1089, 1093, 1096, 1098, 0, 0, 0, 0, 0] rfl rfl rfl rfl ?_
  refine tl_gi hL 303 1 1 7 [1002, 1003, 1004, 1005, 1006, 1007, 0, 0, 0, 0, 0, 0, 0, 0] rfl rfl rfl rfl ?_
  refine tr_bi 114 114 (by decide) rfl ?_
  exact tr_if2 .ne 18 27 (hh_i h 1 7) 114 rfl rfl rfl (fun hc => t ((tr_ne hc).1 rfl)) (fun hc => f ((tr_ne hc).2 rfl))
theorem sg_X8_holdVote_12 {g : tr_g} {d : Nat} {h : ev_AH} {r : ev_O × ev_AH} {w1 : Option Value} {h1 : ev_AH} {v0 : Int32} (hL : hh_L h) (c_0 : tr_L g d m_X7_voteInRounds 0 [some (.ref 1089), some (.ref 1001), none, none, none] [] h (.inl (some (.int v0)), h1)) (k : tr_L g (d + 1) m_X8_holdVote 66 [some (.ref 1000), some (.int v0)] [] h1 r) : tr_L g (d + 1) m_X8_holdVote 12 [some (.ref 1000), w1] [] h r := by
  refine tr_s (.aload_n 0) 1 13 [some (.ref 1000), w1] [.ref 1000] h rfl rfl rfl ?_
  refine tl_gr hL 53 0 0 7 89 [1001, 1008, 1015, 1080, 1081, 1083, 1086, 1089, 1093, 1096, 1098, 0, 0, 0, 0, 0] rfl rfl rfl rfl ?_
  refine tr_s (.aload_n 0) 1 17 [some (.ref 1000), w1] [.ref 1000, .ref 1089] h rfl rfl rfl ?_
  refine tl_gr hL 10 0 0 0 1 [1001, 1008, 1015, 1080, 1081, 1083, 1086, 1089, 1093, 1096, 1098, 0, 0, 0, 0, 0] rfl rfl rfl rfl ?_
  refine tr_call (.invokevirtual 275) 275 1 1 6 m_X7_voteInRounds [.ref 1089, .ref 1001] [] (some (.int v0)) h1 rfl rfl rfl rfl rfl rfl rfl rfl rfl (tr_cok rfl (Or.inr ⟨_, _, rfl, tr_rc (hh_rd (hh_obj hL (k := 89) rfl).1) (by decide)⟩)) c_0 ?_
  have hL0 := c_0.2
  refine tr_st (.istore_n 1) 1 1 0 (.int v0) rfl rfl rfl rfl rfl rfl rfl ?_
  refine tr_goto 42 66 rfl rfl rfl ?_
  exact k
theorem sg_X8_holdVote_27 {g : tr_g} {d : Nat} {h : ev_AH} {r : ev_O × ev_AH} {w1 : Option Value} (hL : hh_L h) (t : (hh_i h 1 7) ≠ 115 → tr_L g d m_X8_holdVote 54 [some (.ref 1000), w1] [] h r) (f : (hh_i h 1 7) = 115 → tr_L g d m_X8_holdVote 39 [some (.ref 1000), w1] [] h r) : tr_L g d m_X8_holdVote 27 [some (.ref 1000), w1] [] h r := by
  refine tr_s (.aload_n 0) 1 28 [some (.ref 1000), w1] [.ref 1000] h rfl rfl rfl ?_
  refine tl_gr hL 10 0 0 0 1 [1001, 1008, 1015, 1080, 1081, 1083, 1086, 1089, 1093, 1096, 1098, 0, 0, 0, 0, 0] rfl rfl rfl rfl ?_
  refine tl_gi hL 303 1 1 7 [1002, 1003, 1004, 1005, 1006, 1007, 0, 0, 0, 0, 0, 0, 0, 0] rfl rfl rfl rfl ?_
  refine tr_bi 115 115 (by decide) rfl ?_
  exact tr_if2 .ne 18 54 (hh_i h 1 7) 115 rfl rfl rfl (fun hc => t ((tr_ne hc).1 rfl)) (fun hc => f ((tr_ne hc).2 rfl))
theorem sg_X8_holdVote_39 {g : tr_g} {d : Nat} {h : ev_AH} {r : ev_O × ev_AH} {w1 : Option Value} {h1 : ev_AH} {v0 : Int32} (hL : hh_L h) (c_0 : tr_L g d m_X7_findStrongest 0 [some (.ref 1089), some (.ref 1001), none] [] h (.inl (some (.int v0)), h1)) (k : tr_L g (d + 1) m_X8_holdVote 66 [some (.ref 1000), some (.int v0)] [] h1 r) : tr_L g (d + 1) m_X8_holdVote 39 [some (.ref 1000), w1] [] h r := by
  refine tr_s (.aload_n 0) 1 40 [some (.ref 1000), w1] [.ref 1000] h rfl rfl rfl ?_
  refine tl_gr hL 53 0 0 7 89 [1001, 1008, 1015, 1080, 1081, 1083, 1086, 1089, 1093, 1096, 1098, 0, 0, 0, 0, 0] rfl rfl rfl rfl ?_
  refine tr_s (.aload_n 0) 1 44 [some (.ref 1000), w1] [.ref 1000, .ref 1089] h rfl rfl rfl ?_
  refine tl_gr hL 10 0 0 0 1 [1001, 1008, 1015, 1080, 1081, 1083, 1086, 1089, 1093, 1096, 1098, 0, 0, 0, 0, 0] rfl rfl rfl rfl ?_
  refine tr_call (.invokevirtual 291) 291 1 1 6 m_X7_findStrongest [.ref 1089, .ref 1001] [] (some (.int v0)) h1 rfl rfl rfl rfl rfl rfl rfl rfl rfl (tr_cok rfl (Or.inr ⟨_, _, rfl, tr_rc (hh_rd (hh_obj hL (k := 89) rfl).1) (by decide)⟩)) c_0 ?_
  have hL0 := c_0.2
  refine tr_st (.istore_n 1) 1 1 0 (.int v0) rfl rfl rfl rfl rfl rfl rfl ?_
  refine tr_goto 15 66 rfl rfl rfl ?_
  exact k
theorem sg_X8_holdVote_54 {g : tr_g} {d : Nat} {h : ev_AH} {r : ev_O × ev_AH} {w1 : Option Value} {h1 : ev_AH} {v0 : Int32} (hL : hh_L h) (c_0 : tr_L g d m_X7_findMostPoints 0 [some (.ref 1089), some (.ref 1001), none, none] [] h (.inl (some (.int v0)), h1)) (k : tr_L g (d + 1) m_X8_holdVote 66 [some (.ref 1000), some (.int v0)] [] h1 r) : tr_L g (d + 1) m_X8_holdVote 54 [some (.ref 1000), w1] [] h r := by
  refine tr_s (.aload_n 0) 1 55 [some (.ref 1000), w1] [.ref 1000] h rfl rfl rfl ?_
  refine tl_gr hL 53 0 0 7 89 [1001, 1008, 1015, 1080, 1081, 1083, 1086, 1089, 1093, 1096, 1098, 0, 0, 0, 0, 0] rfl rfl rfl rfl ?_
  refine tr_s (.aload_n 0) 1 59 [some (.ref 1000), w1] [.ref 1000, .ref 1089] h rfl rfl rfl ?_
  refine tl_gr hL 10 0 0 0 1 [1001, 1008, 1015, 1080, 1081, 1083, 1086, 1089, 1093, 1096, 1098, 0, 0, 0, 0, 0] rfl rfl rfl rfl ?_
  refine tr_call (.invokevirtual 271) 271 1 1 6 m_X7_findMostPoints [.ref 1089, .ref 1001] [] (some (.int v0)) h1 rfl rfl rfl rfl rfl rfl rfl rfl rfl (tr_cok rfl (Or.inr ⟨_, _, rfl, tr_rc (hh_rd (hh_obj hL (k := 89) rfl).1) (by decide)⟩)) c_0 ?_
  have hL0 := c_0.2
  refine tr_st (.istore_n 1) 1 1 0 (.int v0) rfl rfl rfl rfl rfl rfl rfl ?_
  exact k
theorem sg_X8_holdVote_66 {g : tr_g} {d : Nat} {h : ev_AH} {r : ev_O × ev_AH} {x1 v0 : Int32} {h1 : ev_AH} (hL : hh_L h) (c_0 : tr_L g d m_X7_dominates 0 [some (.ref 1089), some (.ref 1001), some (.int x1), none] [] h (.inl (some (.int v0)), h1)) (t : v0 = 0 → tr_L g (d + 1) m_X8_holdVote 92 [some (.ref 1000), some (.int x1)] [.ref 1001] h1 r) (f : v0 ≠ 0 → tr_L g (d + 1) m_X8_holdVote 85 [some (.ref 1000), some (.int x1)] [.ref 1001] h1 r) : tr_L g (d + 1) m_X8_holdVote 66 [some (.ref 1000), some (.int x1)] [] h r := by
  refine tr_s (.aload_n 0) 1 67 [some (.ref 1000), some (.int x1)] [.ref 1000] h rfl rfl rfl ?_
  refine tl_gr hL 10 0 0 0 1 [1001, 1008, 1015, 1080, 1081, 1083, 1086, 1089, 1093, 1096, 1098, 0, 0, 0, 0, 0] rfl rfl rfl rfl ?_
  refine tr_s (.aload_n 0) 1 71 [some (.ref 1000), some (.int x1)] [.ref 1000, .ref 1001] h rfl rfl rfl ?_
  refine tl_gr hL 53 0 0 7 89 [1001, 1008, 1015, 1080, 1081, 1083, 1086, 1089, 1093, 1096, 1098, 0, 0, 0, 0, 0] rfl rfl rfl rfl ?_
  refine tr_s (.aload_n 0) 1 75 [some (.ref 1000), some (.int x1)] [.ref 1000, .ref 1089, .ref 1001] h rfl rfl rfl ?_
  refine tl_gr hL 10 0 0 0 1 [1001, 1008, 1015, 1080, 1081, 1083, 1086, 1089, 1093, 1096, 1098, 0, 0, 0, 0, 0] rfl rfl rfl rfl ?_
  refine tr_s (.iload_n 1) 1 79 [some (.ref 1000), some (.int x1)] [.int x1, .ref 1001, .ref 1089, .ref 1001] h rfl rfl rfl ?_
  refine tr_call (.invokevirtual 294) 294 1 2 6 m_X7_dominates [.ref 1089, .ref 1001, .int x1] [.ref 1001] (some (.int v0)) h1 rfl rfl rfl rfl rfl rfl rfl rfl rfl (tr_cok rfl (Or.inr ⟨_, _, rfl, tr_rc (hh_rd (hh_obj hL (k := 89) rfl).1) (by decide)⟩)) c_0 ?_
  have hL0 := c_0.2
  exact tr_if1 .eq 10 92 v0 rfl rfl rfl (fun hc => t ((tr_eq hc).1 rfl)) (fun hc => f ((tr_eq hc).2 rfl))
theorem sg_X8_holdVote_85 {g : tr_g} {d : Nat} {h : ev_AH} {r : ev_O × ev_AH} {w0 : Option Value} {x1 v0 : Int32} {h1 h2 : ev_AH} (hL : hh_L h) (c_0 : tr_L g d m_X8_letterOf 0 [some (.int x1)] [] h (.inl (some (.int v0)), h1)) (c_1 : tr_L g d m_X2_conclude 0 [some (.ref 1001), some (.int v0), none] [] h1 (.inl none, h2)) (hr : r = (.inl (none), h2)) : tr_L g (d + 1) m_X8_holdVote 85 [w0, some (.int x1)] [.ref 1001] h r := by
  refine tr_s (.iload_n 1) 1 86 [w0, some (.int x1)] [.int x1, .ref 1001] h rfl rfl rfl ?_
  refine tr_call (.invokestatic 181) 181 2 1 0 m_X8_letterOf [.int x1] [.ref 1001] (some (.int v0)) h1 rfl rfl rfl rfl rfl rfl rfl rfl rfl (tr_cok rfl (Or.inl rfl)) c_0 ?_
  have hL0 := c_0.2
  refine tr_goto 5 94 rfl rfl rfl ?_
  refine tr_call (.invokevirtual 459) 459 1 1 1 m_X2_conclude [.ref 1001, .int v0] [] none h2 rfl rfl rfl rfl rfl rfl rfl rfl rfl (tr_cok rfl (Or.inr ⟨_, _, rfl, tr_rc (hh_rd (hh_obj hL0 (k := 1) rfl).1) (by decide)⟩)) c_1 ?_
  have hL1 := c_1.2
  exact tl_ret hL1 .return_ 1 none rfl rfl rfl rfl hr
theorem sg_X8_holdVote_92 {g : tr_g} {d : Nat} {h : ev_AH} {r : ev_O × ev_AH} {w0 w1 : Option Value} {h1 : ev_AH} (hL : hh_L h) (c_0 : tr_L g d m_X2_conclude 0 [some (.ref 1001), some (.int 45), none] [] h (.inl none, h1)) (hr : r = (.inl (none), h1)) : tr_L g (d + 1) m_X8_holdVote 92 [w0, w1] [.ref 1001] h r := by
  refine tr_bi 45 45 (by decide) rfl ?_
  refine tr_call (.invokevirtual 459) 459 1 1 1 m_X2_conclude [.ref 1001, .int 45] [] none h1 rfl rfl rfl rfl rfl rfl rfl rfl rfl (tr_cok rfl (Or.inr ⟨_, _, rfl, tr_rc (hh_rd (hh_obj hL (k := 1) rfl).1) (by decide)⟩)) c_0 ?_
  have hL0 := c_0.2
  exact tl_ret hL0 .return_ 1 none rfl rfl rfl rfl hr
theorem sg_X8_letterOf_0 {g : tr_g} {d : Nat} {h : ev_AH} {r : ev_O × ev_AH} {x0 : Int32} (hL : hh_L h) (hc0 : tr_ch (((97 + x0).toUInt32 % 65536).toInt32)) (hr : r = (.inl (some (.int (((97 + x0).toUInt32 % 65536).toInt32))), h)) : tr_L g d m_X8_letterOf 0 [some (.int x0)] [] h r := by
  refine tr_bi 97 97 (by decide) rfl ?_
  refine tr_s (.iload_n 0) 1 3 [some (.int x0)] [.int x0, .int 97] h rfl rfl rfl ?_
  refine tr_s .iadd 1 4 [some (.int x0)] [.int (97 + x0)] h rfl rfl rfl ?_
  refine tr_s .i2c 1 5 [some (.int x0)] [.int (((97 + x0).toUInt32 % 65536).toInt32)] h rfl rfl rfl ?_
  exact tl_ret hL .ireturn 1 (some (.int (((97 + x0).toUInt32 % 65536).toInt32))) rfl rfl rfl (tr_ec rfl hc0) hr
theorem sx_X8_pointsWinner_0_1 {g : tr_g} {d : Nat} {h : ev_AH} {r : ev_O × ev_AH} {h1 hx : ev_AH} {E : Nat} (hL : hh_L h) (cx : tr_L g d m_X8_requireCats 0 [some (.ref 1000)] [] h (.inr E, hx)) (hr : r = (.inr E, hx)) : tr_L g (d + 1) m_X8_pointsWinner 0 [some (.ref 1000)] [] h r := by
  refine tr_s (.aload_n 0) 1 1 [some (.ref 1000)] [.ref 1000] h rfl rfl rfl ?_
  exact tr_callx (.invokevirtual 268) 268 0 0 0 m_X8_requireCats [.ref 1000] [] E hx rfl rfl rfl rfl rfl rfl rfl rfl rfl (tr_cok rfl (Or.inr ⟨_, _, rfl, tr_rc (hh_rd (hh_obj hL (k := 0) rfl).1) (by decide)⟩)) rfl cx hr
theorem sg_X8_pointsWinner_0 {g : tr_g} {d : Nat} {h : ev_AH} {r : ev_O × ev_AH} {h1 h2 h3 : ev_AH} {v0 v1 : Int32} (hL : hh_L h) (c_0 : tr_L g d m_X8_requireCats 0 [some (.ref 1000)] [] h (.inl none, h1)) (c_1 : tr_L g d m_X7_findMostPoints 0 [some (.ref 1089), some (.ref 1001), none, none] [] h1 (.inl (some (.int v0)), h2)) (c_2 : tr_L g d m_X8_letterOf 0 [some (.int v0)] [] h2 (.inl (some (.int v1)), h3)) (hc0 : tr_ch v1) (hr : r = (.inl (some (.int v1)), h3)) : tr_L g (d + 1) m_X8_pointsWinner 0 [some (.ref 1000)] [] h r := by
  refine tr_s (.aload_n 0) 1 1 [some (.ref 1000)] [.ref 1000] h rfl rfl rfl ?_
  refine tr_call (.invokevirtual 268) 268 0 0 0 m_X8_requireCats [.ref 1000] [] none h1 rfl rfl rfl rfl rfl rfl rfl rfl rfl (tr_cok rfl (Or.inr ⟨_, _, rfl, tr_rc (hh_rd (hh_obj hL (k := 0) rfl).1) (by decide)⟩)) c_0 ?_
  have hL0 := c_0.2
  refine tr_s (.aload_n 0) 1 5 [some (.ref 1000)] [.ref 1000] h1 rfl rfl rfl ?_
  refine tl_gr hL0 53 0 0 7 89 [1001, 1008, 1015, 1080, 1081, 1083, 1086, 1089, 1093, 1096, 1098, 0, 0, 0, 0, 0] rfl rfl rfl rfl ?_
  refine tr_s (.aload_n 0) 1 9 [some (.ref 1000)] [.ref 1000, .ref 1089] h1 rfl rfl rfl ?_
  refine tl_gr hL0 10 0 0 0 1 [1001, 1008, 1015, 1080, 1081, 1083, 1086, 1089, 1093, 1096, 1098, 0, 0, 0, 0, 0] rfl rfl rfl rfl ?_
  refine tr_call (.invokevirtual 271) 271 1 1 6 m_X7_findMostPoints [.ref 1089, .ref 1001] [] (some (.int v0)) h2 rfl rfl rfl rfl rfl rfl rfl rfl rfl (tr_cok rfl (Or.inr ⟨_, _, rfl, tr_rc (hh_rd (hh_obj hL0 (k := 89) rfl).1) (by decide)⟩)) c_1 ?_
  have hL1 := c_1.2
  refine tr_call (.invokestatic 181) 181 2 1 0 m_X8_letterOf [.int v0] [] (some (.int v1)) h3 rfl rfl rfl rfl rfl rfl rfl rfl rfl (tr_cok rfl (Or.inl rfl)) c_2 ?_
  have hL2 := c_2.2
  exact tl_ret hL2 .ireturn 1 (some (.int v1)) rfl rfl rfl (tr_ec rfl hc0) hr
theorem sg_X8_requireCats_0 {g : tr_g} {d : Nat} {h : ev_AH} {r : ev_O × ev_AH} (hL : hh_L h) (t : (hh_i h 1 6) ≠ 0 → tr_L g d m_X8_requireCats 21 [some (.ref 1000)] [] h r) (f : (hh_i h 1 6) = 0 → tr_L g d m_X8_requireCats 10 [some (.ref 1000)] [] h r) : tr_L g d m_X8_requireCats 0 [some (.ref 1000)] [] h r := by
  refine tr_s (.aload_n 0) 1 1 [some (.ref 1000)] [.ref 1000] h rfl rfl rfl ?_
  refine tl_gr hL 10 0 0 0 1 [1001, 1008, 1015, 1080, 1081, 1083, 1086, 1089, 1093, 1096, 1098, 0, 0, 0, 0, 0] rfl rfl rfl rfl ?_
  refine tl_gi hL 131 1 1 6 [1002, 1003, 1004, 1005, 1006, 1007, 0, 0, 0, 0, 0, 0, 0, 0] rfl rfl rfl rfl ?_
  exact tr_if1 .ne 14 21 (hh_i h 1 6) rfl rfl rfl (fun hc => t ((tr_ne hc).1 rfl)) (fun hc => f ((tr_ne hc).2 rfl))
theorem sg_X8_requireCats_10 {g : tr_g} {d : Nat} {h : ev_AH} {r : ev_O × ev_AH} {w0 : Option Value} (hL : hh_L h) (hr : r = (.inr 3, hh_x h)) : tr_L g d m_X8_requireCats 10 [w0] [] h r := by
  exact tl_thr hL 163 3 rfl rfl rfl rfl rfl hr
theorem sg_X8_requireCats_21 {g : tr_g} {d : Nat} {h : ev_AH} {r : ev_O × ev_AH} {w0 : Option Value} (hL : hh_L h) (hr : r = (.inl (none), h)) : tr_L g d m_X8_requireCats 21 [w0] [] h r := by
  exact tl_ret hL .return_ 1 none rfl rfl rfl rfl hr
theorem sx_X8_roundsWinner_0_1 {g : tr_g} {d : Nat} {h : ev_AH} {r : ev_O × ev_AH} {h1 hx : ev_AH} {E : Nat} (hL : hh_L h) (cx : tr_L g d m_X8_requireCats 0 [some (.ref 1000)] [] h (.inr E, hx)) (hr : r = (.inr E, hx)) : tr_L g (d + 1) m_X8_roundsWinner 0 [some (.ref 1000)] [] h r := by
  refine tr_s (.aload_n 0) 1 1 [some (.ref 1000)] [.ref 1000] h rfl rfl rfl ?_
  exact tr_callx (.invokevirtual 268) 268 0 0 0 m_X8_requireCats [.ref 1000] [] E hx rfl rfl rfl rfl rfl rfl rfl rfl rfl (tr_cok rfl (Or.inr ⟨_, _, rfl, tr_rc (hh_rd (hh_obj hL (k := 0) rfl).1) (by decide)⟩)) rfl cx hr
theorem sg_X8_roundsWinner_0 {g : tr_g} {d : Nat} {h : ev_AH} {r : ev_O × ev_AH} {h1 h2 h3 : ev_AH} {v0 v1 : Int32} (hL : hh_L h) (c_0 : tr_L g d m_X8_requireCats 0 [some (.ref 1000)] [] h (.inl none, h1)) (c_1 : tr_L g d m_X7_voteInRounds 0 [some (.ref 1089), some (.ref 1001), none, none, none] [] h1 (.inl (some (.int v0)), h2)) (c_2 : tr_L g d m_X8_letterOf 0 [some (.int v0)] [] h2 (.inl (some (.int v1)), h3)) (hc0 : tr_ch v1) (hr : r = (.inl (some (.int v1)), h3)) : tr_L g (d + 1) m_X8_roundsWinner 0 [some (.ref 1000)] [] h r := by
  refine tr_s (.aload_n 0) 1 1 [some (.ref 1000)] [.ref 1000] h rfl rfl rfl ?_
  refine tr_call (.invokevirtual 268) 268 0 0 0 m_X8_requireCats [.ref 1000] [] none h1 rfl rfl rfl rfl rfl rfl rfl rfl rfl (tr_cok rfl (Or.inr ⟨_, _, rfl, tr_rc (hh_rd (hh_obj hL (k := 0) rfl).1) (by decide)⟩)) c_0 ?_
  have hL0 := c_0.2
  refine tr_s (.aload_n 0) 1 5 [some (.ref 1000)] [.ref 1000] h1 rfl rfl rfl ?_
  refine tl_gr hL0 53 0 0 7 89 [1001, 1008, 1015, 1080, 1081, 1083, 1086, 1089, 1093, 1096, 1098, 0, 0, 0, 0, 0] rfl rfl rfl rfl ?_
  refine tr_s (.aload_n 0) 1 9 [some (.ref 1000)] [.ref 1000, .ref 1089] h1 rfl rfl rfl ?_
  refine tl_gr hL0 10 0 0 0 1 [1001, 1008, 1015, 1080, 1081, 1083, 1086, 1089, 1093, 1096, 1098, 0, 0, 0, 0, 0] rfl rfl rfl rfl ?_
  refine tr_call (.invokevirtual 275) 275 1 1 6 m_X7_voteInRounds [.ref 1089, .ref 1001] [] (some (.int v0)) h2 rfl rfl rfl rfl rfl rfl rfl rfl rfl (tr_cok rfl (Or.inr ⟨_, _, rfl, tr_rc (hh_rd (hh_obj hL0 (k := 89) rfl).1) (by decide)⟩)) c_1 ?_
  have hL1 := c_1.2
  refine tr_call (.invokestatic 181) 181 2 1 0 m_X8_letterOf [.int v0] [] (some (.int v1)) h3 rfl rfl rfl rfl rfl rfl rfl rfl rfl (tr_cok rfl (Or.inl rfl)) c_2 ?_
  have hL2 := c_2.2
  exact tl_ret hL2 .ireturn 1 (some (.int v1)) rfl rfl rfl (tr_ec rfl hc0) hr
theorem sx_X8_strengthWinner_0_1 {g : tr_g} {d : Nat} {h : ev_AH} {r : ev_O × ev_AH} {h1 hx : ev_AH} {E : Nat} (hL : hh_L h) (cx : tr_L g d m_X8_requireCats 0 [some (.ref 1000)] [] h (.inr E, hx)) (hr : r = (.inr E, hx)) : tr_L g (d + 1) m_X8_strengthWinner 0 [some (.ref 1000)] [] h r := by
  refine tr_s (.aload_n 0) 1 1 [some (.ref 1000)] [.ref 1000] h rfl rfl rfl ?_
  exact tr_callx (.invokevirtual 268) 268 0 0 0 m_X8_requireCats [.ref 1000] [] E hx rfl rfl rfl rfl rfl rfl rfl rfl rfl (tr_cok rfl (Or.inr ⟨_, _, rfl, tr_rc (hh_rd (hh_obj hL (k := 0) rfl).1) (by decide)⟩)) rfl cx hr
theorem sg_X8_strengthWinner_0 {g : tr_g} {d : Nat} {h : ev_AH} {r : ev_O × ev_AH} {h1 h2 h3 : ev_AH} {v0 v1 : Int32} (hL : hh_L h) (c_0 : tr_L g d m_X8_requireCats 0 [some (.ref 1000)] [] h (.inl none, h1)) (c_1 : tr_L g d m_X7_findStrongest 0 [some (.ref 1089), some (.ref 1001), none] [] h1 (.inl (some (.int v0)), h2)) (c_2 : tr_L g d m_X8_letterOf 0 [some (.int v0)] [] h2 (.inl (some (.int v1)), h3)) (hc0 : tr_ch v1) (hr : r = (.inl (some (.int v1)), h3)) : tr_L g (d + 1) m_X8_strengthWinner 0 [some (.ref 1000)] [] h r := by
  refine tr_s (.aload_n 0) 1 1 [some (.ref 1000)] [.ref 1000] h rfl rfl rfl ?_
  refine tr_call (.invokevirtual 268) 268 0 0 0 m_X8_requireCats [.ref 1000] [] none h1 rfl rfl rfl rfl rfl rfl rfl rfl rfl (tr_cok rfl (Or.inr ⟨_, _, rfl, tr_rc (hh_rd (hh_obj hL (k := 0) rfl).1) (by decide)⟩)) c_0 ?_
  have hL0 := c_0.2
  refine tr_s (.aload_n 0) 1 5 [some (.ref 1000)] [.ref 1000] h1 rfl rfl rfl ?_
  refine tl_gr hL0 53 0 0 7 89 [1001, 1008, 1015, 1080, 1081, 1083, 1086, 1089, 1093, 1096, 1098, 0, 0, 0, 0, 0] rfl rfl rfl rfl ?_
  refine tr_s (.aload_n 0) 1 9 [some (.ref 1000)] [.ref 1000, .ref 1089] h1 rfl rfl rfl ?_
  refine tl_gr hL0 10 0 0 0 1 [1001, 1008, 1015, 1080, 1081, 1083, 1086, 1089, 1093, 1096, 1098, 0, 0, 0, 0, 0] rfl rfl rfl rfl ?_
  refine tr_call (.invokevirtual 291) 291 1 1 6 m_X7_findStrongest [.ref 1089, .ref 1001] [] (some (.int v0)) h2 rfl rfl rfl rfl rfl rfl rfl rfl rfl (tr_cok rfl (Or.inr ⟨_, _, rfl, tr_rc (hh_rd (hh_obj hL0 (k := 89) rfl).1) (by decide)⟩)) c_1 ?_
  have hL1 := c_1.2
  refine tr_call (.invokestatic 181) 181 2 1 0 m_X8_letterOf [.int v0] [] (some (.int v1)) h3 rfl rfl rfl rfl rfl rfl rfl rfl rfl (tr_cok rfl (Or.inl rfl)) c_2 ?_
  have hL2 := c_2.2
  exact tl_ret hL2 .ireturn 1 (some (.int v1)) rfl rfl rfl (tr_ec rfl hc0) hr
theorem sx_X8_addCat_0_1 {g : tr_g} {d : Nat} {h : ev_AH} {r : ev_O × ev_AH} {x1 x2 x3 x4 : Int32} {h1 hx : ev_AH} {E : Nat} (hL : hh_L h) (cx : tr_L g d m_X8_requireCell 0 [some (.int x1)] [] h (.inr E, hx)) (hr : r = (.inr E, hx)) : tr_L g (d + 1) m_X8_addCat 0 [some (.ref 1000), some (.int x1), some (.int x2), some (.int x3), some (.int x4), none] [] h r := by
  refine tr_s (.iload_n 1) 1 1 [some (.ref 1000), some (.int x1), some (.int x2), some (.int x3), some (.int x4), none] [.int x1] h rfl rfl rfl ?_
  exact tr_callx (.invokestatic 92) 92 2 1 0 m_X8_requireCell [.int x1] [] E hx rfl rfl rfl rfl rfl rfl rfl rfl rfl (tr_cok rfl (Or.inl rfl)) rfl cx hr
theorem sg_X8_addCat_0 {g : tr_g} {d : Nat} {h : ev_AH} {r : ev_O × ev_AH} {x1 x2 x3 x4 v0 : Int32} {h1 h2 : ev_AH} (hL : hh_L h) (c_0 : tr_L g d m_X8_requireCell 0 [some (.int x1)] [] h (.inl none, h1)) (c_1 : tr_L g d m_X8_areThreeOptions 0 [some (.int x2), some (.int x3), some (.int x4)] [] h1 (.inl (some (.int v0)), h2)) (t : v0 ≠ 0 → tr_L g (d + 1) m_X8_addCat 24 [some (.ref 1000), some (.int x1), some (.int x2), some (.int x3), some (.int x4), none] [] h2 r) (f : v0 = 0 → tr_L g (d + 1) m_X8_addCat 14 [some (.ref 1000), some (.int x1), some (.int x2), some (.int x3), some (.int x4), none] [] h2 r) : tr_L g (d + 1) m_X8_addCat 0 [some (.ref 1000), some (.int x1), some (.int x2), some (.int x3), some (.int x4), none] [] h r := by
  refine tr_s (.iload_n 1) 1 1 [some (.ref 1000), some (.int x1), some (.int x2), some (.int x3), some (.int x4), none] [.int x1] h rfl rfl rfl ?_
  refine tr_call (.invokestatic 92) 92 2 1 0 m_X8_requireCell [.int x1] [] none h1 rfl rfl rfl rfl rfl rfl rfl rfl rfl (tr_cok rfl (Or.inl rfl)) c_0 ?_
  have hL0 := c_0.2
  refine tr_s (.iload_n 2) 1 5 [some (.ref 1000), some (.int x1), some (.int x2), some (.int x3), some (.int x4), none] [.int x2] h1 rfl rfl rfl ?_
  refine tr_s (.iload_n 3) 1 6 [some (.ref 1000), some (.int x1), some (.int x2), some (.int x3), some (.int x4), none] [.int x3, .int x2] h1 rfl rfl rfl ?_
  refine tr_s (.iload 4) 2 8 [some (.ref 1000), some (.int x1), some (.int x2), some (.int x3), some (.int x4), none] [.int x4, .int x3, .int x2] h1 rfl rfl rfl ?_
  refine tr_call (.invokestatic 96) 96 2 3 0 m_X8_areThreeOptions [.int x2, .int x3, .int x4] [] (some (.int v0)) h2 rfl rfl rfl rfl rfl rfl rfl rfl rfl (tr_cok rfl (Or.inl rfl)) c_1 ?_
  have hL1 := c_1.2
  exact tr_if1 .ne 13 24 v0 rfl rfl rfl (fun hc => t ((tr_ne hc).1 rfl)) (fun hc => f ((tr_ne hc).2 rfl))
theorem sg_X8_addCat_14 {g : tr_g} {d : Nat} {h : ev_AH} {r : ev_O × ev_AH} {w0 w1 w2 w3 w4 w5 : Option Value} (hL : hh_L h) (hr : r = (.inr 1, hh_x h)) : tr_L g d m_X8_addCat 14 [w0, w1, w2, w3, w4, w5] [] h r := by
  exact tl_thr hL 100 1 rfl rfl rfl rfl rfl hr
theorem sg_X8_addCat_24 {g : tr_g} {d : Nat} {h : ev_AH} {r : ev_O × ev_AH} {x1 x2 x3 x4 v0 : Int32} {w5 : Option Value} {h1 : ev_AH} (hL : hh_L h) (c_0 : tr_L g d m_X2_reasonAgainstCat 0 [some (.ref 1001), some (.int x1)] [] h (.inl (some (.int v0)), h1)) (t : v0 = 0 → tr_L g (d + 1) m_X8_addCat 74 [some (.ref 1000), some (.int x1), some (.int x2), some (.int x3), some (.int x4), some (.int v0)] [] h1 r) (f : v0 ≠ 0 → tr_L g (d + 1) m_X8_addCat 39 [some (.ref 1000), some (.int x1), some (.int x2), some (.int x3), some (.int x4), some (.int v0)] [] h1 r) : tr_L g (d + 1) m_X8_addCat 24 [some (.ref 1000), some (.int x1), some (.int x2), some (.int x3), some (.int x4), w5] [] h r := by
  refine tr_s (.aload_n 0) 1 25 [some (.ref 1000), some (.int x1), some (.int x2), some (.int x3), some (.int x4), w5] [.ref 1000] h rfl rfl rfl ?_
  refine tl_gr hL 10 0 0 0 1 [1001, 1008, 1015, 1080, 1081, 1083, 1086, 1089, 1093, 1096, 1098, 0, 0, 0, 0, 0] rfl rfl rfl rfl ?_
  refine tr_s (.iload_n 1) 1 29 [some (.ref 1000), some (.int x1), some (.int x2), some (.int x3), some (.int x4), w5] [.int x1, .ref 1001] h rfl rfl rfl ?_
  refine tr_call (.invokevirtual 107) 107 1 1 1 m_X2_reasonAgainstCat [.ref 1001, .int x1] [] (some (.int v0)) h1 rfl rfl rfl rfl rfl rfl rfl rfl rfl (tr_cok rfl (Or.inr ⟨_, _, rfl, tr_rc (hh_rd (hh_obj hL (k := 1) rfl).1) (by decide)⟩)) c_0 ?_
  have hL0 := c_0.2
  refine tr_st (.istore 5) 2 5 0 (.int v0) rfl rfl rfl rfl rfl rfl rfl ?_
  refine tr_s (.iload 5) 2 36 [some (.ref 1000), some (.int x1), some (.int x2), some (.int x3), some (.int x4), some (.int v0)] [.int v0] h1 rfl rfl rfl ?_
  exact tr_if1 .eq 38 74 v0 rfl rfl rfl (fun hc => t ((tr_eq hc).1 rfl)) (fun hc => f ((tr_eq hc).2 rfl))
theorem sg_X8_addCat_39 {g : tr_g} {d : Nat} {h : ev_AH} {r : ev_O × ev_AH} {x1 x5 : Int32} {w2 w3 w4 : Option Value} (hL : hh_L h) (t : x5 ≠ 1 → tr_L g d m_X8_addCat 53 [some (.ref 1000), some (.int x1), w2, w3, w4, some (.int x5)] [.int x5, .ref 1000] h r) (f : x5 = 1 → tr_L g d m_X8_addCat 48 [some (.ref 1000), some (.int x1), w2, w3, w4, some (.int x5)] [.int x5, .ref 1000] h r) : tr_L g d m_X8_addCat 39 [some (.ref 1000), some (.int x1), w2, w3, w4, some (.int x5)] [] h r := by
  refine tr_s (.aload_n 0) 1 40 [some (.ref 1000), some (.int x1), w2, w3, w4, some (.int x5)] [.ref 1000] h rfl rfl rfl ?_
  refine tr_s (.iload 5) 2 42 [some (.ref 1000), some (.int x1), w2, w3, w4, some (.int x5)] [.int x5, .ref 1000] h rfl rfl rfl ?_
  refine tr_s (.iload 5) 2 44 [some (.ref 1000), some (.int x1), w2, w3, w4, some (.int x5)] [.int x5, .int x5, .ref 1000] h rfl rfl rfl ?_
  refine tr_ic 1 1 (by decide) rfl ?_
  exact tr_if2 .ne 8 53 x5 1 rfl rfl rfl (fun hc => t ((tr_ne hc).1 rfl)) (fun hc => f ((tr_ne hc).2 rfl))
theorem sg_X8_addCat_48 {g : tr_g} {d : Nat} {h : ev_AH} {r : ev_O × ev_AH} {w0 w1 w2 w3 w4 w5 : Option Value} {s1 : Int32} {h1 : ev_AH} (hL : hh_L h) (c_0 : tr_L g d m_X8_reject 0 [some (.ref 1000), some (.int s1), some (.int 7)] [] h (.inl none, h1)) (hr : r = (.inr 2, hh_x h1)) : tr_L g (d + 1) m_X8_addCat 48 [w0, w1, w2, w3, w4, w5] [.int s1, .ref 1000] h r := by
  refine tr_bi 7 7 (by decide) rfl ?_
  refine tr_goto 11 61 rfl rfl rfl ?_
  refine tr_call (.invokevirtual 114) 114 0 2 0 m_X8_reject [.ref 1000, .int s1, .int 7] [] none h1 rfl rfl rfl rfl rfl rfl rfl rfl rfl (tr_cok rfl (Or.inr ⟨_, _, rfl, tr_rc (hh_rd (hh_obj hL (k := 0) rfl).1) (by decide)⟩)) c_0 ?_
  have hL0 := c_0.2
  exact tl_thr hL0 118 2 rfl rfl rfl rfl rfl hr
theorem sg_X8_addCat_53 {g : tr_g} {d : Nat} {h : ev_AH} {r : ev_O × ev_AH} {x1 s1 v0 : Int32} {w2 w3 w4 w5 : Option Value} {h1 h2 : ev_AH} (hL : hh_L h) (c_0 : tr_L g d m_X2_findCat 0 [some (.ref 1001), some (.int x1), none] [] h (.inl (some (.int v0)), h1)) (c_1 : tr_L g d m_X8_reject 0 [some (.ref 1000), some (.int s1), some (.int v0)] [] h1 (.inl none, h2)) (hr : r = (.inr 2, hh_x h2)) : tr_L g (d + 1) m_X8_addCat 53 [some (.ref 1000), some (.int x1), w2, w3, w4, w5] [.int s1, .ref 1000] h r := by
  refine tr_s (.aload_n 0) 1 54 [some (.ref 1000), some (.int x1), w2, w3, w4, w5] [.ref 1000, .int s1, .ref 1000] h rfl rfl rfl ?_
  refine tl_gr hL 10 0 0 0 1 [1001, 1008, 1015, 1080, 1081, 1083, 1086, 1089, 1093, 1096, 1098, 0, 0, 0, 0, 0] rfl rfl rfl rfl ?_
  refine tr_s (.iload_n 1) 1 58 [some (.ref 1000), some (.int x1), w2, w3, w4, w5] [.int x1, .ref 1001, .int s1, .ref 1000] h rfl rfl rfl ?_
  refine tr_call (.invokevirtual 111) 111 1 1 1 m_X2_findCat [.ref 1001, .int x1] [.int s1, .ref 1000] (some (.int v0)) h1 rfl rfl rfl rfl rfl rfl rfl rfl rfl (tr_cok rfl (Or.inr ⟨_, _, rfl, tr_rc (hh_rd (hh_obj hL (k := 1) rfl).1) (by decide)⟩)) c_0 ?_
  have hL0 := c_0.2
  refine tr_call (.invokevirtual 114) 114 0 2 0 m_X8_reject [.ref 1000, .int s1, .int v0] [] none h2 rfl rfl rfl rfl rfl rfl rfl rfl rfl (tr_cok rfl (Or.inr ⟨_, _, rfl, tr_rc (hh_rd (hh_obj hL0 (k := 0) rfl).1) (by decide)⟩)) c_1 ?_
  have hL1 := c_1.2
  exact tl_thr hL1 118 2 rfl rfl rfl rfl rfl hr
theorem sg_X8_addCat_74 {g : tr_g} {d : Nat} {h : ev_AH} {r : ev_O × ev_AH} {x1 x2 x3 x4 : Int32} {w5 : Option Value} {h1 h2 : ev_AH} (hL : hh_L h) (c_0 : tr_L g d m_X3_keep 0 [some (.ref 1015), some (.ref 1001)] [] h (.inl none, h1)) (c_1 : tr_L g d m_X2_seatCat 0 [some (.ref 1001), some (.int x1), some (.int x2), some (.int x3), some (.int x4), none, none, none, none] [] h1 (.inl none, h2)) (hr : r = (.inl (some (.int ((hh_i h2 1 6) - 1))), h2)) : tr_L g (d + 1) m_X8_addCat 74 [some (.ref 1000), some (.int x1), some (.int x2), some (.int x3), some (.int x4), w5] [] h r := by
  refine tr_s (.aload_n 0) 1 75 [some (.ref 1000), some (.int x1), some (.int x2), some (.int x3), some (.int x4), w5] [.ref 1000] h rfl rfl rfl ?_
  refine tl_gr hL 22 0 0 2 15 [1001, 1008, 1015, 1080, 1081, 1083, 1086, 1089, 1093, 1096, 1098, 0, 0, 0, 0, 0] rfl rfl rfl rfl ?_
  refine tr_s (.aload_n 0) 1 79 [some (.ref 1000), some (.int x1), some (.int x2), some (.int x3), some (.int x4), w5] [.ref 1000, .ref 1015] h rfl rfl rfl ?_
  refine tl_gr hL 10 0 0 0 1 [1001, 1008, 1015, 1080, 1081, 1083, 1086, 1089, 1093, 1096, 1098, 0, 0, 0, 0, 0] rfl rfl rfl rfl ?_
  refine tr_call (.invokevirtual 123) 123 1 1 2 m_X3_keep [.ref 1015, .ref 1001] [] none h1 rfl rfl rfl rfl rfl rfl rfl rfl rfl (tr_cok rfl (Or.inr ⟨_, _, rfl, tr_rc (hh_rd (hh_obj hL (k := 15) rfl).1) (by decide)⟩)) c_0 ?_
  have hL0 := c_0.2
  refine tr_s (.aload_n 0) 1 86 [some (.ref 1000), some (.int x1), some (.int x2), some (.int x3), some (.int x4), w5] [.ref 1000] h1 rfl rfl rfl ?_
  refine tl_gr hL0 10 0 0 0 1 [1001, 1008, 1015, 1080, 1081, 1083, 1086, 1089, 1093, 1096, 1098, 0, 0, 0, 0, 0] rfl rfl rfl rfl ?_
  refine tr_s (.iload_n 1) 1 90 [some (.ref 1000), some (.int x1), some (.int x2), some (.int x3), some (.int x4), w5] [.int x1, .ref 1001] h1 rfl rfl rfl ?_
  refine tr_s (.iload_n 2) 1 91 [some (.ref 1000), some (.int x1), some (.int x2), some (.int x3), some (.int x4), w5] [.int x2, .int x1, .ref 1001] h1 rfl rfl rfl ?_
  refine tr_s (.iload_n 3) 1 92 [some (.ref 1000), some (.int x1), some (.int x2), some (.int x3), some (.int x4), w5] [.int x3, .int x2, .int x1, .ref 1001] h1 rfl rfl rfl ?_
  refine tr_s (.iload 4) 2 94 [some (.ref 1000), some (.int x1), some (.int x2), some (.int x3), some (.int x4), w5] [.int x4, .int x3, .int x2, .int x1, .ref 1001] h1 rfl rfl rfl ?_
  refine tr_call (.invokevirtual 127) 127 1 4 1 m_X2_seatCat [.ref 1001, .int x1, .int x2, .int x3, .int x4] [] none h2 rfl rfl rfl rfl rfl rfl rfl rfl rfl (tr_cok rfl (Or.inr ⟨_, _, rfl, tr_rc (hh_rd (hh_obj hL0 (k := 1) rfl).1) (by decide)⟩)) c_1 ?_
  have hL1 := c_1.2
  refine tr_s (.aload_n 0) 1 98 [some (.ref 1000), some (.int x1), some (.int x2), some (.int x3), some (.int x4), w5] [.ref 1000] h2 rfl rfl rfl ?_
  refine tl_gr hL1 10 0 0 0 1 [1001, 1008, 1015, 1080, 1081, 1083, 1086, 1089, 1093, 1096, 1098, 0, 0, 0, 0, 0] rfl rfl rfl rfl ?_
  refine tl_gi hL1 131 1 1 6 [1002, 1003, 1004, 1005, 1006, 1007, 0, 0, 0, 0, 0, 0, 0, 0] rfl rfl rfl rfl ?_
  refine tr_ic 1 1 (by decide) rfl ?_
  refine tr_s .isub 1 106 [some (.ref 1000), some (.int x1), some (.int x2), some (.int x3), some (.int x4), w5] [.int ((hh_i h2 1 6) - 1)] h2 rfl rfl rfl ?_
  exact tl_ret hL1 .ireturn 1 (some (.int ((hh_i h2 1 6) - 1))) rfl rfl rfl rfl hr
theorem sg_X8_areThreeOptions_0 {g : tr_g} {d : Nat} {h : ev_AH} {r : ev_O × ev_AH} {x0 x1 x2 v0 : Int32} {h1 : ev_AH} (hL : hh_L h) (c_0 : tr_L g d m_X8_isOption 0 [some (.int x0)] [] h (.inl (some (.int v0)), h1)) (t : v0 = 0 → tr_L g (d + 1) m_X8_areThreeOptions 40 [some (.int x0), some (.int x1), some (.int x2)] [] h1 r) (f : v0 ≠ 0 → tr_L g (d + 1) m_X8_areThreeOptions 7 [some (.int x0), some (.int x1), some (.int x2)] [] h1 r) : tr_L g (d + 1) m_X8_areThreeOptions 0 [some (.int x0), some (.int x1), some (.int x2)] [] h r := by
  refine tr_s (.iload_n 0) 1 1 [some (.int x0), some (.int x1), some (.int x2)] [.int x0] h rfl rfl rfl ?_
  refine tr_call (.invokestatic 437) 437 2 1 0 m_X8_isOption [.int x0] [] (some (.int v0)) h1 rfl rfl rfl rfl rfl rfl rfl rfl rfl (tr_cok rfl (Or.inl rfl)) c_0 ?_
  have hL0 := c_0.2
  exact tr_if1 .eq 36 40 v0 rfl rfl rfl (fun hc => t ((tr_eq hc).1 rfl)) (fun hc => f ((tr_eq hc).2 rfl))
theorem sg_X8_areThreeOptions_7 {g : tr_g} {d : Nat} {h : ev_AH} {r : ev_O × ev_AH} {x0 x1 x2 v0 : Int32} {h1 : ev_AH} (hL : hh_L h) (c_0 : tr_L g d m_X8_isOption 0 [some (.int x1)] [] h (.inl (some (.int v0)), h1)) (t : v0 = 0 → tr_L g (d + 1) m_X8_areThreeOptions 40 [some (.int x0), some (.int x1), some (.int x2)] [] h1 r) (f : v0 ≠ 0 → tr_L g (d + 1) m_X8_areThreeOptions 14 [some (.int x0), some (.int x1), some (.int x2)] [] h1 r) : tr_L g (d + 1) m_X8_areThreeOptions 7 [some (.int x0), some (.int x1), some (.int x2)] [] h r := by
  refine tr_s (.iload_n 1) 1 8 [some (.int x0), some (.int x1), some (.int x2)] [.int x1] h rfl rfl rfl ?_
  refine tr_call (.invokestatic 437) 437 2 1 0 m_X8_isOption [.int x1] [] (some (.int v0)) h1 rfl rfl rfl rfl rfl rfl rfl rfl rfl (tr_cok rfl (Or.inl rfl)) c_0 ?_
  have hL0 := c_0.2
  exact tr_if1 .eq 29 40 v0 rfl rfl rfl (fun hc => t ((tr_eq hc).1 rfl)) (fun hc => f ((tr_eq hc).2 rfl))
theorem sg_X8_areThreeOptions_14 {g : tr_g} {d : Nat} {h : ev_AH} {r : ev_O × ev_AH} {x0 x1 x2 v0 : Int32} {h1 : ev_AH} (hL : hh_L h) (c_0 : tr_L g d m_X8_isOption 0 [some (.int x2)] [] h (.inl (some (.int v0)), h1)) (t : v0 = 0 → tr_L g (d + 1) m_X8_areThreeOptions 40 [some (.int x0), some (.int x1), some (.int x2)] [] h1 r) (f : v0 ≠ 0 → tr_L g (d + 1) m_X8_areThreeOptions 21 [some (.int x0), some (.int x1), some (.int x2)] [] h1 r) : tr_L g (d + 1) m_X8_areThreeOptions 14 [some (.int x0), some (.int x1), some (.int x2)] [] h r := by
  refine tr_s (.iload_n 2) 1 15 [some (.int x0), some (.int x1), some (.int x2)] [.int x2] h rfl rfl rfl ?_
  refine tr_call (.invokestatic 437) 437 2 1 0 m_X8_isOption [.int x2] [] (some (.int v0)) h1 rfl rfl rfl rfl rfl rfl rfl rfl rfl (tr_cok rfl (Or.inl rfl)) c_0 ?_
  have hL0 := c_0.2
  exact tr_if1 .eq 22 40 v0 rfl rfl rfl (fun hc => t ((tr_eq hc).1 rfl)) (fun hc => f ((tr_eq hc).2 rfl))
theorem sg_X8_areThreeOptions_21 {g : tr_g} {d : Nat} {h : ev_AH} {r : ev_O × ev_AH} {x0 x1 x2 : Int32} (hL : hh_L h) (t : x0 = x1 → tr_L g d m_X8_areThreeOptions 40 [some (.int x0), some (.int x1), some (.int x2)] [] h r) (f : x0 ≠ x1 → tr_L g d m_X8_areThreeOptions 26 [some (.int x0), some (.int x1), some (.int x2)] [] h r) : tr_L g d m_X8_areThreeOptions 21 [some (.int x0), some (.int x1), some (.int x2)] [] h r := by
  refine tr_s (.iload_n 0) 1 22 [some (.int x0), some (.int x1), some (.int x2)] [.int x0] h rfl rfl rfl ?_
  refine tr_s (.iload_n 1) 1 23 [some (.int x0), some (.int x1), some (.int x2)] [.int x1, .int x0] h rfl rfl rfl ?_
  exact tr_if2 .eq 17 40 x0 x1 rfl rfl rfl (fun hc => t ((tr_eq hc).1 rfl)) (fun hc => f ((tr_eq hc).2 rfl))
theorem sg_X8_areThreeOptions_26 {g : tr_g} {d : Nat} {h : ev_AH} {r : ev_O × ev_AH} {x0 x1 x2 : Int32} (hL : hh_L h) (t : x0 = x2 → tr_L g d m_X8_areThreeOptions 40 [some (.int x0), some (.int x1), some (.int x2)] [] h r) (f : x0 ≠ x2 → tr_L g d m_X8_areThreeOptions 31 [some (.int x0), some (.int x1), some (.int x2)] [] h r) : tr_L g d m_X8_areThreeOptions 26 [some (.int x0), some (.int x1), some (.int x2)] [] h r := by
  refine tr_s (.iload_n 0) 1 27 [some (.int x0), some (.int x1), some (.int x2)] [.int x0] h rfl rfl rfl ?_
  refine tr_s (.iload_n 2) 1 28 [some (.int x0), some (.int x1), some (.int x2)] [.int x2, .int x0] h rfl rfl rfl ?_
  exact tr_if2 .eq 12 40 x0 x2 rfl rfl rfl (fun hc => t ((tr_eq hc).1 rfl)) (fun hc => f ((tr_eq hc).2 rfl))
theorem sg_X8_areThreeOptions_31 {g : tr_g} {d : Nat} {h : ev_AH} {r : ev_O × ev_AH} {w0 : Option Value} {x1 x2 : Int32} (hL : hh_L h) (t : x1 = x2 → tr_L g d m_X8_areThreeOptions 40 [w0, some (.int x1), some (.int x2)] [] h r) (f : x1 ≠ x2 → tr_L g d m_X8_areThreeOptions 36 [w0, some (.int x1), some (.int x2)] [] h r) : tr_L g d m_X8_areThreeOptions 31 [w0, some (.int x1), some (.int x2)] [] h r := by
  refine tr_s (.iload_n 1) 1 32 [w0, some (.int x1), some (.int x2)] [.int x1] h rfl rfl rfl ?_
  refine tr_s (.iload_n 2) 1 33 [w0, some (.int x1), some (.int x2)] [.int x2, .int x1] h rfl rfl rfl ?_
  exact tr_if2 .eq 7 40 x1 x2 rfl rfl rfl (fun hc => t ((tr_eq hc).1 rfl)) (fun hc => f ((tr_eq hc).2 rfl))
theorem sg_X8_areThreeOptions_36 {g : tr_g} {d : Nat} {h : ev_AH} {r : ev_O × ev_AH} {w0 w1 w2 : Option Value} (hL : hh_L h) (hr : r = (.inl (some (.int 1)), h)) : tr_L g d m_X8_areThreeOptions 36 [w0, w1, w2] [] h r := by
  refine tr_ic 1 1 (by decide) rfl ?_
  refine tr_goto 4 41 rfl rfl rfl ?_
  exact tl_ret hL .ireturn 1 (some (.int 1)) rfl rfl rfl rfl hr
theorem sg_X8_areThreeOptions_40 {g : tr_g} {d : Nat} {h : ev_AH} {r : ev_O × ev_AH} {w0 w1 w2 : Option Value} (hL : hh_L h) (hr : r = (.inl (some (.int 0)), h)) : tr_L g d m_X8_areThreeOptions 40 [w0, w1, w2] [] h r := by
  refine tr_ic 0 0 (by decide) rfl ?_
  exact tl_ret hL .ireturn 1 (some (.int 0)) rfl rfl rfl rfl hr
theorem sg_X8_setMethod_0 {g : tr_g} {d : Nat} {h : ev_AH} {r : ev_O × ev_AH} {x1 v0 : Int32} {h1 : ev_AH} (hL : hh_L h) (c_0 : tr_L g d m_X8_isMethod 0 [some (.int x1)] [] h (.inl (some (.int v0)), h1)) (t : v0 ≠ 0 → tr_L g (d + 1) m_X8_setMethod 18 [some (.ref 1000), some (.int x1), none] [] h1 r) (f : v0 = 0 → tr_L g (d + 1) m_X8_setMethod 7 [some (.ref 1000), some (.int x1), none] [] h1 r) : tr_L g (d + 1) m_X8_setMethod 0 [some (.ref 1000), some (.int x1), none] [] h r := by
  refine tr_s (.iload_n 1) 1 1 [some (.ref 1000), some (.int x1), none] [.int x1] h rfl rfl rfl ?_
  refine tr_call (.invokestatic 298) 298 2 1 0 m_X8_isMethod [.int x1] [] (some (.int v0)) h1 rfl rfl rfl rfl rfl rfl rfl rfl rfl (tr_cok rfl (Or.inl rfl)) c_0 ?_
  have hL0 := c_0.2
  exact tr_if1 .ne 14 18 v0 rfl rfl rfl (fun hc => t ((tr_ne hc).1 rfl)) (fun hc => f ((tr_ne hc).2 rfl))
theorem sg_X8_setMethod_7 {g : tr_g} {d : Nat} {h : ev_AH} {r : ev_O × ev_AH} {w0 w1 w2 : Option Value} (hL : hh_L h) (hr : r = (.inr 1, hh_x h)) : tr_L g d m_X8_setMethod 7 [w0, w1, w2] [] h r := by
  exact tl_thr hL 100 1 rfl rfl rfl rfl rfl hr
theorem sg_X8_setMethod_18 {g : tr_g} {d : Nat} {h : ev_AH} {r : ev_O × ev_AH} {x1 : Int32} {w2 : Option Value} {h1 : ev_AH} (hL : hh_L h) (c_0 : tr_L g d m_X3_keep 0 [some (.ref 1015), some (.ref 1001)] [] h (.inl none, h1)) (hc0 : tr_ch x1) (hc1 : tr_ch (hh_i h1 1 7)) (hr : r = (.inl (some (.int (hh_i h1 1 7))), hh_si h1 1 1 7 x1)) : tr_L g (d + 1) m_X8_setMethod 18 [some (.ref 1000), some (.int x1), w2] [] h r := by
  refine tr_s (.aload_n 0) 1 19 [some (.ref 1000), some (.int x1), w2] [.ref 1000] h rfl rfl rfl ?_
  refine tl_gr hL 22 0 0 2 15 [1001, 1008, 1015, 1080, 1081, 1083, 1086, 1089, 1093, 1096, 1098, 0, 0, 0, 0, 0] rfl rfl rfl rfl ?_
  refine tr_s (.aload_n 0) 1 23 [some (.ref 1000), some (.int x1), w2] [.ref 1000, .ref 1015] h rfl rfl rfl ?_
  refine tl_gr hL 10 0 0 0 1 [1001, 1008, 1015, 1080, 1081, 1083, 1086, 1089, 1093, 1096, 1098, 0, 0, 0, 0, 0] rfl rfl rfl rfl ?_
  refine tr_call (.invokevirtual 123) 123 1 1 2 m_X3_keep [.ref 1015, .ref 1001] [] none h1 rfl rfl rfl rfl rfl rfl rfl rfl rfl (tr_cok rfl (Or.inr ⟨_, _, rfl, tr_rc (hh_rd (hh_obj hL (k := 15) rfl).1) (by decide)⟩)) c_0 ?_
  have hL0 := c_0.2
  refine tr_s (.aload_n 0) 1 30 [some (.ref 1000), some (.int x1), w2] [.ref 1000] h1 rfl rfl rfl ?_
  refine tl_gr hL0 10 0 0 0 1 [1001, 1008, 1015, 1080, 1081, 1083, 1086, 1089, 1093, 1096, 1098, 0, 0, 0, 0, 0] rfl rfl rfl rfl ?_
  refine tl_gi hL0 303 1 1 7 [1002, 1003, 1004, 1005, 1006, 1007, 0, 0, 0, 0, 0, 0, 0, 0] rfl rfl rfl rfl ?_
  refine tr_st (.istore_n 2) 1 2 0 (.int (hh_i h1 1 7)) rfl rfl rfl rfl rfl rfl rfl ?_
  refine tr_s (.aload_n 0) 1 38 [some (.ref 1000), some (.int x1), some (.int (hh_i h1 1 7))] [.ref 1000] h1 rfl rfl rfl ?_
  refine tl_gr hL0 10 0 0 0 1 [1001, 1008, 1015, 1080, 1081, 1083, 1086, 1089, 1093, 1096, 1098, 0, 0, 0, 0, 0] rfl rfl rfl rfl ?_
  refine tr_s (.iload_n 1) 1 42 [some (.ref 1000), some (.int x1), some (.int (hh_i h1 1 7))] [.int x1, .ref 1001] h1 rfl rfl rfl ?_
  refine tl_pf hL0 303 1 1 7 [1002, 1003, 1004, 1005, 1006, 1007, 0, 0, 0, 0, 0, 0, 0, 0] x1 .char rfl rfl rfl rfl rfl (tr_okc hc0) ?_
  have hL1 := hh_L_si (sl := 7) (x := x1) hL0 (show hh_t[1]? = some (.inr (1, [1002, 1003, 1004, 1005, 1006, 1007, 0, 0, 0, 0, 0, 0, 0, 0])) from rfl) rfl
  refine tr_s (.iload_n 2) 1 46 [some (.ref 1000), some (.int x1), some (.int (hh_i h1 1 7))] [.int (hh_i h1 1 7)] (hh_si h1 1 1 7 x1) rfl rfl rfl ?_
  exact tl_ret hL1 .ireturn 1 (some (.int (hh_i h1 1 7))) rfl rfl rfl (tr_ec rfl hc1) hr
theorem sg_X8_isMethod_0 {g : tr_g} {d : Nat} {h : ev_AH} {r : ev_O × ev_AH} {x0 : Int32} (hL : hh_L h) (t : x0 = 112 → tr_L g d m_X8_isMethod 18 [some (.int x0)] [] h r) (f : x0 ≠ 112 → tr_L g d m_X8_isMethod 6 [some (.int x0)] [] h r) : tr_L g d m_X8_isMethod 0 [some (.int x0)] [] h r := by
  refine tr_s (.iload_n 0) 1 1 [some (.int x0)] [.int x0] h rfl rfl rfl ?_
  refine tr_bi 112 112 (by decide) rfl ?_
  exact tr_if2 .eq 15 18 x0 112 rfl rfl rfl (fun hc => t ((tr_eq hc).1 rfl)) (fun hc => f ((tr_eq hc).2 rfl))
theorem sg_X8_isMethod_6 {g : tr_g} {d : Nat} {h : ev_AH} {r : ev_O × ev_AH} {x0 : Int32} (hL : hh_L h) (t : x0 = 114 → tr_L g d m_X8_isMethod 18 [some (.int x0)] [] h r) (f : x0 ≠ 114 → tr_L g d m_X8_isMethod 12 [some (.int x0)] [] h r) : tr_L g d m_X8_isMethod 6 [some (.int x0)] [] h r := by
  refine tr_s (.iload_n 0) 1 7 [some (.int x0)] [.int x0] h rfl rfl rfl ?_
  refine tr_bi 114 114 (by decide) rfl ?_
  exact tr_if2 .eq 9 18 x0 114 rfl rfl rfl (fun hc => t ((tr_eq hc).1 rfl)) (fun hc => f ((tr_eq hc).2 rfl))
theorem sg_X8_isMethod_12 {g : tr_g} {d : Nat} {h : ev_AH} {r : ev_O × ev_AH} {x0 : Int32} (hL : hh_L h) (t : x0 ≠ 115 → tr_L g d m_X8_isMethod 22 [some (.int x0)] [] h r) (f : x0 = 115 → tr_L g d m_X8_isMethod 18 [some (.int x0)] [] h r) : tr_L g d m_X8_isMethod 12 [some (.int x0)] [] h r := by
  refine tr_s (.iload_n 0) 1 13 [some (.int x0)] [.int x0] h rfl rfl rfl ?_
  refine tr_bi 115 115 (by decide) rfl ?_
  exact tr_if2 .ne 7 22 x0 115 rfl rfl rfl (fun hc => t ((tr_ne hc).1 rfl)) (fun hc => f ((tr_ne hc).2 rfl))
theorem sg_X8_isMethod_18 {g : tr_g} {d : Nat} {h : ev_AH} {r : ev_O × ev_AH} {w0 : Option Value} (hL : hh_L h) (hr : r = (.inl (some (.int 1)), h)) : tr_L g d m_X8_isMethod 18 [w0] [] h r := by
  refine tr_ic 1 1 (by decide) rfl ?_
  refine tr_goto 4 23 rfl rfl rfl ?_
  exact tl_ret hL .ireturn 1 (some (.int 1)) rfl rfl rfl rfl hr
theorem sg_X8_isMethod_22 {g : tr_g} {d : Nat} {h : ev_AH} {r : ev_O × ev_AH} {w0 : Option Value} (hL : hh_L h) (hr : r = (.inl (some (.int 0)), h)) : tr_L g d m_X8_isMethod 22 [w0] [] h r := by
  refine tr_ic 0 0 (by decide) rfl ?_
  exact tl_ret hL .ireturn 1 (some (.int 0)) rfl rfl rfl rfl hr
theorem sg_X8_appendInput_0 {g : tr_g} {d : Nat} {h : ev_AH} {r : ev_O × ev_AH} {x1 : Int32} (hL : hh_L h) (t : x1 < 32 → tr_L g d m_X8_appendInput 12 [some (.ref 1000), some (.int x1)] [] h r) (f : 32 ≤ x1 → tr_L g d m_X8_appendInput 6 [some (.ref 1000), some (.int x1)] [] h r) : tr_L g d m_X8_appendInput 0 [some (.ref 1000), some (.int x1)] [] h r := by
  refine tr_s (.iload_n 1) 1 1 [some (.ref 1000), some (.int x1)] [.int x1] h rfl rfl rfl ?_
  refine tr_bi 32 32 (by decide) rfl ?_
  exact tr_if2 .lt 9 12 x1 32 rfl rfl rfl (fun hc => t ((tr_lt hc).1 rfl)) (fun hc => f ((tr_lt hc).2 rfl))
theorem sg_X8_appendInput_6 {g : tr_g} {d : Nat} {h : ev_AH} {r : ev_O × ev_AH} {x1 : Int32} (hL : hh_L h) (t : x1 ≤ 126 → tr_L g d m_X8_appendInput 23 [some (.ref 1000), some (.int x1)] [] h r) (f : 126 < x1 → tr_L g d m_X8_appendInput 12 [some (.ref 1000), some (.int x1)] [] h r) : tr_L g d m_X8_appendInput 6 [some (.ref 1000), some (.int x1)] [] h r := by
  refine tr_s (.iload_n 1) 1 7 [some (.ref 1000), some (.int x1)] [.int x1] h rfl rfl rfl ?_
  refine tr_bi 126 126 (by decide) rfl ?_
  exact tr_if2 .le 14 23 x1 126 rfl rfl rfl (fun hc => t ((tr_le hc).1 rfl)) (fun hc => f ((tr_le hc).2 rfl))
theorem sg_X8_appendInput_12 {g : tr_g} {d : Nat} {h : ev_AH} {r : ev_O × ev_AH} {w0 w1 : Option Value} (hL : hh_L h) (hr : r = (.inr 1, hh_x h)) : tr_L g d m_X8_appendInput 12 [w0, w1] [] h r := by
  exact tl_thr hL 100 1 rfl rfl rfl rfl rfl hr
theorem sg_X8_appendInput_23 {g : tr_g} {d : Nat} {h : ev_AH} {r : ev_O × ev_AH} {x1 v0 : Int32} {h1 : ev_AH} (hL : hh_L h) (c_0 : tr_L g d m_J4_length_8abf5 0 [some (.ref 1094)] [] h (.inl (some (.int v0)), h1)) (t : v0 < 60 → tr_L g (d + 1) m_X8_appendInput 49 [some (.ref 1000), some (.int x1)] [] h1 r) (f : 60 ≤ v0 → tr_L g (d + 1) m_X8_appendInput 38 [some (.ref 1000), some (.int x1)] [] h1 r) : tr_L g (d + 1) m_X8_appendInput 23 [some (.ref 1000), some (.int x1)] [] h r := by
  refine tr_s (.aload_n 0) 1 24 [some (.ref 1000), some (.int x1)] [.ref 1000] h rfl rfl rfl ?_
  refine tl_gr hL 60 0 0 8 93 [1001, 1008, 1015, 1080, 1081, 1083, 1086, 1089, 1093, 1096, 1098, 0, 0, 0, 0, 0] rfl rfl rfl rfl ?_
  refine tl_gr hL 385 93 7 0 94 [1094, 0, 0, 0, 0, 0, 0] rfl rfl rfl rfl ?_
  refine tr_call (.invokevirtual 373) 373 0 0 9 m_J4_length_8abf5 [.ref 1094] [] (some (.int v0)) h1 rfl rfl rfl rfl rfl rfl rfl rfl rfl (tr_cok rfl (Or.inr ⟨_, _, rfl, tr_rc (hh_rd (hh_obj hL (k := 94) rfl).1) (by decide)⟩)) c_0 ?_
  have hL0 := c_0.2
  refine tr_bi 60 60 (by decide) rfl ?_
  exact tr_if2 .lt 14 49 v0 60 rfl rfl rfl (fun hc => t ((tr_lt hc).1 rfl)) (fun hc => f ((tr_lt hc).2 rfl))
theorem sg_X8_appendInput_38 {g : tr_g} {d : Nat} {h : ev_AH} {r : ev_O × ev_AH} {w0 w1 : Option Value} (hL : hh_L h) (hr : r = (.inr 5, hh_x h)) : tr_L g d m_X8_appendInput 38 [w0, w1] [] h r := by
  exact tl_thr hL 388 5 rfl rfl rfl rfl rfl hr
theorem sg_X8_appendInput_49 {g : tr_g} {d : Nat} {h : ev_AH} {r : ev_O × ev_AH} {x1 v0 : Int32} {h1 h2 : ev_AH} {c0 : Nat} (hL : hh_L h) (c_0 : tr_L g d m_J4_append_cf468 0 [some (.ref 1094), some (.int x1)] [] h (.inl (some (.ref (c0 + 1000))), h1)) (c_1 : tr_L g d m_J4_length_8abf5 0 [some (.ref 1094)] [] h1 (.inl (some (.int v0)), h2)) (hr : r = (.inl (some (.int v0)), h2)) : tr_L g (d + 1) m_X8_appendInput 49 [some (.ref 1000), some (.int x1)] [] h r := by
  refine tr_s (.aload_n 0) 1 50 [some (.ref 1000), some (.int x1)] [.ref 1000] h rfl rfl rfl ?_
  refine tl_gr hL 60 0 0 8 93 [1001, 1008, 1015, 1080, 1081, 1083, 1086, 1089, 1093, 1096, 1098, 0, 0, 0, 0, 0] rfl rfl rfl rfl ?_
  refine tl_gr hL 385 93 7 0 94 [1094, 0, 0, 0, 0, 0, 0] rfl rfl rfl rfl ?_
  refine tr_s (.iload_n 1) 1 57 [some (.ref 1000), some (.int x1)] [.int x1, .ref 1094] h rfl rfl rfl ?_
  refine tr_call (.invokevirtual 369) 369 0 1 9 m_J4_append_cf468 [.ref 1094, .int x1] [] (some (.ref (c0 + 1000))) h1 rfl rfl rfl rfl rfl rfl rfl rfl rfl (tr_cok rfl (Or.inr ⟨_, _, rfl, tr_rc (hh_rd (hh_obj hL (k := 94) rfl).1) (by decide)⟩)) c_0 ?_
  have hL0 := c_0.2
  refine tr_s .pop 1 61 [some (.ref 1000), some (.int x1)] [] h1 rfl rfl rfl ?_
  refine tr_s (.aload_n 0) 1 62 [some (.ref 1000), some (.int x1)] [.ref 1000] h1 rfl rfl rfl ?_
  refine tl_gr hL0 60 0 0 8 93 [1001, 1008, 1015, 1080, 1081, 1083, 1086, 1089, 1093, 1096, 1098, 0, 0, 0, 0, 0] rfl rfl rfl rfl ?_
  refine tl_gr hL0 385 93 7 0 94 [1094, 0, 0, 0, 0, 0, 0] rfl rfl rfl rfl ?_
  refine tr_call (.invokevirtual 373) 373 0 0 9 m_J4_length_8abf5 [.ref 1094] [] (some (.int v0)) h2 rfl rfl rfl rfl rfl rfl rfl rfl rfl (tr_cok rfl (Or.inr ⟨_, _, rfl, tr_rc (hh_rd (hh_obj hL0 (k := 94) rfl).1) (by decide)⟩)) c_1 ?_
  have hL1 := c_1.2
  exact tl_ret hL1 .ireturn 1 (some (.int v0)) rfl rfl rfl rfl hr
theorem sg_X8_execute_0 {g : tr_g} {d : Nat} {h : ev_AH} {r : ev_O × ev_AH} {h1 : ev_AH} {v0 : Int32} (hL : hh_L h) (c_0 : tr_L g d m_X6_countCommands 0 [some (.ref 1093), none] [] h (.inl (some (.int v0)), h1)) (t : v0 ≠ (-1) → tr_L g (d + 1) m_X8_execute 46 [some (.ref 1000), some (.int v0), none, none, none] [] h1 r) (f : v0 = (-1) → tr_L g (d + 1) m_X8_execute 13 [some (.ref 1000), some (.int v0), none, none, none] [] h1 r) : tr_L g (d + 1) m_X8_execute 0 [some (.ref 1000), none, none, none, none] [] h r := by
  refine tr_s (.aload_n 0) 1 1 [some (.ref 1000), none, none, none, none] [.ref 1000] h rfl rfl rfl ?_
  refine tl_gr hL 60 0 0 8 93 [1001, 1008, 1015, 1080, 1081, 1083, 1086, 1089, 1093, 1096, 1098, 0, 0, 0, 0, 0] rfl rfl rfl rfl ?_
  refine tr_call (.invokevirtual 393) 393 1 0 7 m_X6_countCommands [.ref 1093] [] (some (.int v0)) h1 rfl rfl rfl rfl rfl rfl rfl rfl rfl (tr_cok rfl (Or.inr ⟨_, _, rfl, tr_rc (hh_rd (hh_obj hL (k := 93) rfl).1) (by decide)⟩)) c_0 ?_
  have hL0 := c_0.2
  refine tr_st (.istore_n 1) 1 1 0 (.int v0) rfl rfl rfl rfl rfl rfl rfl ?_
  refine tr_s (.iload_n 1) 1 9 [some (.ref 1000), some (.int v0), none, none, none] [.int v0] h1 rfl rfl rfl ?_
  refine tr_ic (-1) (-1) (by decide) rfl ?_
  exact tr_if2 .ne 36 46 v0 (-1) rfl rfl rfl (fun hc => t ((tr_ne hc).1 rfl)) (fun hc => f ((tr_ne hc).2 rfl))
theorem sg_X8_execute_13 {g : tr_g} {d : Nat} {h : ev_AH} {r : ev_O × ev_AH} {w1 w2 w3 w4 : Option Value} {h1 : ev_AH} (hL : hh_L h) (c_0 : tr_L g d m_J4_setLength_d00df 0 [some (.ref 1094), some (.int 0)] [] (hh_si h 0 0 12 (hh_i h 93 1)) (.inl none, h1)) (hr : r = (.inr 1, hh_x h1)) : tr_L g (d + 1) m_X8_execute 13 [some (.ref 1000), w1, w2, w3, w4] [] h r := by
  refine tr_s (.aload_n 0) 1 14 [some (.ref 1000), w1, w2, w3, w4] [.ref 1000] h rfl rfl rfl ?_
  refine tr_s (.aload_n 0) 1 15 [some (.ref 1000), w1, w2, w3, w4] [.ref 1000, .ref 1000] h rfl rfl rfl ?_
  refine tl_gr hL 60 0 0 8 93 [1001, 1008, 1015, 1080, 1081, 1083, 1086, 1089, 1093, 1096, 1098, 0, 0, 0, 0, 0] rfl rfl rfl rfl ?_
  refine tl_gi hL 396 93 7 1 [1094, 0, 0, 0, 0, 0, 0] rfl rfl rfl rfl ?_
  refine tl_pf hL 79 0 0 12 [1001, 1008, 1015, 1080, 1081, 1083, 1086, 1089, 1093, 1096, 1098, 0, 0, 0, 0, 0] (hh_i h 93 1) .int rfl rfl rfl rfl rfl tr_oki ?_
  have hL0 := hh_L_si (sl := 12) (x := (hh_i h 93 1)) hL (show hh_t[0]? = some (.inr (0, [1001, 1008, 1015, 1080, 1081, 1083, 1086, 1089, 1093, 1096, 1098, 0, 0, 0, 0, 0])) from rfl) rfl
  refine tr_s (.aload_n 0) 1 25 [some (.ref 1000), w1, w2, w3, w4] [.ref 1000] (hh_si h 0 0 12 (hh_i h 93 1)) rfl rfl rfl ?_
  refine tl_gr hL0 60 0 0 8 93 [1001, 1008, 1015, 1080, 1081, 1083, 1086, 1089, 1093, 1096, 1098, 0, 0, 0, 0, 0] rfl rfl rfl rfl ?_
  refine tl_gr hL0 385 93 7 0 94 [1094, 0, 0, 0, 0, 0, 0] rfl rfl rfl rfl ?_
  refine tr_ic 0 0 (by decide) rfl ?_
  refine tr_call (.invokevirtual 363) 363 0 1 9 m_J4_setLength_d00df [.ref 1094, .int 0] [] none h1 rfl rfl rfl rfl rfl rfl rfl rfl rfl (tr_cok rfl (Or.inr ⟨_, _, rfl, tr_rc (hh_rd (hh_obj hL0 (k := 94) rfl).1) (by decide)⟩)) c_0 ?_
  have hL1 := c_0.2
  exact tl_thr hL1 100 1 rfl rfl rfl rfl rfl hr
theorem sg_X8_execute_46 {g : tr_g} {d : Nat} {h : ev_AH} {r : ev_O × ev_AH} {x1 : Int32} {w2 w3 w4 : Option Value} {h1 : ev_AH} (hL : hh_L h) (c_0 : tr_L g d m_X3_mark 0 [some (.ref 1015), some (.ref 1001), none] [] h (.inl none, h1)) (k : tr_L g (d + 1) m_X8_execute 72 [some (.ref 1000), some (.int x1), some (.int 0), some (.int 0), some (.int 0)] [] (hh_si h1 93 7 1 0) r) : tr_L g (d + 1) m_X8_execute 46 [some (.ref 1000), some (.int x1), w2, w3, w4] [] h r := by
  refine tr_s (.aload_n 0) 1 47 [some (.ref 1000), some (.int x1), w2, w3, w4] [.ref 1000] h rfl rfl rfl ?_
  refine tl_gr hL 22 0 0 2 15 [1001, 1008, 1015, 1080, 1081, 1083, 1086, 1089, 1093, 1096, 1098, 0, 0, 0, 0, 0] rfl rfl rfl rfl ?_
  refine tr_s (.aload_n 0) 1 51 [some (.ref 1000), some (.int x1), w2, w3, w4] [.ref 1000, .ref 1015] h rfl rfl rfl ?_
  refine tl_gr hL 10 0 0 0 1 [1001, 1008, 1015, 1080, 1081, 1083, 1086, 1089, 1093, 1096, 1098, 0, 0, 0, 0, 0] rfl rfl rfl rfl ?_
  refine tr_call (.invokevirtual 401) 401 1 1 2 m_X3_mark [.ref 1015, .ref 1001] [] none h1 rfl rfl rfl rfl rfl rfl rfl rfl rfl (tr_cok rfl (Or.inr ⟨_, _, rfl, tr_rc (hh_rd (hh_obj hL (k := 15) rfl).1) (by decide)⟩)) c_0 ?_
  have hL0 := c_0.2
  refine tr_s (.aload_n 0) 1 58 [some (.ref 1000), some (.int x1), w2, w3, w4] [.ref 1000] h1 rfl rfl rfl ?_
  refine tl_gr hL0 60 0 0 8 93 [1001, 1008, 1015, 1080, 1081, 1083, 1086, 1089, 1093, 1096, 1098, 0, 0, 0, 0, 0] rfl rfl rfl rfl ?_
  refine tr_ic 0 0 (by decide) rfl ?_
  refine tl_pf hL0 396 93 7 1 [1094, 0, 0, 0, 0, 0, 0] 0 .int rfl rfl rfl rfl rfl tr_oki ?_
  have hL1 := hh_L_si (sl := 1) (x := 0) hL0 (show hh_t[93]? = some (.inr (7, [1094, 0, 0, 0, 0, 0, 0])) from rfl) rfl
  refine tr_ic 0 0 (by decide) rfl ?_
  refine tr_st (.istore_n 2) 1 2 0 (.int 0) rfl rfl rfl rfl rfl rfl rfl ?_
  refine tr_ic 0 0 (by decide) rfl ?_
  refine tr_st (.istore_n 3) 1 3 0 (.int 0) rfl rfl rfl rfl rfl rfl rfl ?_
  refine tr_ic 0 0 (by decide) rfl ?_
  refine tr_st (.istore 4) 2 4 0 (.int 0) rfl rfl rfl rfl rfl rfl rfl ?_
  exact k
theorem sg_X8_execute_72 {g : tr_g} {d : Nat} {h : ev_AH} {r : ev_O × ev_AH} {x1 x2 x3 x4 : Int32} (hL : hh_L h) (t : x1 ≤ x4 → tr_L g d m_X8_execute 96 [some (.ref 1000), some (.int x1), some (.int x2), some (.int x3), some (.int x4)] [] h r) (f : x4 < x1 → tr_L g d m_X8_execute 78 [some (.ref 1000), some (.int x1), some (.int x2), some (.int x3), some (.int x4)] [] h r) : tr_L g d m_X8_execute 72 [some (.ref 1000), some (.int x1), some (.int x2), some (.int x3), some (.int x4)] [] h r := by
  refine tr_s (.iload 4) 2 74 [some (.ref 1000), some (.int x1), some (.int x2), some (.int x3), some (.int x4)] [.int x4] h rfl rfl rfl ?_
  refine tr_s (.iload_n 1) 1 75 [some (.ref 1000), some (.int x1), some (.int x2), some (.int x3), some (.int x4)] [.int x1, .int x4] h rfl rfl rfl ?_
  exact tr_if2 .ge 21 96 x4 x1 rfl rfl rfl (fun hc => t ((tr_ge hc).1 rfl)) (fun hc => f ((tr_ge hc).2 rfl))
theorem sg_X8_execute_78 {g : tr_g} {d : Nat} {h : ev_AH} {r : ev_O × ev_AH} {x1 x2 x3 x4 : Int32} (hL : hh_L h) (t : x3 ≠ 0 → tr_L g d m_X8_execute 96 [some (.ref 1000), some (.int x1), some (.int x2), some (.int x3), some (.int x4)] [] h r) (f : x3 = 0 → tr_L g d m_X8_execute 82 [some (.ref 1000), some (.int x1), some (.int x2), some (.int x3), some (.int x4)] [] h r) : tr_L g d m_X8_execute 78 [some (.ref 1000), some (.int x1), some (.int x2), some (.int x3), some (.int x4)] [] h r := by
  refine tr_s (.iload_n 3) 1 79 [some (.ref 1000), some (.int x1), some (.int x2), some (.int x3), some (.int x4)] [.int x3] h rfl rfl rfl ?_
  exact tr_if1 .ne 17 96 x3 rfl rfl rfl (fun hc => t ((tr_ne hc).1 rfl)) (fun hc => f ((tr_ne hc).2 rfl))
theorem sg_X8_execute_82 {g : tr_g} {d : Nat} {h : ev_AH} {r : ev_O × ev_AH} {x1 x4 v0 : Int32} {w2 w3 : Option Value} {h1 : ev_AH} (hL : hh_L h) (c_0 : tr_L g d m_X8_runNextCommand 0 [some (.ref 1000)] [] h (.inl (some (.int v0)), h1)) (k : tr_L g (d + 1) m_X8_execute 72 [some (.ref 1000), some (.int x1), some (.int x4), some (.int v0), some (.int (x4 + 1))] [] h1 r) : tr_L g (d + 1) m_X8_execute 82 [some (.ref 1000), some (.int x1), w2, w3, some (.int x4)] [] h r := by
  refine tr_s (.iload 4) 2 84 [some (.ref 1000), some (.int x1), w2, w3, some (.int x4)] [.int x4] h rfl rfl rfl ?_
  refine tr_st (.istore_n 2) 1 2 0 (.int x4) rfl rfl rfl rfl rfl rfl rfl ?_
  refine tr_s (.aload_n 0) 1 86 [some (.ref 1000), some (.int x1), some (.int x4), w3, some (.int x4)] [.ref 1000] h rfl rfl rfl ?_
  refine tr_call (.invokevirtual 404) 404 0 0 0 m_X8_runNextCommand [.ref 1000] [] (some (.int v0)) h1 rfl rfl rfl rfl rfl rfl rfl rfl rfl (tr_cok rfl (Or.inr ⟨_, _, rfl, tr_rc (hh_rd (hh_obj hL (k := 0) rfl).1) (by decide)⟩)) c_0 ?_
  have hL0 := c_0.2
  refine tr_st (.istore_n 3) 1 3 0 (.int v0) rfl rfl rfl rfl rfl rfl rfl ?_
  refine tr_inc 4 1 x4 1 (by decide) rfl rfl rfl ?_
  refine tr_goto (-21) 72 rfl rfl rfl ?_
  exact k
theorem sg_X8_execute_96 {g : tr_g} {d : Nat} {h : ev_AH} {r : ev_O × ev_AH} {x1 x2 x3 : Int32} {w4 : Option Value} {h1 : ev_AH} (hL : hh_L h) (c_0 : tr_L g d m_J4_setLength_d00df 0 [some (.ref 1094), some (.int 0)] [] h (.inl none, h1)) (t : x3 ≠ 0 → tr_L g (d + 1) m_X8_execute 120 [some (.ref 1000), some (.int x1), some (.int x2), some (.int x3), w4] [] h1 r) (f : x3 = 0 → tr_L g (d + 1) m_X8_execute 111 [some (.ref 1000), some (.int x1), some (.int x2), some (.int x3), w4] [] h1 r) : tr_L g (d + 1) m_X8_execute 96 [some (.ref 1000), some (.int x1), some (.int x2), some (.int x3), w4] [] h r := by
  refine tr_s (.aload_n 0) 1 97 [some (.ref 1000), some (.int x1), some (.int x2), some (.int x3), w4] [.ref 1000] h rfl rfl rfl ?_
  refine tl_gr hL 60 0 0 8 93 [1001, 1008, 1015, 1080, 1081, 1083, 1086, 1089, 1093, 1096, 1098, 0, 0, 0, 0, 0] rfl rfl rfl rfl ?_
  refine tl_gr hL 385 93 7 0 94 [1094, 0, 0, 0, 0, 0, 0] rfl rfl rfl rfl ?_
  refine tr_ic 0 0 (by decide) rfl ?_
  refine tr_call (.invokevirtual 363) 363 0 1 9 m_J4_setLength_d00df [.ref 1094, .int 0] [] none h1 rfl rfl rfl rfl rfl rfl rfl rfl rfl (tr_cok rfl (Or.inr ⟨_, _, rfl, tr_rc (hh_rd (hh_obj hL (k := 94) rfl).1) (by decide)⟩)) c_0 ?_
  have hL0 := c_0.2
  refine tr_s (.iload_n 3) 1 108 [some (.ref 1000), some (.int x1), some (.int x2), some (.int x3), w4] [.int x3] h1 rfl rfl rfl ?_
  exact tr_if1 .ne 12 120 x3 rfl rfl rfl (fun hc => t ((tr_ne hc).1 rfl)) (fun hc => f ((tr_ne hc).2 rfl))
theorem sg_X8_execute_111 {g : tr_g} {d : Nat} {h : ev_AH} {r : ev_O × ev_AH} {x1 : Int32} {w2 w3 w4 : Option Value} {h1 : ev_AH} (hL : hh_L h) (c_0 : tr_L g d m_X3_keepMarked 0 [some (.ref 1015)] [] h (.inl none, h1)) (hr : r = (.inl (some (.int x1)), h1)) : tr_L g (d + 1) m_X8_execute 111 [some (.ref 1000), some (.int x1), w2, w3, w4] [] h r := by
  refine tr_s (.aload_n 0) 1 112 [some (.ref 1000), some (.int x1), w2, w3, w4] [.ref 1000] h rfl rfl rfl ?_
  refine tl_gr hL 22 0 0 2 15 [1001, 1008, 1015, 1080, 1081, 1083, 1086, 1089, 1093, 1096, 1098, 0, 0, 0, 0, 0] rfl rfl rfl rfl ?_
  refine tr_call (.invokevirtual 407) 407 1 0 2 m_X3_keepMarked [.ref 1015] [] none h1 rfl rfl rfl rfl rfl rfl rfl rfl rfl (tr_cok rfl (Or.inr ⟨_, _, rfl, tr_rc (hh_rd (hh_obj hL (k := 15) rfl).1) (by decide)⟩)) c_0 ?_
  have hL0 := c_0.2
  refine tr_s (.iload_n 1) 1 119 [some (.ref 1000), some (.int x1), w2, w3, w4] [.int x1] h1 rfl rfl rfl ?_
  exact tl_ret hL0 .ireturn 1 (some (.int x1)) rfl rfl rfl rfl hr
theorem sg_X8_execute_120 {g : tr_g} {d : Nat} {h : ev_AH} {r : ev_O × ev_AH} {w1 w4 : Option Value} {x2 x3 : Int32} {h1 : ev_AH} (hL : hh_L h) (c_0 : tr_L g d m_X3_returnToMarked 0 [some (.ref 1015), some (.ref 1001), none] [] h (.inl none, h1)) (t : x3 ≠ (-1) → tr_L g (d + 1) m_X8_execute 147 [some (.ref 1000), w1, some (.int x2), some (.int x3), w4] [] h1 r) (f : x3 = (-1) → tr_L g (d + 1) m_X8_execute 136 [some (.ref 1000), w1, some (.int x2), some (.int x3), w4] [] h1 r) : tr_L g (d + 1) m_X8_execute 120 [some (.ref 1000), w1, some (.int x2), some (.int x3), w4] [] h r := by
  refine tr_s (.aload_n 0) 1 121 [some (.ref 1000), w1, some (.int x2), some (.int x3), w4] [.ref 1000] h rfl rfl rfl ?_
  refine tl_gr hL 22 0 0 2 15 [1001, 1008, 1015, 1080, 1081, 1083, 1086, 1089, 1093, 1096, 1098, 0, 0, 0, 0, 0] rfl rfl rfl rfl ?_
  refine tr_s (.aload_n 0) 1 125 [some (.ref 1000), w1, some (.int x2), some (.int x3), w4] [.ref 1000, .ref 1015] h rfl rfl rfl ?_
  refine tl_gr hL 10 0 0 0 1 [1001, 1008, 1015, 1080, 1081, 1083, 1086, 1089, 1093, 1096, 1098, 0, 0, 0, 0, 0] rfl rfl rfl rfl ?_
  refine tr_call (.invokevirtual 410) 410 1 1 2 m_X3_returnToMarked [.ref 1015, .ref 1001] [] none h1 rfl rfl rfl rfl rfl rfl rfl rfl rfl (tr_cok rfl (Or.inr ⟨_, _, rfl, tr_rc (hh_rd (hh_obj hL (k := 15) rfl).1) (by decide)⟩)) c_0 ?_
  have hL0 := c_0.2
  refine tr_s (.iload_n 3) 1 132 [some (.ref 1000), w1, some (.int x2), some (.int x3), w4] [.int x3] h1 rfl rfl rfl ?_
  refine tr_ic (-1) (-1) (by decide) rfl ?_
  exact tr_if2 .ne 14 147 x3 (-1) rfl rfl rfl (fun hc => t ((tr_ne hc).1 rfl)) (fun hc => f ((tr_ne hc).2 rfl))
theorem sg_X8_execute_136 {g : tr_g} {d : Nat} {h : ev_AH} {r : ev_O × ev_AH} {w0 w1 w2 w3 w4 : Option Value} (hL : hh_L h) (hr : r = (.inr 5, hh_x h)) : tr_L g d m_X8_execute 136 [w0, w1, w2, w3, w4] [] h r := by
  exact tl_thr hL 388 5 rfl rfl rfl rfl rfl hr
theorem sg_X8_execute_147 {g : tr_g} {d : Nat} {h : ev_AH} {r : ev_O × ev_AH} {w1 w4 : Option Value} {x2 x3 : Int32} {h1 : ev_AH} (hL : hh_L h) (c_0 : tr_L g d m_X8_reject 0 [some (.ref 1000), some (.int 6), some (.int x2)] [] h (.inl none, h1)) (hr : r = (.inr 2, hh_x (hh_si h1 0 0 15 x3))) : tr_L g (d + 1) m_X8_execute 147 [some (.ref 1000), w1, some (.int x2), some (.int x3), w4] [] h r := by
  refine tr_s (.aload_n 0) 1 148 [some (.ref 1000), w1, some (.int x2), some (.int x3), w4] [.ref 1000] h rfl rfl rfl ?_
  refine tr_bi 6 6 (by decide) rfl ?_
  refine tr_s (.iload_n 2) 1 151 [some (.ref 1000), w1, some (.int x2), some (.int x3), w4] [.int x2, .int 6, .ref 1000] h rfl rfl rfl ?_
  refine tr_call (.invokevirtual 114) 114 0 2 0 m_X8_reject [.ref 1000, .int 6, .int x2] [] none h1 rfl rfl rfl rfl rfl rfl rfl rfl rfl (tr_cok rfl (Or.inr ⟨_, _, rfl, tr_rc (hh_rd (hh_obj hL (k := 0) rfl).1) (by decide)⟩)) c_0 ?_
  have hL0 := c_0.2
  refine tr_s (.aload_n 0) 1 155 [some (.ref 1000), w1, some (.int x2), some (.int x3), w4] [.ref 1000] h1 rfl rfl rfl ?_
  refine tr_s (.iload_n 3) 1 156 [some (.ref 1000), w1, some (.int x2), some (.int x3), w4] [.int x3, .ref 1000] h1 rfl rfl rfl ?_
  refine tl_pf hL0 89 0 0 15 [1001, 1008, 1015, 1080, 1081, 1083, 1086, 1089, 1093, 1096, 1098, 0, 0, 0, 0, 0] x3 .int rfl rfl rfl rfl rfl tr_oki ?_
  have hL1 := hh_L_si (sl := 15) (x := x3) hL0 (show hh_t[0]? = some (.inr (0, [1001, 1008, 1015, 1080, 1081, 1083, 1086, 1089, 1093, 1096, 1098, 0, 0, 0, 0, 0])) from rfl) rfl
  exact tl_thr hL1 118 2 rfl rfl rfl rfl rfl hr
theorem sg_X8_runNextCommand_0_t0 {g : tr_g} {d : Nat} {h : ev_AH} {r : ev_O × ev_AH} {h1 h2 : ev_AH} {v0 : Int32} (hL : hh_L h) (c_0 : tr_L g d m_X6_skipSeparator 0 [some (.ref 1093)] [] h (.inl none, h1)) (c_1 : tr_L g d m_X6_readCommand 0 [some (.ref 1093), none] [] h1 (.inl (some (.int v0)), h2)) (e : hh_i h2 93 2 = 0) (k : tr_L g (d + 1) m_X8_runNextCommand 56 [some (.ref 1000)] [] h2 r) : tr_L g (d + 1) m_X8_runNextCommand 0 [some (.ref 1000)] [] h r := by
  refine tr_s (.aload_n 0) 1 1 [some (.ref 1000)] [.ref 1000] h rfl rfl rfl ?_
  refine tl_gr hL 60 0 0 8 93 [1001, 1008, 1015, 1080, 1081, 1083, 1086, 1089, 1093, 1096, 1098, 0, 0, 0, 0, 0] rfl rfl rfl rfl ?_
  refine tr_call (.invokevirtual 462) 462 1 0 7 m_X6_skipSeparator [.ref 1093] [] none h1 rfl rfl rfl rfl rfl rfl rfl rfl rfl (tr_cok rfl (Or.inr ⟨_, _, rfl, tr_rc (hh_rd (hh_obj hL (k := 93) rfl).1) (by decide)⟩)) c_0 ?_
  have hL0 := c_0.2
  refine tr_s (.aload_n 0) 1 8 [some (.ref 1000)] [.ref 1000] h1 rfl rfl rfl ?_
  refine tl_gr hL0 60 0 0 8 93 [1001, 1008, 1015, 1080, 1081, 1083, 1086, 1089, 1093, 1096, 1098, 0, 0, 0, 0, 0] rfl rfl rfl rfl ?_
  refine tr_call (.invokevirtual 465) 465 1 0 7 m_X6_readCommand [.ref 1093] [] (some (.int v0)) h2 rfl rfl rfl rfl rfl rfl rfl rfl rfl (tr_cok rfl (Or.inr ⟨_, _, rfl, tr_rc (hh_rd (hh_obj hL0 (k := 93) rfl).1) (by decide)⟩)) c_1 ?_
  have hL1 := c_1.2
  refine tr_s .pop 1 15 [some (.ref 1000)] [] h2 rfl rfl rfl ?_
  refine tr_s (.aload_n 0) 1 16 [some (.ref 1000)] [.ref 1000] h2 rfl rfl rfl ?_
  refine tl_gr hL1 60 0 0 8 93 [1001, 1008, 1015, 1080, 1081, 1083, 1086, 1089, 1093, 1096, 1098, 0, 0, 0, 0, 0] rfl rfl rfl rfl ?_
  refine tl_gi hL1 468 93 7 2 [1094, 0, 0, 0, 0, 0, 0] rfl rfl rfl rfl ?_
  exact tr_s (.tableswitch 83 0 4 #[34, 39, 44, 49, 65]) 34 56 [some (.ref 1000)] [] h2 rfl rfl (by rw [e]; rfl) k
theorem sg_X8_runNextCommand_0_t1 {g : tr_g} {d : Nat} {h : ev_AH} {r : ev_O × ev_AH} {h1 h2 : ev_AH} {v0 : Int32} (hL : hh_L h) (c_0 : tr_L g d m_X6_skipSeparator 0 [some (.ref 1093)] [] h (.inl none, h1)) (c_1 : tr_L g d m_X6_readCommand 0 [some (.ref 1093), none] [] h1 (.inl (some (.int v0)), h2)) (e : hh_i h2 93 2 = 1) (k : tr_L g (d + 1) m_X8_runNextCommand 61 [some (.ref 1000)] [] h2 r) : tr_L g (d + 1) m_X8_runNextCommand 0 [some (.ref 1000)] [] h r := by
  refine tr_s (.aload_n 0) 1 1 [some (.ref 1000)] [.ref 1000] h rfl rfl rfl ?_
  refine tl_gr hL 60 0 0 8 93 [1001, 1008, 1015, 1080, 1081, 1083, 1086, 1089, 1093, 1096, 1098, 0, 0, 0, 0, 0] rfl rfl rfl rfl ?_
  refine tr_call (.invokevirtual 462) 462 1 0 7 m_X6_skipSeparator [.ref 1093] [] none h1 rfl rfl rfl rfl rfl rfl rfl rfl rfl (tr_cok rfl (Or.inr ⟨_, _, rfl, tr_rc (hh_rd (hh_obj hL (k := 93) rfl).1) (by decide)⟩)) c_0 ?_
  have hL0 := c_0.2
  refine tr_s (.aload_n 0) 1 8 [some (.ref 1000)] [.ref 1000] h1 rfl rfl rfl ?_
  refine tl_gr hL0 60 0 0 8 93 [1001, 1008, 1015, 1080, 1081, 1083, 1086, 1089, 1093, 1096, 1098, 0, 0, 0, 0, 0] rfl rfl rfl rfl ?_
  refine tr_call (.invokevirtual 465) 465 1 0 7 m_X6_readCommand [.ref 1093] [] (some (.int v0)) h2 rfl rfl rfl rfl rfl rfl rfl rfl rfl (tr_cok rfl (Or.inr ⟨_, _, rfl, tr_rc (hh_rd (hh_obj hL0 (k := 93) rfl).1) (by decide)⟩)) c_1 ?_
  have hL1 := c_1.2
  refine tr_s .pop 1 15 [some (.ref 1000)] [] h2 rfl rfl rfl ?_
  refine tr_s (.aload_n 0) 1 16 [some (.ref 1000)] [.ref 1000] h2 rfl rfl rfl ?_
  refine tl_gr hL1 60 0 0 8 93 [1001, 1008, 1015, 1080, 1081, 1083, 1086, 1089, 1093, 1096, 1098, 0, 0, 0, 0, 0] rfl rfl rfl rfl ?_
  refine tl_gi hL1 468 93 7 2 [1094, 0, 0, 0, 0, 0, 0] rfl rfl rfl rfl ?_
  exact tr_s (.tableswitch 83 0 4 #[34, 39, 44, 49, 65]) 34 61 [some (.ref 1000)] [] h2 rfl rfl (by rw [e]; rfl) k
theorem sg_X8_runNextCommand_0_t2 {g : tr_g} {d : Nat} {h : ev_AH} {r : ev_O × ev_AH} {h1 h2 : ev_AH} {v0 : Int32} (hL : hh_L h) (c_0 : tr_L g d m_X6_skipSeparator 0 [some (.ref 1093)] [] h (.inl none, h1)) (c_1 : tr_L g d m_X6_readCommand 0 [some (.ref 1093), none] [] h1 (.inl (some (.int v0)), h2)) (e : hh_i h2 93 2 = 2) (k : tr_L g (d + 1) m_X8_runNextCommand 66 [some (.ref 1000)] [] h2 r) : tr_L g (d + 1) m_X8_runNextCommand 0 [some (.ref 1000)] [] h r := by
  refine tr_s (.aload_n 0) 1 1 [some (.ref 1000)] [.ref 1000] h rfl rfl rfl ?_
  refine tl_gr hL 60 0 0 8 93 [1001, 1008, 1015, 1080, 1081, 1083, 1086, 1089, 1093, 1096, 1098, 0, 0, 0, 0, 0] rfl rfl rfl rfl ?_
  refine tr_call (.invokevirtual 462) 462 1 0 7 m_X6_skipSeparator [.ref 1093] [] none h1 rfl rfl rfl rfl rfl rfl rfl rfl rfl (tr_cok rfl (Or.inr ⟨_, _, rfl, tr_rc (hh_rd (hh_obj hL (k := 93) rfl).1) (by decide)⟩)) c_0 ?_
  have hL0 := c_0.2
  refine tr_s (.aload_n 0) 1 8 [some (.ref 1000)] [.ref 1000] h1 rfl rfl rfl ?_
  refine tl_gr hL0 60 0 0 8 93 [1001, 1008, 1015, 1080, 1081, 1083, 1086, 1089, 1093, 1096, 1098, 0, 0, 0, 0, 0] rfl rfl rfl rfl ?_
  refine tr_call (.invokevirtual 465) 465 1 0 7 m_X6_readCommand [.ref 1093] [] (some (.int v0)) h2 rfl rfl rfl rfl rfl rfl rfl rfl rfl (tr_cok rfl (Or.inr ⟨_, _, rfl, tr_rc (hh_rd (hh_obj hL0 (k := 93) rfl).1) (by decide)⟩)) c_1 ?_
  have hL1 := c_1.2
  refine tr_s .pop 1 15 [some (.ref 1000)] [] h2 rfl rfl rfl ?_
  refine tr_s (.aload_n 0) 1 16 [some (.ref 1000)] [.ref 1000] h2 rfl rfl rfl ?_
  refine tl_gr hL1 60 0 0 8 93 [1001, 1008, 1015, 1080, 1081, 1083, 1086, 1089, 1093, 1096, 1098, 0, 0, 0, 0, 0] rfl rfl rfl rfl ?_
  refine tl_gi hL1 468 93 7 2 [1094, 0, 0, 0, 0, 0, 0] rfl rfl rfl rfl ?_
  exact tr_s (.tableswitch 83 0 4 #[34, 39, 44, 49, 65]) 34 66 [some (.ref 1000)] [] h2 rfl rfl (by rw [e]; rfl) k
theorem sg_X8_runNextCommand_0_t3 {g : tr_g} {d : Nat} {h : ev_AH} {r : ev_O × ev_AH} {h1 h2 : ev_AH} {v0 : Int32} (hL : hh_L h) (c_0 : tr_L g d m_X6_skipSeparator 0 [some (.ref 1093)] [] h (.inl none, h1)) (c_1 : tr_L g d m_X6_readCommand 0 [some (.ref 1093), none] [] h1 (.inl (some (.int v0)), h2)) (e : hh_i h2 93 2 = 3) (k : tr_L g (d + 1) m_X8_runNextCommand 71 [some (.ref 1000)] [] h2 r) : tr_L g (d + 1) m_X8_runNextCommand 0 [some (.ref 1000)] [] h r := by
  refine tr_s (.aload_n 0) 1 1 [some (.ref 1000)] [.ref 1000] h rfl rfl rfl ?_
  refine tl_gr hL 60 0 0 8 93 [1001, 1008, 1015, 1080, 1081, 1083, 1086, 1089, 1093, 1096, 1098, 0, 0, 0, 0, 0] rfl rfl rfl rfl ?_
  refine tr_call (.invokevirtual 462) 462 1 0 7 m_X6_skipSeparator [.ref 1093] [] none h1 rfl rfl rfl rfl rfl rfl rfl rfl rfl (tr_cok rfl (Or.inr ⟨_, _, rfl, tr_rc (hh_rd (hh_obj hL (k := 93) rfl).1) (by decide)⟩)) c_0 ?_
  have hL0 := c_0.2
  refine tr_s (.aload_n 0) 1 8 [some (.ref 1000)] [.ref 1000] h1 rfl rfl rfl ?_
  refine tl_gr hL0 60 0 0 8 93 [1001, 1008, 1015, 1080, 1081, 1083, 1086, 1089, 1093, 1096, 1098, 0, 0, 0, 0, 0] rfl rfl rfl rfl ?_
  refine tr_call (.invokevirtual 465) 465 1 0 7 m_X6_readCommand [.ref 1093] [] (some (.int v0)) h2 rfl rfl rfl rfl rfl rfl rfl rfl rfl (tr_cok rfl (Or.inr ⟨_, _, rfl, tr_rc (hh_rd (hh_obj hL0 (k := 93) rfl).1) (by decide)⟩)) c_1 ?_
  have hL1 := c_1.2
  refine tr_s .pop 1 15 [some (.ref 1000)] [] h2 rfl rfl rfl ?_
  refine tr_s (.aload_n 0) 1 16 [some (.ref 1000)] [.ref 1000] h2 rfl rfl rfl ?_
  refine tl_gr hL1 60 0 0 8 93 [1001, 1008, 1015, 1080, 1081, 1083, 1086, 1089, 1093, 1096, 1098, 0, 0, 0, 0, 0] rfl rfl rfl rfl ?_
  refine tl_gi hL1 468 93 7 2 [1094, 0, 0, 0, 0, 0, 0] rfl rfl rfl rfl ?_
  exact tr_s (.tableswitch 83 0 4 #[34, 39, 44, 49, 65]) 34 71 [some (.ref 1000)] [] h2 rfl rfl (by rw [e]; rfl) k
theorem sg_X8_runNextCommand_0_t4 {g : tr_g} {d : Nat} {h : ev_AH} {r : ev_O × ev_AH} {h1 h2 : ev_AH} {v0 : Int32} (hL : hh_L h) (c_0 : tr_L g d m_X6_skipSeparator 0 [some (.ref 1093)] [] h (.inl none, h1)) (c_1 : tr_L g d m_X6_readCommand 0 [some (.ref 1093), none] [] h1 (.inl (some (.int v0)), h2)) (e : hh_i h2 93 2 = 4) (k : tr_L g (d + 1) m_X8_runNextCommand 87 [some (.ref 1000)] [] h2 r) : tr_L g (d + 1) m_X8_runNextCommand 0 [some (.ref 1000)] [] h r := by
  refine tr_s (.aload_n 0) 1 1 [some (.ref 1000)] [.ref 1000] h rfl rfl rfl ?_
  refine tl_gr hL 60 0 0 8 93 [1001, 1008, 1015, 1080, 1081, 1083, 1086, 1089, 1093, 1096, 1098, 0, 0, 0, 0, 0] rfl rfl rfl rfl ?_
  refine tr_call (.invokevirtual 462) 462 1 0 7 m_X6_skipSeparator [.ref 1093] [] none h1 rfl rfl rfl rfl rfl rfl rfl rfl rfl (tr_cok rfl (Or.inr ⟨_, _, rfl, tr_rc (hh_rd (hh_obj hL (k := 93) rfl).1) (by decide)⟩)) c_0 ?_
  have hL0 := c_0.2
  refine tr_s (.aload_n 0) 1 8 [some (.ref 1000)] [.ref 1000] h1 rfl rfl rfl ?_
  refine tl_gr hL0 60 0 0 8 93 [1001, 1008, 1015, 1080, 1081, 1083, 1086, 1089, 1093, 1096, 1098, 0, 0, 0, 0, 0] rfl rfl rfl rfl ?_
  refine tr_call (.invokevirtual 465) 465 1 0 7 m_X6_readCommand [.ref 1093] [] (some (.int v0)) h2 rfl rfl rfl rfl rfl rfl rfl rfl rfl (tr_cok rfl (Or.inr ⟨_, _, rfl, tr_rc (hh_rd (hh_obj hL0 (k := 93) rfl).1) (by decide)⟩)) c_1 ?_
  have hL1 := c_1.2
  refine tr_s .pop 1 15 [some (.ref 1000)] [] h2 rfl rfl rfl ?_
  refine tr_s (.aload_n 0) 1 16 [some (.ref 1000)] [.ref 1000] h2 rfl rfl rfl ?_
  refine tl_gr hL1 60 0 0 8 93 [1001, 1008, 1015, 1080, 1081, 1083, 1086, 1089, 1093, 1096, 1098, 0, 0, 0, 0, 0] rfl rfl rfl rfl ?_
  refine tl_gi hL1 468 93 7 2 [1094, 0, 0, 0, 0, 0, 0] rfl rfl rfl rfl ?_
  exact tr_s (.tableswitch 83 0 4 #[34, 39, 44, 49, 65]) 34 87 [some (.ref 1000)] [] h2 rfl rfl (by rw [e]; rfl) k
theorem sg_X8_runNextCommand_0_td {g : tr_g} {d : Nat} {h : ev_AH} {r : ev_O × ev_AH} {h1 h2 : ev_AH} {v0 : Int32} (hL : hh_L h) (c_0 : tr_L g d m_X6_skipSeparator 0 [some (.ref 1093)] [] h (.inl none, h1)) (c_1 : tr_L g d m_X6_readCommand 0 [some (.ref 1093), none] [] h1 (.inl (some (.int v0)), h2)) (e : (hh_i h2 93 2).toInt < 0 ∨ 4 < (hh_i h2 93 2).toInt) (k : tr_L g (d + 1) m_X8_runNextCommand 105 [some (.ref 1000)] [] h2 r) : tr_L g (d + 1) m_X8_runNextCommand 0 [some (.ref 1000)] [] h r := by
  refine tr_s (.aload_n 0) 1 1 [some (.ref 1000)] [.ref 1000] h rfl rfl rfl ?_
  refine tl_gr hL 60 0 0 8 93 [1001, 1008, 1015, 1080, 1081, 1083, 1086, 1089, 1093, 1096, 1098, 0, 0, 0, 0, 0] rfl rfl rfl rfl ?_
  refine tr_call (.invokevirtual 462) 462 1 0 7 m_X6_skipSeparator [.ref 1093] [] none h1 rfl rfl rfl rfl rfl rfl rfl rfl rfl (tr_cok rfl (Or.inr ⟨_, _, rfl, tr_rc (hh_rd (hh_obj hL (k := 93) rfl).1) (by decide)⟩)) c_0 ?_
  have hL0 := c_0.2
  refine tr_s (.aload_n 0) 1 8 [some (.ref 1000)] [.ref 1000] h1 rfl rfl rfl ?_
  refine tl_gr hL0 60 0 0 8 93 [1001, 1008, 1015, 1080, 1081, 1083, 1086, 1089, 1093, 1096, 1098, 0, 0, 0, 0, 0] rfl rfl rfl rfl ?_
  refine tr_call (.invokevirtual 465) 465 1 0 7 m_X6_readCommand [.ref 1093] [] (some (.int v0)) h2 rfl rfl rfl rfl rfl rfl rfl rfl rfl (tr_cok rfl (Or.inr ⟨_, _, rfl, tr_rc (hh_rd (hh_obj hL0 (k := 93) rfl).1) (by decide)⟩)) c_1 ?_
  have hL1 := c_1.2
  refine tr_s .pop 1 15 [some (.ref 1000)] [] h2 rfl rfl rfl ?_
  refine tr_s (.aload_n 0) 1 16 [some (.ref 1000)] [.ref 1000] h2 rfl rfl rfl ?_
  refine tl_gr hL1 60 0 0 8 93 [1001, 1008, 1015, 1080, 1081, 1083, 1086, 1089, 1093, 1096, 1098, 0, 0, 0, 0, 0] rfl rfl rfl rfl ?_
  refine tl_gi hL1 468 93 7 2 [1094, 0, 0, 0, 0, 0, 0] rfl rfl rfl rfl ?_
  exact tr_s (.tableswitch 83 0 4 #[34, 39, 44, 49, 65]) 34 105 [some (.ref 1000)] [] h2 rfl rfl (tr_tsd rfl e) k
theorem sg_X8_runNextCommand_56 {g : tr_g} {d : Nat} {h : ev_AH} {r : ev_O × ev_AH} {h1 : ev_AH} {v0 : Int32} (hL : hh_L h) (c_0 : tr_L g d m_X8_runCat 0 [some (.ref 1000), none] [] h (.inl (some (.int v0)), h1)) (hr : r = (.inl (some (.int v0)), h1)) : tr_L g (d + 1) m_X8_runNextCommand 56 [some (.ref 1000)] [] h r := by
  refine tr_s (.aload_n 0) 1 57 [some (.ref 1000)] [.ref 1000] h rfl rfl rfl ?_
  refine tr_call (.invokevirtual 471) 471 0 0 0 m_X8_runCat [.ref 1000] [] (some (.int v0)) h1 rfl rfl rfl rfl rfl rfl rfl rfl rfl (tr_cok rfl (Or.inr ⟨_, _, rfl, tr_rc (hh_rd (hh_obj hL (k := 0) rfl).1) (by decide)⟩)) c_0 ?_
  have hL0 := c_0.2
  exact tl_ret hL0 .ireturn 1 (some (.int v0)) rfl rfl rfl rfl hr
theorem sg_X8_runNextCommand_61 {g : tr_g} {d : Nat} {h : ev_AH} {r : ev_O × ev_AH} {h1 : ev_AH} {v0 : Int32} (hL : hh_L h) (c_0 : tr_L g d m_X8_runMirror 0 [some (.ref 1000), none] [] h (.inl (some (.int v0)), h1)) (hr : r = (.inl (some (.int v0)), h1)) : tr_L g (d + 1) m_X8_runNextCommand 61 [some (.ref 1000)] [] h r := by
  refine tr_s (.aload_n 0) 1 62 [some (.ref 1000)] [.ref 1000] h rfl rfl rfl ?_
  refine tr_call (.invokevirtual 474) 474 0 0 0 m_X8_runMirror [.ref 1000] [] (some (.int v0)) h1 rfl rfl rfl rfl rfl rfl rfl rfl rfl (tr_cok rfl (Or.inr ⟨_, _, rfl, tr_rc (hh_rd (hh_obj hL (k := 0) rfl).1) (by decide)⟩)) c_0 ?_
  have hL0 := c_0.2
  exact tl_ret hL0 .ireturn 1 (some (.int v0)) rfl rfl rfl rfl hr
theorem sg_X8_runNextCommand_66 {g : tr_g} {d : Nat} {h : ev_AH} {r : ev_O × ev_AH} {h1 : ev_AH} {v0 : Int32} (hL : hh_L h) (c_0 : tr_L g d m_X8_runSay 0 [some (.ref 1000)] [] h (.inl (some (.int v0)), h1)) (hr : r = (.inl (some (.int v0)), h1)) : tr_L g (d + 1) m_X8_runNextCommand 66 [some (.ref 1000)] [] h r := by
  refine tr_s (.aload_n 0) 1 67 [some (.ref 1000)] [.ref 1000] h rfl rfl rfl ?_
  refine tr_call (.invokevirtual 477) 477 0 0 0 m_X8_runSay [.ref 1000] [] (some (.int v0)) h1 rfl rfl rfl rfl rfl rfl rfl rfl rfl (tr_cok rfl (Or.inr ⟨_, _, rfl, tr_rc (hh_rd (hh_obj hL (k := 0) rfl).1) (by decide)⟩)) c_0 ?_
  have hL0 := c_0.2
  exact tl_ret hL0 .ireturn 1 (some (.int v0)) rfl rfl rfl rfl hr
theorem sg_X8_runNextCommand_71 {g : tr_g} {d : Nat} {h : ev_AH} {r : ev_O × ev_AH} (hL : hh_L h) (hc0 : tr_ch (hh_i h 93 4)) (hr : r = (.inl (some (.int 0)), hh_si h 1 1 7 (hh_i h 93 4))) : tr_L g d m_X8_runNextCommand 71 [some (.ref 1000)] [] h r := by
  refine tr_s (.aload_n 0) 1 72 [some (.ref 1000)] [.ref 1000] h rfl rfl rfl ?_
  refine tl_gr hL 10 0 0 0 1 [1001, 1008, 1015, 1080, 1081, 1083, 1086, 1089, 1093, 1096, 1098, 0, 0, 0, 0, 0] rfl rfl rfl rfl ?_
  refine tr_s (.aload_n 0) 1 76 [some (.ref 1000)] [.ref 1000, .ref 1001] h rfl rfl rfl ?_
  refine tl_gr hL 60 0 0 8 93 [1001, 1008, 1015, 1080, 1081, 1083, 1086, 1089, 1093, 1096, 1098, 0, 0, 0, 0, 0] rfl rfl rfl rfl ?_
  refine tl_gi hL 480 93 7 4 [1094, 0, 0, 0, 0, 0, 0] rfl rfl rfl rfl ?_
  refine tl_pf hL 303 1 1 7 [1002, 1003, 1004, 1005, 1006, 1007, 0, 0, 0, 0, 0, 0, 0, 0] (hh_i h 93 4) .char rfl rfl rfl rfl rfl (tr_okc hc0) ?_
  have hL0 := hh_L_si (sl := 7) (x := (hh_i h 93 4)) hL (show hh_t[1]? = some (.inr (1, [1002, 1003, 1004, 1005, 1006, 1007, 0, 0, 0, 0, 0, 0, 0, 0])) from rfl) rfl
  refine tr_ic 0 0 (by decide) rfl ?_
  exact tl_ret hL0 .ireturn 1 (some (.int 0)) rfl rfl rfl rfl hr
theorem sg_X8_runNextCommand_87 {g : tr_g} {d : Nat} {h : ev_AH} {r : ev_O × ev_AH} (hL : hh_L h) (t : (hh_i h 1 6) ≠ 0 → tr_L g d m_X8_runNextCommand 99 [some (.ref 1000)] [] h r) (f : (hh_i h 1 6) = 0 → tr_L g d m_X8_runNextCommand 97 [some (.ref 1000)] [] h r) : tr_L g d m_X8_runNextCommand 87 [some (.ref 1000)] [] h r := by
  refine tr_s (.aload_n 0) 1 88 [some (.ref 1000)] [.ref 1000] h rfl rfl rfl ?_
  refine tl_gr hL 10 0 0 0 1 [1001, 1008, 1015, 1080, 1081, 1083, 1086, 1089, 1093, 1096, 1098, 0, 0, 0, 0, 0] rfl rfl rfl rfl ?_
  refine tl_gi hL 131 1 1 6 [1002, 1003, 1004, 1005, 1006, 1007, 0, 0, 0, 0, 0, 0, 0, 0] rfl rfl rfl rfl ?_
  exact tr_if1 .ne 5 99 (hh_i h 1 6) rfl rfl rfl (fun hc => t ((tr_ne hc).1 rfl)) (fun hc => f ((tr_ne hc).2 rfl))
theorem sg_X8_runNextCommand_97 {g : tr_g} {d : Nat} {h : ev_AH} {r : ev_O × ev_AH} {w0 : Option Value} (hL : hh_L h) (hr : r = (.inl (some (.int 4)), h)) : tr_L g d m_X8_runNextCommand 97 [w0] [] h r := by
  refine tr_ic 4 4 (by decide) rfl ?_
  exact tl_ret hL .ireturn 1 (some (.int 4)) rfl rfl rfl rfl hr
theorem sg_X8_runNextCommand_99 {g : tr_g} {d : Nat} {h : ev_AH} {r : ev_O × ev_AH} {h1 : ev_AH} (hL : hh_L h) (c_0 : tr_L g d m_X8_holdVote 0 [some (.ref 1000), none] [] h (.inl none, h1)) (hr : r = (.inl (some (.int 0)), h1)) : tr_L g (d + 1) m_X8_runNextCommand 99 [some (.ref 1000)] [] h r := by
  refine tr_s (.aload_n 0) 1 100 [some (.ref 1000)] [.ref 1000] h rfl rfl rfl ?_
  refine tr_call (.invokevirtual 309) 309 0 0 0 m_X8_holdVote [.ref 1000] [] none h1 rfl rfl rfl rfl rfl rfl rfl rfl rfl (tr_cok rfl (Or.inr ⟨_, _, rfl, tr_rc (hh_rd (hh_obj hL (k := 0) rfl).1) (by decide)⟩)) c_0 ?_
  have hL0 := c_0.2
  refine tr_ic 0 0 (by decide) rfl ?_
  exact tl_ret hL0 .ireturn 1 (some (.int 0)) rfl rfl rfl rfl hr
theorem sg_X8_runNextCommand_105 {g : tr_g} {d : Nat} {h : ev_AH} {r : ev_O × ev_AH} {h1 : ev_AH} {v0 : Int32} (hL : hh_L h) (c_0 : tr_L g d m_X2_mayRetry 0 [some (.ref 1001)] [] h (.inl (some (.int v0)), h1)) (t : v0 ≠ 0 → tr_L g (d + 1) m_X8_runNextCommand 117 [some (.ref 1000)] [] h1 r) (f : v0 = 0 → tr_L g (d + 1) m_X8_runNextCommand 115 [some (.ref 1000)] [] h1 r) : tr_L g (d + 1) m_X8_runNextCommand 105 [some (.ref 1000)] [] h r := by
  refine tr_s (.aload_n 0) 1 106 [some (.ref 1000)] [.ref 1000] h rfl rfl rfl ?_
  refine tl_gr hL 10 0 0 0 1 [1001, 1008, 1015, 1080, 1081, 1083, 1086, 1089, 1093, 1096, 1098, 0, 0, 0, 0, 0] rfl rfl rfl rfl ?_
  refine tr_call (.invokevirtual 315) 315 1 0 1 m_X2_mayRetry [.ref 1001] [] (some (.int v0)) h1 rfl rfl rfl rfl rfl rfl rfl rfl rfl (tr_cok rfl (Or.inr ⟨_, _, rfl, tr_rc (hh_rd (hh_obj hL (k := 1) rfl).1) (by decide)⟩)) c_0 ?_
  have hL0 := c_0.2
  exact tr_if1 .ne 5 117 v0 rfl rfl rfl (fun hc => t ((tr_ne hc).1 rfl)) (fun hc => f ((tr_ne hc).2 rfl))
theorem sg_X8_runNextCommand_115 {g : tr_g} {d : Nat} {h : ev_AH} {r : ev_O × ev_AH} {w0 : Option Value} (hL : hh_L h) (hr : r = (.inl (some (.int 5)), h)) : tr_L g d m_X8_runNextCommand 115 [w0] [] h r := by
  refine tr_ic 5 5 (by decide) rfl ?_
  exact tl_ret hL .ireturn 1 (some (.int 5)) rfl rfl rfl rfl hr
theorem sg_X8_runNextCommand_117 {g : tr_g} {d : Nat} {h : ev_AH} {r : ev_O × ev_AH} {h1 : ev_AH} {v0 : Int32} (hL : hh_L h) (c_0 : tr_L g d m_X2_startAgain 0 [some (.ref 1001), none, none] [] h (.inl (some (.int v0)), h1)) (hr : r = (.inl (some (.int 0)), h1)) : tr_L g (d + 1) m_X8_runNextCommand 117 [some (.ref 1000)] [] h r := by
  refine tr_s (.aload_n 0) 1 118 [some (.ref 1000)] [.ref 1000] h rfl rfl rfl ?_
  refine tl_gr hL 10 0 0 0 1 [1001, 1008, 1015, 1080, 1081, 1083, 1086, 1089, 1093, 1096, 1098, 0, 0, 0, 0, 0] rfl rfl rfl rfl ?_
  refine tr_call (.invokevirtual 324) 324 1 0 1 m_X2_startAgain [.ref 1001] [] (some (.int v0)) h1 rfl rfl rfl rfl rfl rfl rfl rfl rfl (tr_cok rfl (Or.inr ⟨_, _, rfl, tr_rc (hh_rd (hh_obj hL (k := 1) rfl).1) (by decide)⟩)) c_0 ?_
  have hL0 := c_0.2
  refine tr_s .pop 1 125 [some (.ref 1000)] [] h1 rfl rfl rfl ?_
  refine tr_ic 0 0 (by decide) rfl ?_
  exact tl_ret hL0 .ireturn 1 (some (.int 0)) rfl rfl rfl rfl hr
theorem sg_X8_runCat_0 {g : tr_g} {d : Nat} {h : ev_AH} {r : ev_O × ev_AH} {h1 : ev_AH} {v0 : Int32} (hL : hh_L h) (c_0 : tr_L g d m_X8_isCell 0 [some (.int (hh_i h 93 3))] [] h (.inl (some (.int v0)), h1)) (t : v0 = 0 → tr_L g (d + 1) m_X8_runCat 40 [some (.ref 1000), none] [] h1 r) (f : v0 ≠ 0 → tr_L g (d + 1) m_X8_runCat 13 [some (.ref 1000), none] [] h1 r) : tr_L g (d + 1) m_X8_runCat 0 [some (.ref 1000), none] [] h r := by
  refine tr_s (.aload_n 0) 1 1 [some (.ref 1000), none] [.ref 1000] h rfl rfl rfl ?_
  refine tl_gr hL 60 0 0 8 93 [1001, 1008, 1015, 1080, 1081, 1083, 1086, 1089, 1093, 1096, 1098, 0, 0, 0, 0, 0] rfl rfl rfl rfl ?_
  refine tl_gi hL 483 93 7 3 [1094, 0, 0, 0, 0, 0, 0] rfl rfl rfl rfl ?_
  refine tr_call (.invokestatic 440) 440 2 1 0 m_X8_isCell [.int (hh_i h 93 3)] [] (some (.int v0)) h1 rfl rfl rfl rfl rfl rfl rfl rfl rfl (tr_cok rfl (Or.inl rfl)) c_0 ?_
  have hL0 := c_0.2
  exact tr_if1 .eq 30 40 v0 rfl rfl rfl (fun hc => t ((tr_eq hc).1 rfl)) (fun hc => f ((tr_eq hc).2 rfl))
theorem sg_X8_runCat_13 {g : tr_g} {d : Nat} {h : ev_AH} {r : ev_O × ev_AH} {w1 : Option Value} {h1 : ev_AH} {v0 : Int32} (hL : hh_L h) (c_0 : tr_L g d m_X8_areThreeOptions 0 [some (.int (hh_i h 93 4)), some (.int (hh_i h 93 5)), some (.int (hh_i h 93 6))] [] h (.inl (some (.int v0)), h1)) (t : v0 ≠ 0 → tr_L g (d + 1) m_X8_runCat 42 [some (.ref 1000), w1] [] h1 r) (f : v0 = 0 → tr_L g (d + 1) m_X8_runCat 40 [some (.ref 1000), w1] [] h1 r) : tr_L g (d + 1) m_X8_runCat 13 [some (.ref 1000), w1] [] h r := by
  refine tr_s (.aload_n 0) 1 14 [some (.ref 1000), w1] [.ref 1000] h rfl rfl rfl ?_
  refine tl_gr hL 60 0 0 8 93 [1001, 1008, 1015, 1080, 1081, 1083, 1086, 1089, 1093, 1096, 1098, 0, 0, 0, 0, 0] rfl rfl rfl rfl ?_
  refine tl_gi hL 480 93 7 4 [1094, 0, 0, 0, 0, 0, 0] rfl rfl rfl rfl ?_
  refine tr_s (.aload_n 0) 1 21 [some (.ref 1000), w1] [.ref 1000, .int (hh_i h 93 4)] h rfl rfl rfl ?_
  refine tl_gr hL 60 0 0 8 93 [1001, 1008, 1015, 1080, 1081, 1083, 1086, 1089, 1093, 1096, 1098, 0, 0, 0, 0, 0] rfl rfl rfl rfl ?_
  refine tl_gi hL 486 93 7 5 [1094, 0, 0, 0, 0, 0, 0] rfl rfl rfl rfl ?_
  refine tr_s (.aload_n 0) 1 28 [some (.ref 1000), w1] [.ref 1000, .int (hh_i h 93 5), .int (hh_i h 93 4)] h rfl rfl rfl ?_
  refine tl_gr hL 60 0 0 8 93 [1001, 1008, 1015, 1080, 1081, 1083, 1086, 1089, 1093, 1096, 1098, 0, 0, 0, 0, 0] rfl rfl rfl rfl ?_
  refine tl_gi hL 489 93 7 6 [1094, 0, 0, 0, 0, 0, 0] rfl rfl rfl rfl ?_
  refine tr_call (.invokestatic 96) 96 2 3 0 m_X8_areThreeOptions [.int (hh_i h 93 4), .int (hh_i h 93 5), .int (hh_i h 93 6)] [] (some (.int v0)) h1 rfl rfl rfl rfl rfl rfl rfl rfl rfl (tr_cok rfl (Or.inl rfl)) c_0 ?_
  have hL0 := c_0.2
  exact tr_if1 .ne 5 42 v0 rfl rfl rfl (fun hc => t ((tr_ne hc).1 rfl)) (fun hc => f ((tr_ne hc).2 rfl))
theorem sg_X8_runCat_40 {g : tr_g} {d : Nat} {h : ev_AH} {r : ev_O × ev_AH} {w0 w1 : Option Value} (hL : hh_L h) (hr : r = (.inl (some (.int (-1))), h)) : tr_L g d m_X8_runCat 40 [w0, w1] [] h r := by
  refine tr_ic (-1) (-1) (by decide) rfl ?_
  exact tl_ret hL .ireturn 1 (some (.int (-1))) rfl rfl rfl rfl hr
theorem sg_X8_runCat_42 {g : tr_g} {d : Nat} {h : ev_AH} {r : ev_O × ev_AH} {w1 : Option Value} {h1 : ev_AH} {v0 : Int32} (hL : hh_L h) (c_0 : tr_L g d m_X2_reasonAgainstCat 0 [some (.ref 1001), some (.int (hh_i h 93 3))] [] h (.inl (some (.int v0)), h1)) (t : v0 ≠ 0 → tr_L g (d + 1) m_X8_runCat 96 [some (.ref 1000), some (.int v0)] [] h1 r) (f : v0 = 0 → tr_L g (d + 1) m_X8_runCat 61 [some (.ref 1000), some (.int v0)] [] h1 r) : tr_L g (d + 1) m_X8_runCat 42 [some (.ref 1000), w1] [] h r := by
  refine tr_s (.aload_n 0) 1 43 [some (.ref 1000), w1] [.ref 1000] h rfl rfl rfl ?_
  refine tl_gr hL 10 0 0 0 1 [1001, 1008, 1015, 1080, 1081, 1083, 1086, 1089, 1093, 1096, 1098, 0, 0, 0, 0, 0] rfl rfl rfl rfl ?_
  refine tr_s (.aload_n 0) 1 47 [some (.ref 1000), w1] [.ref 1000, .ref 1001] h rfl rfl rfl ?_
  refine tl_gr hL 60 0 0 8 93 [1001, 1008, 1015, 1080, 1081, 1083, 1086, 1089, 1093, 1096, 1098, 0, 0, 0, 0, 0] rfl rfl rfl rfl ?_
  refine tl_gi hL 483 93 7 3 [1094, 0, 0, 0, 0, 0, 0] rfl rfl rfl rfl ?_
  refine tr_call (.invokevirtual 107) 107 1 1 1 m_X2_reasonAgainstCat [.ref 1001, .int (hh_i h 93 3)] [] (some (.int v0)) h1 rfl rfl rfl rfl rfl rfl rfl rfl rfl (tr_cok rfl (Or.inr ⟨_, _, rfl, tr_rc (hh_rd (hh_obj hL (k := 1) rfl).1) (by decide)⟩)) c_0 ?_
  have hL0 := c_0.2
  refine tr_st (.istore_n 1) 1 1 0 (.int v0) rfl rfl rfl rfl rfl rfl rfl ?_
  refine tr_s (.iload_n 1) 1 58 [some (.ref 1000), some (.int v0)] [.int v0] h1 rfl rfl rfl ?_
  exact tr_if1 .ne 38 96 v0 rfl rfl rfl (fun hc => t ((tr_ne hc).1 rfl)) (fun hc => f ((tr_ne hc).2 rfl))
theorem sg_X8_runCat_61 {g : tr_g} {d : Nat} {h : ev_AH} {r : ev_O × ev_AH} {x1 : Int32} {h1 : ev_AH} (hL : hh_L h) (c_0 : tr_L g d m_X2_seatCat 0 [some (.ref 1001), some (.int (hh_i h 93 3)), some (.int (hh_i h 93 4)), some (.int (hh_i h 93 5)), some (.int (hh_i h 93 6)), none, none, none, none] [] h (.inl none, h1)) (hr : r = (.inl (some (.int x1)), h1)) : tr_L g (d + 1) m_X8_runCat 61 [some (.ref 1000), some (.int x1)] [] h r := by
  refine tr_s (.aload_n 0) 1 62 [some (.ref 1000), some (.int x1)] [.ref 1000] h rfl rfl rfl ?_
  refine tl_gr hL 10 0 0 0 1 [1001, 1008, 1015, 1080, 1081, 1083, 1086, 1089, 1093, 1096, 1098, 0, 0, 0, 0, 0] rfl rfl rfl rfl ?_
  refine tr_s (.aload_n 0) 1 66 [some (.ref 1000), some (.int x1)] [.ref 1000, .ref 1001] h rfl rfl rfl ?_
  refine tl_gr hL 60 0 0 8 93 [1001, 1008, 1015, 1080, 1081, 1083, 1086, 1089, 1093, 1096, 1098, 0, 0, 0, 0, 0] rfl rfl rfl rfl ?_
  refine tl_gi hL 483 93 7 3 [1094, 0, 0, 0, 0, 0, 0] rfl rfl rfl rfl ?_
  refine tr_s (.aload_n 0) 1 73 [some (.ref 1000), some (.int x1)] [.ref 1000, .int (hh_i h 93 3), .ref 1001] h rfl rfl rfl ?_
  refine tl_gr hL 60 0 0 8 93 [1001, 1008, 1015, 1080, 1081, 1083, 1086, 1089, 1093, 1096, 1098, 0, 0, 0, 0, 0] rfl rfl rfl rfl ?_
  refine tl_gi hL 480 93 7 4 [1094, 0, 0, 0, 0, 0, 0] rfl rfl rfl rfl ?_
  refine tr_s (.aload_n 0) 1 80 [some (.ref 1000), some (.int x1)] [.ref 1000, .int (hh_i h 93 4), .int (hh_i h 93 3), .ref 1001] h rfl rfl rfl ?_
  refine tl_gr hL 60 0 0 8 93 [1001, 1008, 1015, 1080, 1081, 1083, 1086, 1089, 1093, 1096, 1098, 0, 0, 0, 0, 0] rfl rfl rfl rfl ?_
  refine tl_gi hL 486 93 7 5 [1094, 0, 0, 0, 0, 0, 0] rfl rfl rfl rfl ?_
  refine tr_s (.aload_n 0) 1 87 [some (.ref 1000), some (.int x1)] [.ref 1000, .int (hh_i h 93 5), .int (hh_i h 93 4), .int (hh_i h 93 3), .ref 1001] h rfl rfl rfl ?_
  refine tl_gr hL 60 0 0 8 93 [1001, 1008, 1015, 1080, 1081, 1083, 1086, 1089, 1093, 1096, 1098, 0, 0, 0, 0, 0] rfl rfl rfl rfl ?_
  refine tl_gi hL 489 93 7 6 [1094, 0, 0, 0, 0, 0, 0] rfl rfl rfl rfl ?_
  refine tr_call (.invokevirtual 127) 127 1 4 1 m_X2_seatCat [.ref 1001, .int (hh_i h 93 3), .int (hh_i h 93 4), .int (hh_i h 93 5), .int (hh_i h 93 6)] [] none h1 rfl rfl rfl rfl rfl rfl rfl rfl rfl (tr_cok rfl (Or.inr ⟨_, _, rfl, tr_rc (hh_rd (hh_obj hL (k := 1) rfl).1) (by decide)⟩)) c_0 ?_
  have hL0 := c_0.2
  refine tr_s (.iload_n 1) 1 97 [some (.ref 1000), some (.int x1)] [.int x1] h1 rfl rfl rfl ?_
  exact tl_ret hL0 .ireturn 1 (some (.int x1)) rfl rfl rfl rfl hr
theorem sg_X8_runCat_96 {g : tr_g} {d : Nat} {h : ev_AH} {r : ev_O × ev_AH} {w0 : Option Value} {x1 : Int32} (hL : hh_L h) (hr : r = (.inl (some (.int x1)), h)) : tr_L g d m_X8_runCat 96 [w0, some (.int x1)] [] h r := by
  refine tr_s (.iload_n 1) 1 97 [w0, some (.int x1)] [.int x1] h rfl rfl rfl ?_
  exact tl_ret hL .ireturn 1 (some (.int x1)) rfl rfl rfl rfl hr
theorem sg_X8_runMirror_0 {g : tr_g} {d : Nat} {h : ev_AH} {r : ev_O × ev_AH} {h1 : ev_AH} {v0 : Int32} (hL : hh_L h) (c_0 : tr_L g d m_X8_isCell 0 [some (.int (hh_i h 93 3))] [] h (.inl (some (.int v0)), h1)) (t : v0 ≠ 0 → tr_L g (d + 1) m_X8_runMirror 15 [some (.ref 1000), none] [] h1 r) (f : v0 = 0 → tr_L g (d + 1) m_X8_runMirror 13 [some (.ref 1000), none] [] h1 r) : tr_L g (d + 1) m_X8_runMirror 0 [some (.ref 1000), none] [] h r := by
  refine tr_s (.aload_n 0) 1 1 [some (.ref 1000), none] [.ref 1000] h rfl rfl rfl ?_
  refine tl_gr hL 60 0 0 8 93 [1001, 1008, 1015, 1080, 1081, 1083, 1086, 1089, 1093, 1096, 1098, 0, 0, 0, 0, 0] rfl rfl rfl rfl ?_
  refine tl_gi hL 483 93 7 3 [1094, 0, 0, 0, 0, 0, 0] rfl rfl rfl rfl ?_
  refine tr_call (.invokestatic 440) 440 2 1 0 m_X8_isCell [.int (hh_i h 93 3)] [] (some (.int v0)) h1 rfl rfl rfl rfl rfl rfl rfl rfl rfl (tr_cok rfl (Or.inl rfl)) c_0 ?_
  have hL0 := c_0.2
  exact tr_if1 .ne 5 15 v0 rfl rfl rfl (fun hc => t ((tr_ne hc).1 rfl)) (fun hc => f ((tr_ne hc).2 rfl))
theorem sg_X8_runMirror_13 {g : tr_g} {d : Nat} {h : ev_AH} {r : ev_O × ev_AH} {w0 w1 : Option Value} (hL : hh_L h) (hr : r = (.inl (some (.int (-1))), h)) : tr_L g d m_X8_runMirror 13 [w0, w1] [] h r := by
  refine tr_ic (-1) (-1) (by decide) rfl ?_
  exact tl_ret hL .ireturn 1 (some (.int (-1))) rfl rfl rfl rfl hr
theorem sg_X8_runMirror_15 {g : tr_g} {d : Nat} {h : ev_AH} {r : ev_O × ev_AH} {w1 : Option Value} {h1 : ev_AH} {v0 : Int32} (hL : hh_L h) (c_0 : tr_L g d m_X2_reasonAgainstMirror 0 [some (.ref 1001), some (.int (hh_i h 93 3))] [] h (.inl (some (.int v0)), h1)) (t : v0 ≠ 0 → tr_L g (d + 1) m_X8_runMirror 55 [some (.ref 1000), some (.int v0)] [] h1 r) (f : v0 = 0 → tr_L g (d + 1) m_X8_runMirror 34 [some (.ref 1000), some (.int v0)] [] h1 r) : tr_L g (d + 1) m_X8_runMirror 15 [some (.ref 1000), w1] [] h r := by
  refine tr_s (.aload_n 0) 1 16 [some (.ref 1000), w1] [.ref 1000] h rfl rfl rfl ?_
  refine tl_gr hL 10 0 0 0 1 [1001, 1008, 1015, 1080, 1081, 1083, 1086, 1089, 1093, 1096, 1098, 0, 0, 0, 0, 0] rfl rfl rfl rfl ?_
  refine tr_s (.aload_n 0) 1 20 [some (.ref 1000), w1] [.ref 1000, .ref 1001] h rfl rfl rfl ?_
  refine tl_gr hL 60 0 0 8 93 [1001, 1008, 1015, 1080, 1081, 1083, 1086, 1089, 1093, 1096, 1098, 0, 0, 0, 0, 0] rfl rfl rfl rfl ?_
  refine tl_gi hL 483 93 7 3 [1094, 0, 0, 0, 0, 0, 0] rfl rfl rfl rfl ?_
  refine tr_call (.invokevirtual 140) 140 1 1 1 m_X2_reasonAgainstMirror [.ref 1001, .int (hh_i h 93 3)] [] (some (.int v0)) h1 rfl rfl rfl rfl rfl rfl rfl rfl rfl (tr_cok rfl (Or.inr ⟨_, _, rfl, tr_rc (hh_rd (hh_obj hL (k := 1) rfl).1) (by decide)⟩)) c_0 ?_
  have hL0 := c_0.2
  refine tr_st (.istore_n 1) 1 1 0 (.int v0) rfl rfl rfl rfl rfl rfl rfl ?_
  refine tr_s (.iload_n 1) 1 31 [some (.ref 1000), some (.int v0)] [.int v0] h1 rfl rfl rfl ?_
  exact tr_if1 .ne 24 55 v0 rfl rfl rfl (fun hc => t ((tr_ne hc).1 rfl)) (fun hc => f ((tr_ne hc).2 rfl))
theorem sg_X8_runMirror_34 {g : tr_g} {d : Nat} {h : ev_AH} {r : ev_O × ev_AH} {x1 : Int32} {h1 : ev_AH} (hL : hh_L h) (c_0 : tr_L g d m_X2_changeContent 0 [some (.ref 1001), some (.int (hh_i h 93 3)), some (.int (hh_i h 93 4))] [] h (.inl none, h1)) (hr : r = (.inl (some (.int x1)), h1)) : tr_L g (d + 1) m_X8_runMirror 34 [some (.ref 1000), some (.int x1)] [] h r := by
  refine tr_s (.aload_n 0) 1 35 [some (.ref 1000), some (.int x1)] [.ref 1000] h rfl rfl rfl ?_
  refine tl_gr hL 10 0 0 0 1 [1001, 1008, 1015, 1080, 1081, 1083, 1086, 1089, 1093, 1096, 1098, 0, 0, 0, 0, 0] rfl rfl rfl rfl ?_
  refine tr_s (.aload_n 0) 1 39 [some (.ref 1000), some (.int x1)] [.ref 1000, .ref 1001] h rfl rfl rfl ?_
  refine tl_gr hL 60 0 0 8 93 [1001, 1008, 1015, 1080, 1081, 1083, 1086, 1089, 1093, 1096, 1098, 0, 0, 0, 0, 0] rfl rfl rfl rfl ?_
  refine tl_gi hL 483 93 7 3 [1094, 0, 0, 0, 0, 0, 0] rfl rfl rfl rfl ?_
  refine tr_s (.aload_n 0) 1 46 [some (.ref 1000), some (.int x1)] [.ref 1000, .int (hh_i h 93 3), .ref 1001] h rfl rfl rfl ?_
  refine tl_gr hL 60 0 0 8 93 [1001, 1008, 1015, 1080, 1081, 1083, 1086, 1089, 1093, 1096, 1098, 0, 0, 0, 0, 0] rfl rfl rfl rfl ?_
  refine tl_gi hL 480 93 7 4 [1094, 0, 0, 0, 0, 0, 0] rfl rfl rfl rfl ?_
  refine tr_call (.invokevirtual 145) 145 1 2 1 m_X2_changeContent [.ref 1001, .int (hh_i h 93 3), .int (hh_i h 93 4)] [] none h1 rfl rfl rfl rfl rfl rfl rfl rfl rfl (tr_cok rfl (Or.inr ⟨_, _, rfl, tr_rc (hh_rd (hh_obj hL (k := 1) rfl).1) (by decide)⟩)) c_0 ?_
  have hL0 := c_0.2
  refine tr_s (.iload_n 1) 1 56 [some (.ref 1000), some (.int x1)] [.int x1] h1 rfl rfl rfl ?_
  exact tl_ret hL0 .ireturn 1 (some (.int x1)) rfl rfl rfl rfl hr
theorem sg_X8_runMirror_55 {g : tr_g} {d : Nat} {h : ev_AH} {r : ev_O × ev_AH} {w0 : Option Value} {x1 : Int32} (hL : hh_L h) (hr : r = (.inl (some (.int x1)), h)) : tr_L g d m_X8_runMirror 55 [w0, some (.int x1)] [] h r := by
  refine tr_s (.iload_n 1) 1 56 [w0, some (.int x1)] [.int x1] h rfl rfl rfl ?_
  exact tl_ret hL .ireturn 1 (some (.int x1)) rfl rfl rfl rfl hr
theorem sg_X8_runSay_0 {g : tr_g} {d : Nat} {h : ev_AH} {r : ev_O × ev_AH} {h1 : ev_AH} {v0 : Int32} (hL : hh_L h) (c_0 : tr_L g d m_X8_isPort 0 [some (.int (hh_i h 93 3))] [] h (.inl (some (.int v0)), h1)) (t : v0 ≠ 0 → tr_L g (d + 1) m_X8_runSay 15 [some (.ref 1000)] [] h1 r) (f : v0 = 0 → tr_L g (d + 1) m_X8_runSay 13 [some (.ref 1000)] [] h1 r) : tr_L g (d + 1) m_X8_runSay 0 [some (.ref 1000)] [] h r := by
  refine tr_s (.aload_n 0) 1 1 [some (.ref 1000)] [.ref 1000] h rfl rfl rfl ?_
  refine tl_gr hL 60 0 0 8 93 [1001, 1008, 1015, 1080, 1081, 1083, 1086, 1089, 1093, 1096, 1098, 0, 0, 0, 0, 0] rfl rfl rfl rfl ?_
  refine tl_gi hL 483 93 7 3 [1094, 0, 0, 0, 0, 0, 0] rfl rfl rfl rfl ?_
  refine tr_call (.invokestatic 446) 446 2 1 0 m_X8_isPort [.int (hh_i h 93 3)] [] (some (.int v0)) h1 rfl rfl rfl rfl rfl rfl rfl rfl rfl (tr_cok rfl (Or.inl rfl)) c_0 ?_
  have hL0 := c_0.2
  exact tr_if1 .ne 5 15 v0 rfl rfl rfl (fun hc => t ((tr_ne hc).1 rfl)) (fun hc => f ((tr_ne hc).2 rfl))
theorem sg_X8_runSay_13 {g : tr_g} {d : Nat} {h : ev_AH} {r : ev_O × ev_AH} {w0 : Option Value} (hL : hh_L h) (hr : r = (.inl (some (.int (-1))), h)) : tr_L g d m_X8_runSay 13 [w0] [] h r := by
  refine tr_ic (-1) (-1) (by decide) rfl ?_
  exact tl_ret hL .ireturn 1 (some (.int (-1))) rfl rfl rfl rfl hr
theorem sg_X8_runSay_15 {g : tr_g} {d : Nat} {h : ev_AH} {r : ev_O × ev_AH} {h1 : ev_AH} (hL : hh_L h) (c_0 : tr_L g d m_X5_follow 0 [some (.ref 1080), some (.ref 1001), some (.int (hh_i h 93 3)), none, none, none, none, none] [] h (.inl none, h1)) (t : (hh_i h1 80 1) ≠ (-1) → tr_L g (d + 1) m_X8_runSay 46 [some (.ref 1000)] [] h1 r) (f : (hh_i h1 80 1) = (-1) → tr_L g (d + 1) m_X8_runSay 44 [some (.ref 1000)] [] h1 r) : tr_L g (d + 1) m_X8_runSay 15 [some (.ref 1000)] [] h r := by
  refine tr_s (.aload_n 0) 1 16 [some (.ref 1000)] [.ref 1000] h rfl rfl rfl ?_
  refine tl_gr hL 29 0 0 3 80 [1001, 1008, 1015, 1080, 1081, 1083, 1086, 1089, 1093, 1096, 1098, 0, 0, 0, 0, 0] rfl rfl rfl rfl ?_
  refine tr_s (.aload_n 0) 1 20 [some (.ref 1000)] [.ref 1000, .ref 1080] h rfl rfl rfl ?_
  refine tl_gr hL 10 0 0 0 1 [1001, 1008, 1015, 1080, 1081, 1083, 1086, 1089, 1093, 1096, 1098, 0, 0, 0, 0, 0] rfl rfl rfl rfl ?_
  refine tr_s (.aload_n 0) 1 24 [some (.ref 1000)] [.ref 1000, .ref 1001, .ref 1080] h rfl rfl rfl ?_
  refine tl_gr hL 60 0 0 8 93 [1001, 1008, 1015, 1080, 1081, 1083, 1086, 1089, 1093, 1096, 1098, 0, 0, 0, 0, 0] rfl rfl rfl rfl ?_
  refine tl_gi hL 483 93 7 3 [1094, 0, 0, 0, 0, 0, 0] rfl rfl rfl rfl ?_
  refine tr_call (.invokevirtual 202) 202 1 2 3 m_X5_follow [.ref 1080, .ref 1001, .int (hh_i h 93 3)] [] none h1 rfl rfl rfl rfl rfl rfl rfl rfl rfl (tr_cok rfl (Or.inr ⟨_, _, rfl, tr_rc (hh_rd (hh_obj hL (k := 80) rfl).1) (by decide)⟩)) c_0 ?_
  have hL0 := c_0.2
  refine tr_s (.aload_n 0) 1 34 [some (.ref 1000)] [.ref 1000] h1 rfl rfl rfl ?_
  refine tl_gr hL0 29 0 0 3 80 [1001, 1008, 1015, 1080, 1081, 1083, 1086, 1089, 1093, 1096, 1098, 0, 0, 0, 0, 0] rfl rfl rfl rfl ?_
  refine tl_gi hL0 217 80 3 1 [0, 0, 0, 0] rfl rfl rfl rfl ?_
  refine tr_ic (-1) (-1) (by decide) rfl ?_
  exact tr_if2 .ne 5 46 (hh_i h1 80 1) (-1) rfl rfl rfl (fun hc => t ((tr_ne hc).1 rfl)) (fun hc => f ((tr_ne hc).2 rfl))
theorem sg_X8_runSay_44 {g : tr_g} {d : Nat} {h : ev_AH} {r : ev_O × ev_AH} {w0 : Option Value} (hL : hh_L h) (hr : r = (.inl (some (.int 3)), h)) : tr_L g d m_X8_runSay 44 [w0] [] h r := by
  refine tr_ic 3 3 (by decide) rfl ?_
  exact tl_ret hL .ireturn 1 (some (.int 3)) rfl rfl rfl rfl hr
theorem sg_X8_runSay_46 {g : tr_g} {d : Nat} {h : ev_AH} {r : ev_O × ev_AH} {h1 h2 : ev_AH} {v0 : Int32} (hL : hh_L h) (c_0 : tr_L g d m_X8_indexOf 0 [some (.int (hh_i h 93 4))] [] h (.inl (some (.int v0)), h1)) (c_1 : tr_L g d m_X2_hear 0 [some (.ref 1001), some (.int (hh_i h 80 1)), some (.int v0), none, none] [] h1 (.inl none, h2)) (hr : r = (.inl (some (.int 0)), h2)) : tr_L g (d + 1) m_X8_runSay 46 [some (.ref 1000)] [] h r := by
  refine tr_s (.aload_n 0) 1 47 [some (.ref 1000)] [.ref 1000] h rfl rfl rfl ?_
  refine tl_gr hL 10 0 0 0 1 [1001, 1008, 1015, 1080, 1081, 1083, 1086, 1089, 1093, 1096, 1098, 0, 0, 0, 0, 0] rfl rfl rfl rfl ?_
  refine tr_s (.aload_n 0) 1 51 [some (.ref 1000)] [.ref 1000, .ref 1001] h rfl rfl rfl ?_
  refine tl_gr hL 29 0 0 3 80 [1001, 1008, 1015, 1080, 1081, 1083, 1086, 1089, 1093, 1096, 1098, 0, 0, 0, 0, 0] rfl rfl rfl rfl ?_
  refine tl_gi hL 217 80 3 1 [0, 0, 0, 0] rfl rfl rfl rfl ?_
  refine tr_s (.aload_n 0) 1 58 [some (.ref 1000)] [.ref 1000, .int (hh_i h 80 1), .ref 1001] h rfl rfl rfl ?_
  refine tl_gr hL 60 0 0 8 93 [1001, 1008, 1015, 1080, 1081, 1083, 1086, 1089, 1093, 1096, 1098, 0, 0, 0, 0, 0] rfl rfl rfl rfl ?_
  refine tl_gi hL 480 93 7 4 [1094, 0, 0, 0, 0, 0, 0] rfl rfl rfl rfl ?_
  refine tr_call (.invokestatic 189) 189 2 1 0 m_X8_indexOf [.int (hh_i h 93 4)] [.int (hh_i h 80 1), .ref 1001] (some (.int v0)) h1 rfl rfl rfl rfl rfl rfl rfl rfl rfl (tr_cok rfl (Or.inl rfl)) c_0 ?_
  have hL0 := c_0.2
  refine tr_call (.invokevirtual 248) 248 1 2 1 m_X2_hear [.ref 1001, .int (hh_i h 80 1), .int v0] [] none h2 rfl rfl rfl rfl rfl rfl rfl rfl rfl (tr_cok rfl (Or.inr ⟨_, _, rfl, tr_rc (hh_rd (hh_obj hL0 (k := 1) rfl).1) (by decide)⟩)) c_1 ?_
  have hL1 := c_1.2
  refine tr_ic 0 0 (by decide) rfl ?_
  exact tl_ret hL1 .ireturn 1 (some (.int 0)) rfl rfl rfl rfl hr
theorem sg_X8_catCount_0 {g : tr_g} {d : Nat} {h : ev_AH} {r : ev_O × ev_AH} (hL : hh_L h) (hr : r = (.inl (some (.int (hh_i h 1 6))), h)) : tr_L g d m_X8_catCount 0 [some (.ref 1000)] [] h r := by
  refine tr_s (.aload_n 0) 1 1 [some (.ref 1000)] [.ref 1000] h rfl rfl rfl ?_
  refine tl_gr hL 10 0 0 0 1 [1001, 1008, 1015, 1080, 1081, 1083, 1086, 1089, 1093, 1096, 1098, 0, 0, 0, 0, 0] rfl rfl rfl rfl ?_
  refine tl_gi hL 131 1 1 6 [1002, 1003, 1004, 1005, 1006, 1007, 0, 0, 0, 0, 0, 0, 0, 0] rfl rfl rfl rfl ?_
  exact tl_ret hL .ireturn 1 (some (.int (hh_i h 1 6))) rfl rfl rfl rfl hr
theorem sg_X8_method_0 {g : tr_g} {d : Nat} {h : ev_AH} {r : ev_O × ev_AH} (hL : hh_L h) (hc0 : tr_ch (hh_i h 1 7)) (hr : r = (.inl (some (.int (hh_i h 1 7))), h)) : tr_L g d m_X8_method 0 [some (.ref 1000)] [] h r := by
  refine tr_s (.aload_n 0) 1 1 [some (.ref 1000)] [.ref 1000] h rfl rfl rfl ?_
  refine tl_gr hL 10 0 0 0 1 [1001, 1008, 1015, 1080, 1081, 1083, 1086, 1089, 1093, 1096, 1098, 0, 0, 0, 0, 0] rfl rfl rfl rfl ?_
  refine tl_gi hL 303 1 1 7 [1002, 1003, 1004, 1005, 1006, 1007, 0, 0, 0, 0, 0, 0, 0, 0] rfl rfl rfl rfl ?_
  exact tl_ret hL .ireturn 1 (some (.int (hh_i h 1 7))) rfl rfl rfl (tr_ec rfl hc0) hr
theorem sg_X8_deliberations_0 {g : tr_g} {d : Nat} {h : ev_AH} {r : ev_O × ev_AH} (hL : hh_L h) (hr : r = (.inl (some (.int (hh_i h 1 8))), h)) : tr_L g d m_X8_deliberations 0 [some (.ref 1000)] [] h r := by
  refine tr_s (.aload_n 0) 1 1 [some (.ref 1000)] [.ref 1000] h rfl rfl rfl ?_
  refine tl_gr hL 10 0 0 0 1 [1001, 1008, 1015, 1080, 1081, 1083, 1086, 1089, 1093, 1096, 1098, 0, 0, 0, 0, 0] rfl rfl rfl rfl ?_
  refine tl_gi hL 319 1 1 8 [1002, 1003, 1004, 1005, 1006, 1007, 0, 0, 0, 0, 0, 0, 0, 0] rfl rfl rfl rfl ?_
  exact tl_ret hL .ireturn 1 (some (.int (hh_i h 1 8))) rfl rfl rfl rfl hr
theorem sg_X8_hungCount_0 {g : tr_g} {d : Nat} {h : ev_AH} {r : ev_O × ev_AH} (hL : hh_L h) (hr : r = (.inl (some (.int (hh_i h 1 9))), h)) : tr_L g d m_X8_hungCount 0 [some (.ref 1000)] [] h r := by
  refine tr_s (.aload_n 0) 1 1 [some (.ref 1000)] [.ref 1000] h rfl rfl rfl ?_
  refine tl_gr hL 10 0 0 0 1 [1001, 1008, 1015, 1080, 1081, 1083, 1086, 1089, 1093, 1096, 1098, 0, 0, 0, 0, 0] rfl rfl rfl rfl ?_
  refine tl_gi hL 329 1 1 9 [1002, 1003, 1004, 1005, 1006, 1007, 0, 0, 0, 0, 0, 0, 0, 0] rfl rfl rfl rfl ?_
  exact tl_ret hL .ireturn 1 (some (.int (hh_i h 1 9))) rfl rfl rfl rfl hr
theorem sg_X8_retrials_0 {g : tr_g} {d : Nat} {h : ev_AH} {r : ev_O × ev_AH} (hL : hh_L h) (hr : r = (.inl (some (.int (hh_i h 1 10))), h)) : tr_L g d m_X8_retrials 0 [some (.ref 1000)] [] h r := by
  refine tr_s (.aload_n 0) 1 1 [some (.ref 1000)] [.ref 1000] h rfl rfl rfl ?_
  refine tl_gr hL 10 0 0 0 1 [1001, 1008, 1015, 1080, 1081, 1083, 1086, 1089, 1093, 1096, 1098, 0, 0, 0, 0, 0] rfl rfl rfl rfl ?_
  refine tl_gi hL 332 1 1 10 [1002, 1003, 1004, 1005, 1006, 1007, 0, 0, 0, 0, 0, 0, 0, 0] rfl rfl rfl rfl ?_
  exact tl_ret hL .ireturn 1 (some (.int (hh_i h 1 10))) rfl rfl rfl rfl hr
theorem sg_X8_testimonies_0 {g : tr_g} {d : Nat} {h : ev_AH} {r : ev_O × ev_AH} (hL : hh_L h) (hr : r = (.inl (some (.int (hh_i h 1 11))), h)) : tr_L g d m_X8_testimonies 0 [some (.ref 1000)] [] h r := by
  refine tr_s (.aload_n 0) 1 1 [some (.ref 1000)] [.ref 1000] h rfl rfl rfl ?_
  refine tl_gr hL 10 0 0 0 1 [1001, 1008, 1015, 1080, 1081, 1083, 1086, 1089, 1093, 1096, 1098, 0, 0, 0, 0, 0] rfl rfl rfl rfl ?_
  refine tl_gi hL 335 1 1 11 [1002, 1003, 1004, 1005, 1006, 1007, 0, 0, 0, 0, 0, 0, 0, 0] rfl rfl rfl rfl ?_
  exact tl_ret hL .ireturn 1 (some (.int (hh_i h 1 11))) rfl rfl rfl rfl hr
theorem sg_X8_hasCause_0 {g : tr_g} {d : Nat} {h : ev_AH} {r : ev_O × ev_AH} {h1 : ev_AH} {v0 : Int32} (hL : hh_L h) (c_0 : tr_L g d m_X2_mayRetry 0 [some (.ref 1001)] [] h (.inl (some (.int v0)), h1)) (hb0 : v0 = 0 ∨ v0 = 1) (hr : r = (.inl (some (.int v0)), h1)) : tr_L g (d + 1) m_X8_hasCause 0 [some (.ref 1000)] [] h r := by
  refine tr_s (.aload_n 0) 1 1 [some (.ref 1000)] [.ref 1000] h rfl rfl rfl ?_
  refine tl_gr hL 10 0 0 0 1 [1001, 1008, 1015, 1080, 1081, 1083, 1086, 1089, 1093, 1096, 1098, 0, 0, 0, 0, 0] rfl rfl rfl rfl ?_
  refine tr_call (.invokevirtual 315) 315 1 0 1 m_X2_mayRetry [.ref 1001] [] (some (.int v0)) h1 rfl rfl rfl rfl rfl rfl rfl rfl rfl (tr_cok rfl (Or.inr ⟨_, _, rfl, tr_rc (hh_rd (hh_obj hL (k := 1) rfl).1) (by decide)⟩)) c_0 ?_
  have hL0 := c_0.2
  exact tl_ret hL0 .ireturn 1 (some (.int v0)) rfl rfl rfl (tr_eb rfl hb0) hr
theorem sx_X8_contentOf_0_1 {g : tr_g} {d : Nat} {h : ev_AH} {r : ev_O × ev_AH} {x1 : Int32} {h1 hx : ev_AH} {E : Nat} (hL : hh_L h) (cx : tr_L g d m_X8_requireCell 0 [some (.int x1)] [] h (.inr E, hx)) (hr : r = (.inr E, hx)) : tr_L g (d + 1) m_X8_contentOf 0 [some (.ref 1000), some (.int x1)] [] h r := by
  refine tr_s (.iload_n 1) 1 1 [some (.ref 1000), some (.int x1)] [.int x1] h rfl rfl rfl ?_
  exact tr_callx (.invokestatic 92) 92 2 1 0 m_X8_requireCell [.int x1] [] E hx rfl rfl rfl rfl rfl rfl rfl rfl rfl (tr_cok rfl (Or.inl rfl)) rfl cx hr
theorem sg_X8_contentOf_0 {g : tr_g} {d : Nat} {h : ev_AH} {r : ev_O × ev_AH} {x1 v0 : Int32} {h1 h2 : ev_AH} (hL : hh_L h) (c_0 : tr_L g d m_X8_requireCell 0 [some (.int x1)] [] h (.inl none, h1)) (c_1 : tr_L g d m_X8_at_ 0 [some (.ref 1002), some (.int x1)] [] h1 (.inl (some (.int v0)), h2)) (hc0 : tr_ch v0) (hr : r = (.inl (some (.int v0)), h2)) : tr_L g (d + 1) m_X8_contentOf 0 [some (.ref 1000), some (.int x1)] [] h r := by
  refine tr_s (.iload_n 1) 1 1 [some (.ref 1000), some (.int x1)] [.int x1] h rfl rfl rfl ?_
  refine tr_call (.invokestatic 92) 92 2 1 0 m_X8_requireCell [.int x1] [] none h1 rfl rfl rfl rfl rfl rfl rfl rfl rfl (tr_cok rfl (Or.inl rfl)) c_0 ?_
  have hL0 := c_0.2
  refine tr_s (.aload_n 0) 1 5 [some (.ref 1000), some (.int x1)] [.ref 1000] h1 rfl rfl rfl ?_
  refine tl_gr hL0 10 0 0 0 1 [1001, 1008, 1015, 1080, 1081, 1083, 1086, 1089, 1093, 1096, 1098, 0, 0, 0, 0, 0] rfl rfl rfl rfl ?_
  refine tl_gr hL0 168 1 1 0 2 [1002, 1003, 1004, 1005, 1006, 1007, 0, 0, 0, 0, 0, 0, 0, 0] rfl rfl rfl rfl ?_
  refine tr_s (.iload_n 1) 1 12 [some (.ref 1000), some (.int x1)] [.int x1, .ref 1002] h1 rfl rfl rfl ?_
  refine tr_call (.invokestatic 172) 172 2 2 0 m_X8_at_ [.ref 1002, .int x1] [] (some (.int v0)) h2 rfl rfl rfl rfl rfl rfl rfl rfl rfl (tr_cok rfl (Or.inl rfl)) c_1 ?_
  have hL1 := c_1.2
  exact tl_ret hL1 .ireturn 1 (some (.int v0)) rfl rfl rfl (tr_ec rfl hc0) hr
theorem sx_X8_cellOf_0_2 {g : tr_g} {d : Nat} {h : ev_AH} {r : ev_O × ev_AH} {x1 : Int32} {h1 hx : ev_AH} {E : Nat} (hL : hh_L h) (cx : tr_L g d m_X8_requireCat 0 [some (.ref 1000), some (.int x1)] [] h (.inr E, hx)) (hr : r = (.inr E, hx)) : tr_L g (d + 1) m_X8_cellOf 0 [some (.ref 1000), some (.int x1)] [] h r := by
  refine tr_s (.aload_n 0) 1 1 [some (.ref 1000), some (.int x1)] [.ref 1000] h rfl rfl rfl ?_
  refine tr_s (.iload_n 1) 1 2 [some (.ref 1000), some (.int x1)] [.int x1, .ref 1000] h rfl rfl rfl ?_
  exact tr_callx (.invokevirtual 153) 153 0 1 0 m_X8_requireCat [.ref 1000, .int x1] [] E hx rfl rfl rfl rfl rfl rfl rfl rfl rfl (tr_cok rfl (Or.inr ⟨_, _, rfl, tr_rc (hh_rd (hh_obj hL (k := 0) rfl).1) (by decide)⟩)) rfl cx hr
theorem sg_X8_cellOf_0 {g : tr_g} {d : Nat} {h : ev_AH} {r : ev_O × ev_AH} {x1 v0 : Int32} {h1 h2 : ev_AH} (hL : hh_L h) (c_0 : tr_L g d m_X8_requireCat 0 [some (.ref 1000), some (.int x1)] [] h (.inl none, h1)) (c_1 : tr_L g d m_X8_at 0 [some (.ref 1003), some (.int x1)] [] h1 (.inl (some (.int v0)), h2)) (hr : r = (.inl (some (.int v0)), h2)) : tr_L g (d + 1) m_X8_cellOf 0 [some (.ref 1000), some (.int x1)] [] h r := by
  refine tr_s (.aload_n 0) 1 1 [some (.ref 1000), some (.int x1)] [.ref 1000] h rfl rfl rfl ?_
  refine tr_s (.iload_n 1) 1 2 [some (.ref 1000), some (.int x1)] [.int x1, .ref 1000] h rfl rfl rfl ?_
  refine tr_call (.invokevirtual 153) 153 0 1 0 m_X8_requireCat [.ref 1000, .int x1] [] none h1 rfl rfl rfl rfl rfl rfl rfl rfl rfl (tr_cok rfl (Or.inr ⟨_, _, rfl, tr_rc (hh_rd (hh_obj hL (k := 0) rfl).1) (by decide)⟩)) c_0 ?_
  have hL0 := c_0.2
  refine tr_s (.aload_n 0) 1 6 [some (.ref 1000), some (.int x1)] [.ref 1000] h1 rfl rfl rfl ?_
  refine tl_gr hL0 10 0 0 0 1 [1001, 1008, 1015, 1080, 1081, 1083, 1086, 1089, 1093, 1096, 1098, 0, 0, 0, 0, 0] rfl rfl rfl rfl ?_
  refine tl_gr hL0 156 1 1 1 3 [1002, 1003, 1004, 1005, 1006, 1007, 0, 0, 0, 0, 0, 0, 0, 0] rfl rfl rfl rfl ?_
  refine tr_s (.iload_n 1) 1 13 [some (.ref 1000), some (.int x1)] [.int x1, .ref 1003] h1 rfl rfl rfl ?_
  refine tr_call (.invokestatic 159) 159 2 2 0 m_X8_at [.ref 1003, .int x1] [] (some (.int v0)) h2 rfl rfl rfl rfl rfl rfl rfl rfl rfl (tr_cok rfl (Or.inl rfl)) c_1 ?_
  have hL1 := c_1.2
  exact tl_ret hL1 .ireturn 1 (some (.int v0)) rfl rfl rfl rfl hr
theorem sx_X8_heardBy_0_2 {g : tr_g} {d : Nat} {h : ev_AH} {r : ev_O × ev_AH} {x1 : Int32} {h1 hx : ev_AH} {E : Nat} (hL : hh_L h) (cx : tr_L g d m_X8_requireCat 0 [some (.ref 1000), some (.int x1)] [] h (.inr E, hx)) (hr : r = (.inr E, hx)) : tr_L g (d + 1) m_X8_heardBy 0 [some (.ref 1000), some (.int x1)] [] h r := by
  refine tr_s (.aload_n 0) 1 1 [some (.ref 1000), some (.int x1)] [.ref 1000] h rfl rfl rfl ?_
  refine tr_s (.iload_n 1) 1 2 [some (.ref 1000), some (.int x1)] [.int x1, .ref 1000] h rfl rfl rfl ?_
  exact tr_callx (.invokevirtual 153) 153 0 1 0 m_X8_requireCat [.ref 1000, .int x1] [] E hx rfl rfl rfl rfl rfl rfl rfl rfl rfl (tr_cok rfl (Or.inr ⟨_, _, rfl, tr_rc (hh_rd (hh_obj hL (k := 0) rfl).1) (by decide)⟩)) rfl cx hr
theorem sg_X8_heardBy_0 {g : tr_g} {d : Nat} {h : ev_AH} {r : ev_O × ev_AH} {x1 v0 : Int32} {h1 h2 : ev_AH} (hL : hh_L h) (c_0 : tr_L g d m_X8_requireCat 0 [some (.ref 1000), some (.int x1)] [] h (.inl none, h1)) (c_1 : tr_L g d m_X8_at 0 [some (.ref 1006), some (.int x1)] [] h1 (.inl (some (.int v0)), h2)) (hr : r = (.inl (some (.int v0)), h2)) : tr_L g (d + 1) m_X8_heardBy 0 [some (.ref 1000), some (.int x1)] [] h r := by
  refine tr_s (.aload_n 0) 1 1 [some (.ref 1000), some (.int x1)] [.ref 1000] h rfl rfl rfl ?_
  refine tr_s (.iload_n 1) 1 2 [some (.ref 1000), some (.int x1)] [.int x1, .ref 1000] h rfl rfl rfl ?_
  refine tr_call (.invokevirtual 153) 153 0 1 0 m_X8_requireCat [.ref 1000, .int x1] [] none h1 rfl rfl rfl rfl rfl rfl rfl rfl rfl (tr_cok rfl (Or.inr ⟨_, _, rfl, tr_rc (hh_rd (hh_obj hL (k := 0) rfl).1) (by decide)⟩)) c_0 ?_
  have hL0 := c_0.2
  refine tr_s (.aload_n 0) 1 6 [some (.ref 1000), some (.int x1)] [.ref 1000] h1 rfl rfl rfl ?_
  refine tl_gr hL0 10 0 0 0 1 [1001, 1008, 1015, 1080, 1081, 1083, 1086, 1089, 1093, 1096, 1098, 0, 0, 0, 0, 0] rfl rfl rfl rfl ?_
  refine tl_gr hL0 196 1 1 4 6 [1002, 1003, 1004, 1005, 1006, 1007, 0, 0, 0, 0, 0, 0, 0, 0] rfl rfl rfl rfl ?_
  refine tr_s (.iload_n 1) 1 13 [some (.ref 1000), some (.int x1)] [.int x1, .ref 1006] h1 rfl rfl rfl ?_
  refine tr_call (.invokestatic 159) 159 2 2 0 m_X8_at [.ref 1006, .int x1] [] (some (.int v0)) h2 rfl rfl rfl rfl rfl rfl rfl rfl rfl (tr_cok rfl (Or.inl rfl)) c_1 ?_
  have hL1 := c_1.2
  exact tl_ret hL1 .ireturn 1 (some (.int v0)) rfl rfl rfl rfl hr
theorem sx_X8_optionAt_0_2 {g : tr_g} {d : Nat} {h : ev_AH} {r : ev_O × ev_AH} {x1 x2 : Int32} {h1 hx : ev_AH} {E : Nat} (hL : hh_L h) (cx : tr_L g d m_X8_requireCat 0 [some (.ref 1000), some (.int x1)] [] h (.inr E, hx)) (hr : r = (.inr E, hx)) : tr_L g (d + 1) m_X8_optionAt 0 [some (.ref 1000), some (.int x1), some (.int x2)] [] h r := by
  refine tr_s (.aload_n 0) 1 1 [some (.ref 1000), some (.int x1), some (.int x2)] [.ref 1000] h rfl rfl rfl ?_
  refine tr_s (.iload_n 1) 1 2 [some (.ref 1000), some (.int x1), some (.int x2)] [.int x1, .ref 1000] h rfl rfl rfl ?_
  exact tr_callx (.invokevirtual 153) 153 0 1 0 m_X8_requireCat [.ref 1000, .int x1] [] E hx rfl rfl rfl rfl rfl rfl rfl rfl rfl (tr_cok rfl (Or.inr ⟨_, _, rfl, tr_rc (hh_rd (hh_obj hL (k := 0) rfl).1) (by decide)⟩)) rfl cx hr
theorem sg_X8_optionAt_0 {g : tr_g} {d : Nat} {h : ev_AH} {r : ev_O × ev_AH} {x1 x2 : Int32} {h1 : ev_AH} (hL : hh_L h) (c_0 : tr_L g d m_X8_requireCat 0 [some (.ref 1000), some (.int x1)] [] h (.inl none, h1)) (t : x2 < 0 → tr_L g (d + 1) m_X8_optionAt 14 [some (.ref 1000), some (.int x1), some (.int x2)] [] h1 r) (f : 0 ≤ x2 → tr_L g (d + 1) m_X8_optionAt 9 [some (.ref 1000), some (.int x1), some (.int x2)] [] h1 r) : tr_L g (d + 1) m_X8_optionAt 0 [some (.ref 1000), some (.int x1), some (.int x2)] [] h r := by
  refine tr_s (.aload_n 0) 1 1 [some (.ref 1000), some (.int x1), some (.int x2)] [.ref 1000] h rfl rfl rfl ?_
  refine tr_s (.iload_n 1) 1 2 [some (.ref 1000), some (.int x1), some (.int x2)] [.int x1, .ref 1000] h rfl rfl rfl ?_
  refine tr_call (.invokevirtual 153) 153 0 1 0 m_X8_requireCat [.ref 1000, .int x1] [] none h1 rfl rfl rfl rfl rfl rfl rfl rfl rfl (tr_cok rfl (Or.inr ⟨_, _, rfl, tr_rc (hh_rd (hh_obj hL (k := 0) rfl).1) (by decide)⟩)) c_0 ?_
  have hL0 := c_0.2
  refine tr_s (.iload_n 2) 1 6 [some (.ref 1000), some (.int x1), some (.int x2)] [.int x2] h1 rfl rfl rfl ?_
  exact tr_if1 .lt 8 14 x2 rfl rfl rfl (fun hc => t ((tr_lt hc).1 rfl)) (fun hc => f ((tr_lt hc).2 rfl))
theorem sg_X8_optionAt_9 {g : tr_g} {d : Nat} {h : ev_AH} {r : ev_O × ev_AH} {x1 x2 : Int32} (hL : hh_L h) (t : x2 < 4 → tr_L g d m_X8_optionAt 24 [some (.ref 1000), some (.int x1), some (.int x2)] [] h r) (f : 4 ≤ x2 → tr_L g d m_X8_optionAt 14 [some (.ref 1000), some (.int x1), some (.int x2)] [] h r) : tr_L g d m_X8_optionAt 9 [some (.ref 1000), some (.int x1), some (.int x2)] [] h r := by
  refine tr_s (.iload_n 2) 1 10 [some (.ref 1000), some (.int x1), some (.int x2)] [.int x2] h rfl rfl rfl ?_
  refine tr_ic 4 4 (by decide) rfl ?_
  exact tr_if2 .lt 13 24 x2 4 rfl rfl rfl (fun hc => t ((tr_lt hc).1 rfl)) (fun hc => f ((tr_lt hc).2 rfl))
theorem sg_X8_optionAt_14 {g : tr_g} {d : Nat} {h : ev_AH} {r : ev_O × ev_AH} {w0 w1 w2 : Option Value} (hL : hh_L h) (hr : r = (.inr 1, hh_x h)) : tr_L g d m_X8_optionAt 14 [w0, w1, w2] [] h r := by
  exact tl_thr hL 100 1 rfl rfl rfl rfl rfl hr
theorem sg_X8_optionAt_24 {g : tr_g} {d : Nat} {h : ev_AH} {r : ev_O × ev_AH} {x1 x2 v0 v1 : Int32} {h1 h2 : ev_AH} (hL : hh_L h) (c_0 : tr_L g d m_X2_optionIn 0 [some (.ref 1001), some (.int x1), some (.int x2)] [] h (.inl (some (.int v0)), h1)) (c_1 : tr_L g d m_X8_letterOf 0 [some (.int v0)] [] h1 (.inl (some (.int v1)), h2)) (hc0 : tr_ch v1) (hr : r = (.inl (some (.int v1)), h2)) : tr_L g (d + 1) m_X8_optionAt 24 [some (.ref 1000), some (.int x1), some (.int x2)] [] h r := by
  refine tr_s (.aload_n 0) 1 25 [some (.ref 1000), some (.int x1), some (.int x2)] [.ref 1000] h rfl rfl rfl ?_
  refine tl_gr hL 10 0 0 0 1 [1001, 1008, 1015, 1080, 1081, 1083, 1086, 1089, 1093, 1096, 1098, 0, 0, 0, 0, 0] rfl rfl rfl rfl ?_
  refine tr_s (.iload_n 1) 1 29 [some (.ref 1000), some (.int x1), some (.int x2)] [.int x1, .ref 1001] h rfl rfl rfl ?_
  refine tr_s (.iload_n 2) 1 30 [some (.ref 1000), some (.int x1), some (.int x2)] [.int x2, .int x1, .ref 1001] h rfl rfl rfl ?_
  refine tr_call (.invokevirtual 177) 177 1 2 1 m_X2_optionIn [.ref 1001, .int x1, .int x2] [] (some (.int v0)) h1 rfl rfl rfl rfl rfl rfl rfl rfl rfl (tr_cok rfl (Or.inr ⟨_, _, rfl, tr_rc (hh_rd (hh_obj hL (k := 1) rfl).1) (by decide)⟩)) c_0 ?_
  have hL0 := c_0.2
  refine tr_call (.invokestatic 181) 181 2 1 0 m_X8_letterOf [.int v0] [] (some (.int v1)) h2 rfl rfl rfl rfl rfl rfl rfl rfl rfl (tr_cok rfl (Or.inl rfl)) c_1 ?_
  have hL1 := c_1.2
  exact tl_ret hL1 .ireturn 1 (some (.int v1)) rfl rfl rfl (tr_ec rfl hc0) hr
theorem sg_X8_verdictAt_0 {g : tr_g} {d : Nat} {h : ev_AH} {r : ev_O × ev_AH} {x1 : Int32} (hL : hh_L h) (t : x1 < 0 → tr_L g d m_X8_verdictAt 21 [some (.ref 1000), some (.int x1)] [] h r) (f : 0 ≤ x1 → tr_L g d m_X8_verdictAt 4 [some (.ref 1000), some (.int x1)] [] h r) : tr_L g d m_X8_verdictAt 0 [some (.ref 1000), some (.int x1)] [] h r := by
  refine tr_s (.iload_n 1) 1 1 [some (.ref 1000), some (.int x1)] [.int x1] h rfl rfl rfl ?_
  exact tr_if1 .lt 20 21 x1 rfl rfl rfl (fun hc => t ((tr_lt hc).1 rfl)) (fun hc => f ((tr_lt hc).2 rfl))
theorem sg_X8_verdictAt_4 {g : tr_g} {d : Nat} {h : ev_AH} {r : ev_O × ev_AH} {x1 : Int32} (hL : hh_L h) (t : 10 ≤ x1 → tr_L g d m_X8_verdictAt 21 [some (.ref 1000), some (.int x1)] [] h r) (f : x1 < 10 → tr_L g d m_X8_verdictAt 10 [some (.ref 1000), some (.int x1)] [] h r) : tr_L g d m_X8_verdictAt 4 [some (.ref 1000), some (.int x1)] [] h r := by
  refine tr_s (.iload_n 1) 1 5 [some (.ref 1000), some (.int x1)] [.int x1] h rfl rfl rfl ?_
  refine tr_bi 10 10 (by decide) rfl ?_
  exact tr_if2 .ge 14 21 x1 10 rfl rfl rfl (fun hc => t ((tr_ge hc).1 rfl)) (fun hc => f ((tr_ge hc).2 rfl))
theorem sg_X8_verdictAt_10 {g : tr_g} {d : Nat} {h : ev_AH} {r : ev_O × ev_AH} {x1 : Int32} (hL : hh_L h) (t : x1 < (hh_i h 1 8) → tr_L g d m_X8_verdictAt 32 [some (.ref 1000), some (.int x1)] [] h r) (f : (hh_i h 1 8) ≤ x1 → tr_L g d m_X8_verdictAt 21 [some (.ref 1000), some (.int x1)] [] h r) : tr_L g d m_X8_verdictAt 10 [some (.ref 1000), some (.int x1)] [] h r := by
  refine tr_s (.iload_n 1) 1 11 [some (.ref 1000), some (.int x1)] [.int x1] h rfl rfl rfl ?_
  refine tr_s (.aload_n 0) 1 12 [some (.ref 1000), some (.int x1)] [.ref 1000, .int x1] h rfl rfl rfl ?_
  refine tl_gr hL 10 0 0 0 1 [1001, 1008, 1015, 1080, 1081, 1083, 1086, 1089, 1093, 1096, 1098, 0, 0, 0, 0, 0] rfl rfl rfl rfl ?_
  refine tl_gi hL 319 1 1 8 [1002, 1003, 1004, 1005, 1006, 1007, 0, 0, 0, 0, 0, 0, 0, 0] rfl rfl rfl rfl ?_
  exact tr_if2 .lt 14 32 x1 (hh_i h 1 8) rfl rfl rfl (fun hc => t ((tr_lt hc).1 rfl)) (fun hc => f ((tr_lt hc).2 rfl))
theorem sg_X8_verdictAt_21 {g : tr_g} {d : Nat} {h : ev_AH} {r : ev_O × ev_AH} {w0 w1 : Option Value} (hL : hh_L h) (hr : r = (.inr 3, hh_x h)) : tr_L g d m_X8_verdictAt 21 [w0, w1] [] h r := by
  exact tl_thr hL 163 3 rfl rfl rfl rfl rfl hr
theorem sg_X8_verdictAt_32 {g : tr_g} {d : Nat} {h : ev_AH} {r : ev_O × ev_AH} {x1 v0 : Int32} {h1 : ev_AH} (hL : hh_L h) (c_0 : tr_L g d m_X8_at_ 0 [some (.ref 1007), some (.int x1)] [] h (.inl (some (.int v0)), h1)) (hc0 : tr_ch v0) (hr : r = (.inl (some (.int v0)), h1)) : tr_L g (d + 1) m_X8_verdictAt 32 [some (.ref 1000), some (.int x1)] [] h r := by
  refine tr_s (.aload_n 0) 1 33 [some (.ref 1000), some (.int x1)] [.ref 1000] h rfl rfl rfl ?_
  refine tl_gr hL 10 0 0 0 1 [1001, 1008, 1015, 1080, 1081, 1083, 1086, 1089, 1093, 1096, 1098, 0, 0, 0, 0, 0] rfl rfl rfl rfl ?_
  refine tl_gr hL 312 1 1 5 7 [1002, 1003, 1004, 1005, 1006, 1007, 0, 0, 0, 0, 0, 0, 0, 0] rfl rfl rfl rfl ?_
  refine tr_s (.iload_n 1) 1 40 [some (.ref 1000), some (.int x1)] [.int x1, .ref 1007] h rfl rfl rfl ?_
  refine tr_call (.invokestatic 172) 172 2 2 0 m_X8_at_ [.ref 1007, .int x1] [] (some (.int v0)) h1 rfl rfl rfl rfl rfl rfl rfl rfl rfl (tr_cok rfl (Or.inl rfl)) c_0 ?_
  have hL0 := c_0.2
  exact tl_ret hL0 .ireturn 1 (some (.int v0)) rfl rfl rfl (tr_ec rfl hc0) hr
theorem sx_X8_placeOf_0_2 {g : tr_g} {d : Nat} {h : ev_AH} {r : ev_O × ev_AH} {x1 x2 : Int32} {h1 hx : ev_AH} {E : Nat} (hL : hh_L h) (cx : tr_L g d m_X8_requireCat 0 [some (.ref 1000), some (.int x1)] [] h (.inr E, hx)) (hr : r = (.inr E, hx)) : tr_L g (d + 1) m_X8_placeOf 0 [some (.ref 1000), some (.int x1), some (.int x2)] [] h r := by
  refine tr_s (.aload_n 0) 1 1 [some (.ref 1000), some (.int x1), some (.int x2)] [.ref 1000] h rfl rfl rfl ?_
  refine tr_s (.iload_n 1) 1 2 [some (.ref 1000), some (.int x1), some (.int x2)] [.int x1, .ref 1000] h rfl rfl rfl ?_
  exact tr_callx (.invokevirtual 153) 153 0 1 0 m_X8_requireCat [.ref 1000, .int x1] [] E hx rfl rfl rfl rfl rfl rfl rfl rfl rfl (tr_cok rfl (Or.inr ⟨_, _, rfl, tr_rc (hh_rd (hh_obj hL (k := 0) rfl).1) (by decide)⟩)) rfl cx hr
theorem sx_X8_placeOf_0_6 {g : tr_g} {d : Nat} {h : ev_AH} {r : ev_O × ev_AH} {x1 x2 : Int32} {h1 h2 hx : ev_AH} {E : Nat} (hL : hh_L h) (c_0 : tr_L g d m_X8_requireCat 0 [some (.ref 1000), some (.int x1)] [] h (.inl none, h1)) (cx : tr_L g d m_X8_requireOption 0 [some (.int x2)] [] h1 (.inr E, hx)) (hr : r = (.inr E, hx)) : tr_L g (d + 1) m_X8_placeOf 0 [some (.ref 1000), some (.int x1), some (.int x2)] [] h r := by
  refine tr_s (.aload_n 0) 1 1 [some (.ref 1000), some (.int x1), some (.int x2)] [.ref 1000] h rfl rfl rfl ?_
  refine tr_s (.iload_n 1) 1 2 [some (.ref 1000), some (.int x1), some (.int x2)] [.int x1, .ref 1000] h rfl rfl rfl ?_
  refine tr_call (.invokevirtual 153) 153 0 1 0 m_X8_requireCat [.ref 1000, .int x1] [] none h1 rfl rfl rfl rfl rfl rfl rfl rfl rfl (tr_cok rfl (Or.inr ⟨_, _, rfl, tr_rc (hh_rd (hh_obj hL (k := 0) rfl).1) (by decide)⟩)) c_0 ?_
  have hL0 := c_0.2
  refine tr_s (.iload_n 2) 1 6 [some (.ref 1000), some (.int x1), some (.int x2)] [.int x2] h1 rfl rfl rfl ?_
  exact tr_callx (.invokestatic 185) 185 2 1 0 m_X8_requireOption [.int x2] [] E hx rfl rfl rfl rfl rfl rfl rfl rfl rfl (tr_cok rfl (Or.inl rfl)) rfl cx hr
theorem sg_X8_placeOf_0 {g : tr_g} {d : Nat} {h : ev_AH} {r : ev_O × ev_AH} {x1 x2 v0 v1 : Int32} {h1 h2 h3 h4 : ev_AH} (hL : hh_L h) (c_0 : tr_L g d m_X8_requireCat 0 [some (.ref 1000), some (.int x1)] [] h (.inl none, h1)) (c_1 : tr_L g d m_X8_requireOption 0 [some (.int x2)] [] h1 (.inl none, h2)) (c_2 : tr_L g d m_X8_indexOf 0 [some (.int x2)] [] h2 (.inl (some (.int v0)), h3)) (c_3 : tr_L g d m_X2_placeIn 0 [some (.ref 1001), some (.int x1), some (.int v0), none] [] h3 (.inl (some (.int v1)), h4)) (hr : r = (.inl (some (.int v1)), h4)) : tr_L g (d + 1) m_X8_placeOf 0 [some (.ref 1000), some (.int x1), some (.int x2)] [] h r := by
  refine tr_s (.aload_n 0) 1 1 [some (.ref 1000), some (.int x1), some (.int x2)] [.ref 1000] h rfl rfl rfl ?_
  refine tr_s (.iload_n 1) 1 2 [some (.ref 1000), some (.int x1), some (.int x2)] [.int x1, .ref 1000] h rfl rfl rfl ?_
  refine tr_call (.invokevirtual 153) 153 0 1 0 m_X8_requireCat [.ref 1000, .int x1] [] none h1 rfl rfl rfl rfl rfl rfl rfl rfl rfl (tr_cok rfl (Or.inr ⟨_, _, rfl, tr_rc (hh_rd (hh_obj hL (k := 0) rfl).1) (by decide)⟩)) c_0 ?_
  have hL0 := c_0.2
  refine tr_s (.iload_n 2) 1 6 [some (.ref 1000), some (.int x1), some (.int x2)] [.int x2] h1 rfl rfl rfl ?_
  refine tr_call (.invokestatic 185) 185 2 1 0 m_X8_requireOption [.int x2] [] none h2 rfl rfl rfl rfl rfl rfl rfl rfl rfl (tr_cok rfl (Or.inl rfl)) c_1 ?_
  have hL1 := c_1.2
  refine tr_s (.aload_n 0) 1 10 [some (.ref 1000), some (.int x1), some (.int x2)] [.ref 1000] h2 rfl rfl rfl ?_
  refine tl_gr hL1 10 0 0 0 1 [1001, 1008, 1015, 1080, 1081, 1083, 1086, 1089, 1093, 1096, 1098, 0, 0, 0, 0, 0] rfl rfl rfl rfl ?_
  refine tr_s (.iload_n 1) 1 14 [some (.ref 1000), some (.int x1), some (.int x2)] [.int x1, .ref 1001] h2 rfl rfl rfl ?_
  refine tr_s (.iload_n 2) 1 15 [some (.ref 1000), some (.int x1), some (.int x2)] [.int x2, .int x1, .ref 1001] h2 rfl rfl rfl ?_
  refine tr_call (.invokestatic 189) 189 2 1 0 m_X8_indexOf [.int x2] [.int x1, .ref 1001] (some (.int v0)) h3 rfl rfl rfl rfl rfl rfl rfl rfl rfl (tr_cok rfl (Or.inl rfl)) c_2 ?_
  have hL2 := c_2.2
  refine tr_call (.invokevirtual 193) 193 1 2 1 m_X2_placeIn [.ref 1001, .int x1, .int v0] [] (some (.int v1)) h4 rfl rfl rfl rfl rfl rfl rfl rfl rfl (tr_cok rfl (Or.inr ⟨_, _, rfl, tr_rc (hh_rd (hh_obj hL2 (k := 1) rfl).1) (by decide)⟩)) c_3 ?_
  have hL3 := c_3.2
  exact tl_ret hL3 .ireturn 1 (some (.int v1)) rfl rfl rfl rfl hr
theorem sx_X8_catIn_0_1 {g : tr_g} {d : Nat} {h : ev_AH} {r : ev_O × ev_AH} {x1 : Int32} {h1 hx : ev_AH} {E : Nat} (hL : hh_L h) (cx : tr_L g d m_X8_requireCell 0 [some (.int x1)] [] h (.inr E, hx)) (hr : r = (.inr E, hx)) : tr_L g (d + 1) m_X8_catIn 0 [some (.ref 1000), some (.int x1), none] [] h r := by
  refine tr_s (.iload_n 1) 1 1 [some (.ref 1000), some (.int x1), none] [.int x1] h rfl rfl rfl ?_
  exact tr_callx (.invokestatic 92) 92 2 1 0 m_X8_requireCell [.int x1] [] E hx rfl rfl rfl rfl rfl rfl rfl rfl rfl (tr_cok rfl (Or.inl rfl)) rfl cx hr
theorem sg_X8_catIn_0 {g : tr_g} {d : Nat} {h : ev_AH} {r : ev_O × ev_AH} {x1 v0 : Int32} {h1 h2 : ev_AH} (hL : hh_L h) (c_0 : tr_L g d m_X8_requireCell 0 [some (.int x1)] [] h (.inl none, h1)) (c_1 : tr_L g d m_X2_findCat 0 [some (.ref 1001), some (.int x1), none] [] h1 (.inl (some (.int v0)), h2)) (t : v0 ≠ (-1) → tr_L g (d + 1) m_X8_catIn 28 [some (.ref 1000), some (.int x1), some (.int v0)] [] h2 r) (f : v0 = (-1) → tr_L g (d + 1) m_X8_catIn 18 [some (.ref 1000), some (.int x1), some (.int v0)] [] h2 r) : tr_L g (d + 1) m_X8_catIn 0 [some (.ref 1000), some (.int x1), none] [] h r := by
  refine tr_s (.iload_n 1) 1 1 [some (.ref 1000), some (.int x1), none] [.int x1] h rfl rfl rfl ?_
  refine tr_call (.invokestatic 92) 92 2 1 0 m_X8_requireCell [.int x1] [] none h1 rfl rfl rfl rfl rfl rfl rfl rfl rfl (tr_cok rfl (Or.inl rfl)) c_0 ?_
  have hL0 := c_0.2
  refine tr_s (.aload_n 0) 1 5 [some (.ref 1000), some (.int x1), none] [.ref 1000] h1 rfl rfl rfl ?_
  refine tl_gr hL0 10 0 0 0 1 [1001, 1008, 1015, 1080, 1081, 1083, 1086, 1089, 1093, 1096, 1098, 0, 0, 0, 0, 0] rfl rfl rfl rfl ?_
  refine tr_s (.iload_n 1) 1 9 [some (.ref 1000), some (.int x1), none] [.int x1, .ref 1001] h1 rfl rfl rfl ?_
  refine tr_call (.invokevirtual 111) 111 1 1 1 m_X2_findCat [.ref 1001, .int x1] [] (some (.int v0)) h2 rfl rfl rfl rfl rfl rfl rfl rfl rfl (tr_cok rfl (Or.inr ⟨_, _, rfl, tr_rc (hh_rd (hh_obj hL0 (k := 1) rfl).1) (by decide)⟩)) c_1 ?_
  have hL1 := c_1.2
  refine tr_st (.istore_n 2) 1 2 0 (.int v0) rfl rfl rfl rfl rfl rfl rfl ?_
  refine tr_s (.iload_n 2) 1 14 [some (.ref 1000), some (.int x1), some (.int v0)] [.int v0] h2 rfl rfl rfl ?_
  refine tr_ic (-1) (-1) (by decide) rfl ?_
  exact tr_if2 .ne 13 28 v0 (-1) rfl rfl rfl (fun hc => t ((tr_ne hc).1 rfl)) (fun hc => f ((tr_ne hc).2 rfl))
theorem sg_X8_catIn_18 {g : tr_g} {d : Nat} {h : ev_AH} {r : ev_O × ev_AH} {w0 w1 w2 : Option Value} (hL : hh_L h) (hr : r = (.inr 3, hh_x h)) : tr_L g d m_X8_catIn 18 [w0, w1, w2] [] h r := by
  exact tl_thr hL 163 3 rfl rfl rfl rfl rfl hr
theorem sg_X8_catIn_28 {g : tr_g} {d : Nat} {h : ev_AH} {r : ev_O × ev_AH} {w0 w1 : Option Value} {x2 : Int32} (hL : hh_L h) (hr : r = (.inl (some (.int x2)), h)) : tr_L g d m_X8_catIn 28 [w0, w1, some (.int x2)] [] h r := by
  refine tr_s (.iload_n 2) 1 29 [w0, w1, some (.int x2)] [.int x2] h rfl rfl rfl ?_
  exact tl_ret hL .ireturn 1 (some (.int x2)) rfl rfl rfl rfl hr
theorem sx_X8_rayEnd_0_1 {g : tr_g} {d : Nat} {h : ev_AH} {r : ev_O × ev_AH} {x1 : Int32} {h1 hx : ev_AH} {E : Nat} (hL : hh_L h) (cx : tr_L g d m_X8_requirePort 0 [some (.int x1)] [] h (.inr E, hx)) (hr : r = (.inr E, hx)) : tr_L g (d + 1) m_X8_rayEnd 0 [some (.ref 1000), some (.int x1)] [] h r := by
  refine tr_s (.iload_n 1) 1 1 [some (.ref 1000), some (.int x1)] [.int x1] h rfl rfl rfl ?_
  exact tr_callx (.invokestatic 199) 199 2 1 0 m_X8_requirePort [.int x1] [] E hx rfl rfl rfl rfl rfl rfl rfl rfl rfl (tr_cok rfl (Or.inl rfl)) rfl cx hr
theorem sg_X8_rayEnd_0 {g : tr_g} {d : Nat} {h : ev_AH} {r : ev_O × ev_AH} {x1 : Int32} {h1 h2 : ev_AH} (hL : hh_L h) (c_0 : tr_L g d m_X8_requirePort 0 [some (.int x1)] [] h (.inl none, h1)) (c_1 : tr_L g d m_X5_follow 0 [some (.ref 1080), some (.ref 1001), some (.int x1), none, none, none, none, none] [] h1 (.inl none, h2)) (t : (hh_i h2 80 0) ≠ (-1) → tr_L g (d + 1) m_X8_rayEnd 37 [some (.ref 1000), some (.int x1)] [] h2 r) (f : (hh_i h2 80 0) = (-1) → tr_L g (d + 1) m_X8_rayEnd 27 [some (.ref 1000), some (.int x1)] [] h2 r) : tr_L g (d + 1) m_X8_rayEnd 0 [some (.ref 1000), some (.int x1)] [] h r := by
  refine tr_s (.iload_n 1) 1 1 [some (.ref 1000), some (.int x1)] [.int x1] h rfl rfl rfl ?_
  refine tr_call (.invokestatic 199) 199 2 1 0 m_X8_requirePort [.int x1] [] none h1 rfl rfl rfl rfl rfl rfl rfl rfl rfl (tr_cok rfl (Or.inl rfl)) c_0 ?_
  have hL0 := c_0.2
  refine tr_s (.aload_n 0) 1 5 [some (.ref 1000), some (.int x1)] [.ref 1000] h1 rfl rfl rfl ?_
  refine tl_gr hL0 29 0 0 3 80 [1001, 1008, 1015, 1080, 1081, 1083, 1086, 1089, 1093, 1096, 1098, 0, 0, 0, 0, 0] rfl rfl rfl rfl ?_
  refine tr_s (.aload_n 0) 1 9 [some (.ref 1000), some (.int x1)] [.ref 1000, .ref 1080] h1 rfl rfl rfl ?_
  refine tl_gr hL0 10 0 0 0 1 [1001, 1008, 1015, 1080, 1081, 1083, 1086, 1089, 1093, 1096, 1098, 0, 0, 0, 0, 0] rfl rfl rfl rfl ?_
  refine tr_s (.iload_n 1) 1 13 [some (.ref 1000), some (.int x1)] [.int x1, .ref 1001, .ref 1080] h1 rfl rfl rfl ?_
  refine tr_call (.invokevirtual 202) 202 1 2 3 m_X5_follow [.ref 1080, .ref 1001, .int x1] [] none h2 rfl rfl rfl rfl rfl rfl rfl rfl rfl (tr_cok rfl (Or.inr ⟨_, _, rfl, tr_rc (hh_rd (hh_obj hL0 (k := 80) rfl).1) (by decide)⟩)) c_1 ?_
  have hL1 := c_1.2
  refine tr_s (.aload_n 0) 1 17 [some (.ref 1000), some (.int x1)] [.ref 1000] h2 rfl rfl rfl ?_
  refine tl_gr hL1 29 0 0 3 80 [1001, 1008, 1015, 1080, 1081, 1083, 1086, 1089, 1093, 1096, 1098, 0, 0, 0, 0, 0] rfl rfl rfl rfl ?_
  refine tl_gi hL1 206 80 3 0 [0, 0, 0, 0] rfl rfl rfl rfl ?_
  refine tr_ic (-1) (-1) (by decide) rfl ?_
  exact tr_if2 .ne 13 37 (hh_i h2 80 0) (-1) rfl rfl rfl (fun hc => t ((tr_ne hc).1 rfl)) (fun hc => f ((tr_ne hc).2 rfl))
theorem sg_X8_rayEnd_27 {g : tr_g} {d : Nat} {h : ev_AH} {r : ev_O × ev_AH} {w0 w1 : Option Value} (hL : hh_L h) (hr : r = (.inr 3, hh_x h)) : tr_L g d m_X8_rayEnd 27 [w0, w1] [] h r := by
  exact tl_thr hL 163 3 rfl rfl rfl rfl rfl hr
theorem sg_X8_rayEnd_37 {g : tr_g} {d : Nat} {h : ev_AH} {r : ev_O × ev_AH} {w1 : Option Value} (hL : hh_L h) (hr : r = (.inl (some (.int (hh_i h 80 0))), h)) : tr_L g d m_X8_rayEnd 37 [some (.ref 1000), w1] [] h r := by
  refine tr_s (.aload_n 0) 1 38 [some (.ref 1000), w1] [.ref 1000] h rfl rfl rfl ?_
  refine tl_gr hL 29 0 0 3 80 [1001, 1008, 1015, 1080, 1081, 1083, 1086, 1089, 1093, 1096, 1098, 0, 0, 0, 0, 0] rfl rfl rfl rfl ?_
  refine tl_gi hL 206 80 3 0 [0, 0, 0, 0] rfl rfl rfl rfl ?_
  exact tl_ret hL .ireturn 1 (some (.int (hh_i h 80 0))) rfl rfl rfl rfl hr
theorem sx_X8_rayCat_0_1 {g : tr_g} {d : Nat} {h : ev_AH} {r : ev_O × ev_AH} {x1 : Int32} {h1 hx : ev_AH} {E : Nat} (hL : hh_L h) (cx : tr_L g d m_X8_requirePort 0 [some (.int x1)] [] h (.inr E, hx)) (hr : r = (.inr E, hx)) : tr_L g (d + 1) m_X8_rayCat 0 [some (.ref 1000), some (.int x1)] [] h r := by
  refine tr_s (.iload_n 1) 1 1 [some (.ref 1000), some (.int x1)] [.int x1] h rfl rfl rfl ?_
  exact tr_callx (.invokestatic 199) 199 2 1 0 m_X8_requirePort [.int x1] [] E hx rfl rfl rfl rfl rfl rfl rfl rfl rfl (tr_cok rfl (Or.inl rfl)) rfl cx hr
theorem sg_X8_rayCat_0 {g : tr_g} {d : Nat} {h : ev_AH} {r : ev_O × ev_AH} {x1 : Int32} {h1 h2 : ev_AH} (hL : hh_L h) (c_0 : tr_L g d m_X8_requirePort 0 [some (.int x1)] [] h (.inl none, h1)) (c_1 : tr_L g d m_X5_follow 0 [some (.ref 1080), some (.ref 1001), some (.int x1), none, none, none, none, none] [] h1 (.inl none, h2)) (t : (hh_i h2 80 1) ≠ (-1) → tr_L g (d + 1) m_X8_rayCat 37 [some (.ref 1000), some (.int x1)] [] h2 r) (f : (hh_i h2 80 1) = (-1) → tr_L g (d + 1) m_X8_rayCat 27 [some (.ref 1000), some (.int x1)] [] h2 r) : tr_L g (d + 1) m_X8_rayCat 0 [some (.ref 1000), some (.int x1)] [] h r := by
  refine tr_s (.iload_n 1) 1 1 [some (.ref 1000), some (.int x1)] [.int x1] h rfl rfl rfl ?_
  refine tr_call (.invokestatic 199) 199 2 1 0 m_X8_requirePort [.int x1] [] none h1 rfl rfl rfl rfl rfl rfl rfl rfl rfl (tr_cok rfl (Or.inl rfl)) c_0 ?_
  have hL0 := c_0.2
  refine tr_s (.aload_n 0) 1 5 [some (.ref 1000), some (.int x1)] [.ref 1000] h1 rfl rfl rfl ?_
  refine tl_gr hL0 29 0 0 3 80 [1001, 1008, 1015, 1080, 1081, 1083, 1086, 1089, 1093, 1096, 1098, 0, 0, 0, 0, 0] rfl rfl rfl rfl ?_
  refine tr_s (.aload_n 0) 1 9 [some (.ref 1000), some (.int x1)] [.ref 1000, .ref 1080] h1 rfl rfl rfl ?_
  refine tl_gr hL0 10 0 0 0 1 [1001, 1008, 1015, 1080, 1081, 1083, 1086, 1089, 1093, 1096, 1098, 0, 0, 0, 0, 0] rfl rfl rfl rfl ?_
  refine tr_s (.iload_n 1) 1 13 [some (.ref 1000), some (.int x1)] [.int x1, .ref 1001, .ref 1080] h1 rfl rfl rfl ?_
  refine tr_call (.invokevirtual 202) 202 1 2 3 m_X5_follow [.ref 1080, .ref 1001, .int x1] [] none h2 rfl rfl rfl rfl rfl rfl rfl rfl rfl (tr_cok rfl (Or.inr ⟨_, _, rfl, tr_rc (hh_rd (hh_obj hL0 (k := 80) rfl).1) (by decide)⟩)) c_1 ?_
  have hL1 := c_1.2
  refine tr_s (.aload_n 0) 1 17 [some (.ref 1000), some (.int x1)] [.ref 1000] h2 rfl rfl rfl ?_
  refine tl_gr hL1 29 0 0 3 80 [1001, 1008, 1015, 1080, 1081, 1083, 1086, 1089, 1093, 1096, 1098, 0, 0, 0, 0, 0] rfl rfl rfl rfl ?_
  refine tl_gi hL1 217 80 3 1 [0, 0, 0, 0] rfl rfl rfl rfl ?_
  refine tr_ic (-1) (-1) (by decide) rfl ?_
  exact tr_if2 .ne 13 37 (hh_i h2 80 1) (-1) rfl rfl rfl (fun hc => t ((tr_ne hc).1 rfl)) (fun hc => f ((tr_ne hc).2 rfl))
theorem sg_X8_rayCat_27 {g : tr_g} {d : Nat} {h : ev_AH} {r : ev_O × ev_AH} {w0 w1 : Option Value} (hL : hh_L h) (hr : r = (.inr 3, hh_x h)) : tr_L g d m_X8_rayCat 27 [w0, w1] [] h r := by
  exact tl_thr hL 163 3 rfl rfl rfl rfl rfl hr
theorem sg_X8_rayCat_37 {g : tr_g} {d : Nat} {h : ev_AH} {r : ev_O × ev_AH} {w1 : Option Value} (hL : hh_L h) (hr : r = (.inl (some (.int (hh_i h 80 1))), h)) : tr_L g d m_X8_rayCat 37 [some (.ref 1000), w1] [] h r := by
  refine tr_s (.aload_n 0) 1 38 [some (.ref 1000), w1] [.ref 1000] h rfl rfl rfl ?_
  refine tl_gr hL 29 0 0 3 80 [1001, 1008, 1015, 1080, 1081, 1083, 1086, 1089, 1093, 1096, 1098, 0, 0, 0, 0, 0] rfl rfl rfl rfl ?_
  refine tl_gi hL 217 80 3 1 [0, 0, 0, 0] rfl rfl rfl rfl ?_
  exact tl_ret hL .ireturn 1 (some (.int (hh_i h 80 1))) rfl rfl rfl rfl hr
theorem sx_X8_rayEndByJoining_0_1 {g : tr_g} {d : Nat} {h : ev_AH} {r : ev_O × ev_AH} {x1 : Int32} {h1 hx : ev_AH} {E : Nat} (hL : hh_L h) (cx : tr_L g d m_X8_requirePort 0 [some (.int x1)] [] h (.inr E, hx)) (hr : r = (.inr E, hx)) : tr_L g (d + 1) m_X8_rayEndByJoining 0 [some (.ref 1000), some (.int x1), none] [] h r := by
  refine tr_s (.iload_n 1) 1 1 [some (.ref 1000), some (.int x1), none] [.int x1] h rfl rfl rfl ?_
  exact tr_callx (.invokestatic 199) 199 2 1 0 m_X8_requirePort [.int x1] [] E hx rfl rfl rfl rfl rfl rfl rfl rfl rfl (tr_cok rfl (Or.inl rfl)) rfl cx hr
theorem sg_X8_rayEndByJoining_0 {g : tr_g} {d : Nat} {h : ev_AH} {r : ev_O × ev_AH} {x1 v0 : Int32} {h1 h2 h3 : ev_AH} (hL : hh_L h) (c_0 : tr_L g d m_X8_requirePort 0 [some (.int x1)] [] h (.inl none, h1)) (c_1 : tr_L g d m_X4_joinAll 0 [some (.ref 1081), some (.ref 1001), none] [] h1 (.inl none, h2)) (c_2 : tr_L g d m_X4_otherEnd 0 [some (.ref 1081), some (.int x1), none, none] [] h2 (.inl (some (.int v0)), h3)) (t : v0 ≠ (-1) → tr_L g (d + 1) m_X8_rayEndByJoining 39 [some (.ref 1000), some (.int x1), some (.int v0)] [] h3 r) (f : v0 = (-1) → tr_L g (d + 1) m_X8_rayEndByJoining 29 [some (.ref 1000), some (.int x1), some (.int v0)] [] h3 r) : tr_L g (d + 1) m_X8_rayEndByJoining 0 [some (.ref 1000), some (.int x1), none] [] h r := by
  refine tr_s (.iload_n 1) 1 1 [some (.ref 1000), some (.int x1), none] [.int x1] h rfl rfl rfl ?_
  refine tr_call (.invokestatic 199) 199 2 1 0 m_X8_requirePort [.int x1] [] none h1 rfl rfl rfl rfl rfl rfl rfl rfl rfl (tr_cok rfl (Or.inl rfl)) c_0 ?_
  have hL0 := c_0.2
  refine tr_s (.aload_n 0) 1 5 [some (.ref 1000), some (.int x1), none] [.ref 1000] h1 rfl rfl rfl ?_
  refine tl_gr hL0 36 0 0 4 81 [1001, 1008, 1015, 1080, 1081, 1083, 1086, 1089, 1093, 1096, 1098, 0, 0, 0, 0, 0] rfl rfl rfl rfl ?_
  refine tr_s (.aload_n 0) 1 9 [some (.ref 1000), some (.int x1), none] [.ref 1000, .ref 1081] h1 rfl rfl rfl ?_
  refine tl_gr hL0 10 0 0 0 1 [1001, 1008, 1015, 1080, 1081, 1083, 1086, 1089, 1093, 1096, 1098, 0, 0, 0, 0, 0] rfl rfl rfl rfl ?_
  refine tr_call (.invokevirtual 211) 211 1 1 4 m_X4_joinAll [.ref 1081, .ref 1001] [] none h2 rfl rfl rfl rfl rfl rfl rfl rfl rfl (tr_cok rfl (Or.inr ⟨_, _, rfl, tr_rc (hh_rd (hh_obj hL0 (k := 81) rfl).1) (by decide)⟩)) c_1 ?_
  have hL1 := c_1.2
  refine tr_s (.aload_n 0) 1 16 [some (.ref 1000), some (.int x1), none] [.ref 1000] h2 rfl rfl rfl ?_
  refine tl_gr hL1 36 0 0 4 81 [1001, 1008, 1015, 1080, 1081, 1083, 1086, 1089, 1093, 1096, 1098, 0, 0, 0, 0, 0] rfl rfl rfl rfl ?_
  refine tr_s (.iload_n 1) 1 20 [some (.ref 1000), some (.int x1), none] [.int x1, .ref 1081] h2 rfl rfl rfl ?_
  refine tr_call (.invokevirtual 214) 214 1 1 4 m_X4_otherEnd [.ref 1081, .int x1] [] (some (.int v0)) h3 rfl rfl rfl rfl rfl rfl rfl rfl rfl (tr_cok rfl (Or.inr ⟨_, _, rfl, tr_rc (hh_rd (hh_obj hL1 (k := 81) rfl).1) (by decide)⟩)) c_2 ?_
  have hL2 := c_2.2
  refine tr_st (.istore_n 2) 1 2 0 (.int v0) rfl rfl rfl rfl rfl rfl rfl ?_
  refine tr_s (.iload_n 2) 1 25 [some (.ref 1000), some (.int x1), some (.int v0)] [.int v0] h3 rfl rfl rfl ?_
  refine tr_ic (-1) (-1) (by decide) rfl ?_
  exact tr_if2 .ne 13 39 v0 (-1) rfl rfl rfl (fun hc => t ((tr_ne hc).1 rfl)) (fun hc => f ((tr_ne hc).2 rfl))
theorem sg_X8_rayEndByJoining_29 {g : tr_g} {d : Nat} {h : ev_AH} {r : ev_O × ev_AH} {w0 w1 w2 : Option Value} (hL : hh_L h) (hr : r = (.inr 3, hh_x h)) : tr_L g d m_X8_rayEndByJoining 29 [w0, w1, w2] [] h r := by
  exact tl_thr hL 163 3 rfl rfl rfl rfl rfl hr
theorem sg_X8_rayEndByJoining_39 {g : tr_g} {d : Nat} {h : ev_AH} {r : ev_O × ev_AH} {w0 w1 : Option Value} {x2 : Int32} (hL : hh_L h) (hr : r = (.inl (some (.int x2)), h)) : tr_L g d m_X8_rayEndByJoining 39 [w0, w1, some (.int x2)] [] h r := by
  refine tr_s (.iload_n 2) 1 40 [w0, w1, some (.int x2)] [.int x2] h rfl rfl rfl ?_
  exact tl_ret hL .ireturn 1 (some (.int x2)) rfl rfl rfl rfl hr
theorem sx_X8_rayLength_0_1 {g : tr_g} {d : Nat} {h : ev_AH} {r : ev_O × ev_AH} {x1 : Int32} {h1 hx : ev_AH} {E : Nat} (hL : hh_L h) (cx : tr_L g d m_X8_requirePort 0 [some (.int x1)] [] h (.inr E, hx)) (hr : r = (.inr E, hx)) : tr_L g (d + 1) m_X8_rayLength 0 [some (.ref 1000), some (.int x1)] [] h r := by
  refine tr_s (.iload_n 1) 1 1 [some (.ref 1000), some (.int x1)] [.int x1] h rfl rfl rfl ?_
  exact tr_callx (.invokestatic 199) 199 2 1 0 m_X8_requirePort [.int x1] [] E hx rfl rfl rfl rfl rfl rfl rfl rfl rfl (tr_cok rfl (Or.inl rfl)) rfl cx hr
theorem sg_X8_rayLength_0 {g : tr_g} {d : Nat} {h : ev_AH} {r : ev_O × ev_AH} {x1 : Int32} {h1 h2 : ev_AH} (hL : hh_L h) (c_0 : tr_L g d m_X8_requirePort 0 [some (.int x1)] [] h (.inl none, h1)) (c_1 : tr_L g d m_X5_follow 0 [some (.ref 1080), some (.ref 1001), some (.int x1), none, none, none, none, none] [] h1 (.inl none, h2)) (hr : r = (.inl (some (.int (hh_i h2 80 2))), h2)) : tr_L g (d + 1) m_X8_rayLength 0 [some (.ref 1000), some (.int x1)] [] h r := by
  refine tr_s (.iload_n 1) 1 1 [some (.ref 1000), some (.int x1)] [.int x1] h rfl rfl rfl ?_
  refine tr_call (.invokestatic 199) 199 2 1 0 m_X8_requirePort [.int x1] [] none h1 rfl rfl rfl rfl rfl rfl rfl rfl rfl (tr_cok rfl (Or.inl rfl)) c_0 ?_
  have hL0 := c_0.2
  refine tr_s (.aload_n 0) 1 5 [some (.ref 1000), some (.int x1)] [.ref 1000] h1 rfl rfl rfl ?_
  refine tl_gr hL0 29 0 0 3 80 [1001, 1008, 1015, 1080, 1081, 1083, 1086, 1089, 1093, 1096, 1098, 0, 0, 0, 0, 0] rfl rfl rfl rfl ?_
  refine tr_s (.aload_n 0) 1 9 [some (.ref 1000), some (.int x1)] [.ref 1000, .ref 1080] h1 rfl rfl rfl ?_
  refine tl_gr hL0 10 0 0 0 1 [1001, 1008, 1015, 1080, 1081, 1083, 1086, 1089, 1093, 1096, 1098, 0, 0, 0, 0, 0] rfl rfl rfl rfl ?_
  refine tr_s (.iload_n 1) 1 13 [some (.ref 1000), some (.int x1)] [.int x1, .ref 1001, .ref 1080] h1 rfl rfl rfl ?_
  refine tr_call (.invokevirtual 202) 202 1 2 3 m_X5_follow [.ref 1080, .ref 1001, .int x1] [] none h2 rfl rfl rfl rfl rfl rfl rfl rfl rfl (tr_cok rfl (Or.inr ⟨_, _, rfl, tr_rc (hh_rd (hh_obj hL0 (k := 80) rfl).1) (by decide)⟩)) c_1 ?_
  have hL1 := c_1.2
  refine tr_s (.aload_n 0) 1 17 [some (.ref 1000), some (.int x1)] [.ref 1000] h2 rfl rfl rfl ?_
  refine tl_gr hL1 29 0 0 3 80 [1001, 1008, 1015, 1080, 1081, 1083, 1086, 1089, 1093, 1096, 1098, 0, 0, 0, 0, 0] rfl rfl rfl rfl ?_
  refine tl_gi hL1 222 80 3 2 [0, 0, 0, 0] rfl rfl rfl rfl ?_
  exact tl_ret hL1 .ireturn 1 (some (.int (hh_i h2 80 2))) rfl rfl rfl rfl hr
theorem sx_X8_rayBounces_0_1 {g : tr_g} {d : Nat} {h : ev_AH} {r : ev_O × ev_AH} {x1 : Int32} {h1 hx : ev_AH} {E : Nat} (hL : hh_L h) (cx : tr_L g d m_X8_requirePort 0 [some (.int x1)] [] h (.inr E, hx)) (hr : r = (.inr E, hx)) : tr_L g (d + 1) m_X8_rayBounces 0 [some (.ref 1000), some (.int x1)] [] h r := by
  refine tr_s (.iload_n 1) 1 1 [some (.ref 1000), some (.int x1)] [.int x1] h rfl rfl rfl ?_
  exact tr_callx (.invokestatic 199) 199 2 1 0 m_X8_requirePort [.int x1] [] E hx rfl rfl rfl rfl rfl rfl rfl rfl rfl (tr_cok rfl (Or.inl rfl)) rfl cx hr
theorem sg_X8_rayBounces_0 {g : tr_g} {d : Nat} {h : ev_AH} {r : ev_O × ev_AH} {x1 : Int32} {h1 h2 : ev_AH} (hL : hh_L h) (c_0 : tr_L g d m_X8_requirePort 0 [some (.int x1)] [] h (.inl none, h1)) (c_1 : tr_L g d m_X5_follow 0 [some (.ref 1080), some (.ref 1001), some (.int x1), none, none, none, none, none] [] h1 (.inl none, h2)) (hr : r = (.inl (some (.int (hh_i h2 80 3))), h2)) : tr_L g (d + 1) m_X8_rayBounces 0 [some (.ref 1000), some (.int x1)] [] h r := by
  refine tr_s (.iload_n 1) 1 1 [some (.ref 1000), some (.int x1)] [.int x1] h rfl rfl rfl ?_
  refine tr_call (.invokestatic 199) 199 2 1 0 m_X8_requirePort [.int x1] [] none h1 rfl rfl rfl rfl rfl rfl rfl rfl rfl (tr_cok rfl (Or.inl rfl)) c_0 ?_
  have hL0 := c_0.2
  refine tr_s (.aload_n 0) 1 5 [some (.ref 1000), some (.int x1)] [.ref 1000] h1 rfl rfl rfl ?_
  refine tl_gr hL0 29 0 0 3 80 [1001, 1008, 1015, 1080, 1081, 1083, 1086, 1089, 1093, 1096, 1098, 0, 0, 0, 0, 0] rfl rfl rfl rfl ?_
  refine tr_s (.aload_n 0) 1 9 [some (.ref 1000), some (.int x1)] [.ref 1000, .ref 1080] h1 rfl rfl rfl ?_
  refine tl_gr hL0 10 0 0 0 1 [1001, 1008, 1015, 1080, 1081, 1083, 1086, 1089, 1093, 1096, 1098, 0, 0, 0, 0, 0] rfl rfl rfl rfl ?_
  refine tr_s (.iload_n 1) 1 13 [some (.ref 1000), some (.int x1)] [.int x1, .ref 1001, .ref 1080] h1 rfl rfl rfl ?_
  refine tr_call (.invokevirtual 202) 202 1 2 3 m_X5_follow [.ref 1080, .ref 1001, .int x1] [] none h2 rfl rfl rfl rfl rfl rfl rfl rfl rfl (tr_cok rfl (Or.inr ⟨_, _, rfl, tr_rc (hh_rd (hh_obj hL0 (k := 80) rfl).1) (by decide)⟩)) c_1 ?_
  have hL1 := c_1.2
  refine tr_s (.aload_n 0) 1 17 [some (.ref 1000), some (.int x1)] [.ref 1000] h2 rfl rfl rfl ?_
  refine tl_gr hL1 29 0 0 3 80 [1001, 1008, 1015, 1080, 1081, 1083, 1086, 1089, 1093, 1096, 1098, 0, 0, 0, 0, 0] rfl rfl rfl rfl ?_
  refine tl_gi hL1 225 80 3 3 [0, 0, 0, 0] rfl rfl rfl rfl ?_
  exact tl_ret hL1 .ireturn 1 (some (.int (hh_i h2 80 3))) rfl rfl rfl rfl hr
theorem sx_X8_leastEffortByRounds_0_1 {g : tr_g} {d : Nat} {h : ev_AH} {r : ev_O × ev_AH} {x1 x2 : Int32} {h1 hx : ev_AH} {E : Nat} (hL : hh_L h) (cx : tr_L g d m_X8_requirePort 0 [some (.int x1)] [] h (.inr E, hx)) (hr : r = (.inr E, hx)) : tr_L g (d + 1) m_X8_leastEffortByRounds 0 [some (.ref 1000), some (.int x1), some (.int x2), none] [] h r := by
  refine tr_s (.iload_n 1) 1 1 [some (.ref 1000), some (.int x1), some (.int x2), none] [.int x1] h rfl rfl rfl ?_
  exact tr_callx (.invokestatic 199) 199 2 1 0 m_X8_requirePort [.int x1] [] E hx rfl rfl rfl rfl rfl rfl rfl rfl rfl (tr_cok rfl (Or.inl rfl)) rfl cx hr
theorem sx_X8_leastEffortByRounds_0_6 {g : tr_g} {d : Nat} {h : ev_AH} {r : ev_O × ev_AH} {x1 x2 : Int32} {h1 h2 hx : ev_AH} {E : Nat} (hL : hh_L h) (c_0 : tr_L g d m_X8_requirePort 0 [some (.int x1)] [] h (.inl none, h1)) (cx : tr_L g d m_X8_requireCat 0 [some (.ref 1000), some (.int x2)] [] h1 (.inr E, hx)) (hr : r = (.inr E, hx)) : tr_L g (d + 1) m_X8_leastEffortByRounds 0 [some (.ref 1000), some (.int x1), some (.int x2), none] [] h r := by
  refine tr_s (.iload_n 1) 1 1 [some (.ref 1000), some (.int x1), some (.int x2), none] [.int x1] h rfl rfl rfl ?_
  refine tr_call (.invokestatic 199) 199 2 1 0 m_X8_requirePort [.int x1] [] none h1 rfl rfl rfl rfl rfl rfl rfl rfl rfl (tr_cok rfl (Or.inl rfl)) c_0 ?_
  have hL0 := c_0.2
  refine tr_s (.aload_n 0) 1 5 [some (.ref 1000), some (.int x1), some (.int x2), none] [.ref 1000] h1 rfl rfl rfl ?_
  refine tr_s (.iload_n 2) 1 6 [some (.ref 1000), some (.int x1), some (.int x2), none] [.int x2, .ref 1000] h1 rfl rfl rfl ?_
  exact tr_callx (.invokevirtual 153) 153 0 1 0 m_X8_requireCat [.ref 1000, .int x2] [] E hx rfl rfl rfl rfl rfl rfl rfl rfl rfl (tr_cok rfl (Or.inr ⟨_, _, rfl, tr_rc (hh_rd (hh_obj hL0 (k := 0) rfl).1) (by decide)⟩)) rfl cx hr
theorem sg_X8_leastEffortByRounds_0 {g : tr_g} {d : Nat} {h : ev_AH} {r : ev_O × ev_AH} {x1 x2 v0 v1 : Int32} {h1 h2 h3 h4 h5 : ev_AH} (hL : hh_L h) (c_0 : tr_L g d m_X8_requirePort 0 [some (.int x1)] [] h (.inl none, h1)) (c_1 : tr_L g d m_X8_requireCat 0 [some (.ref 1000), some (.int x2)] [] h1 (.inl none, h2)) (c_2 : tr_L g d m_X1_searchByRounds 0 [some (.ref 1086), some (.ref 1001), some (.int x1), none, none] [] h2 (.inl none, h3)) (c_3 : tr_L g d m_X8_at 0 [some (.ref 1003), some (.int x2)] [] h3 (.inl (some (.int v0)), h4)) (c_4 : tr_L g d m_X1_effortInto 0 [some (.ref 1086), some (.int v0), none, none, none] [] h4 (.inl (some (.int v1)), h5)) (t : v1 ≠ 1000 → tr_L g (d + 1) m_X8_leastEffortByRounds 57 [some (.ref 1000), some (.int x1), some (.int x2), some (.int v1)] [] h5 r) (f : v1 = 1000 → tr_L g (d + 1) m_X8_leastEffortByRounds 47 [some (.ref 1000), some (.int x1), some (.int x2), some (.int v1)] [] h5 r) : tr_L g (d + 1) m_X8_leastEffortByRounds 0 [some (.ref 1000), some (.int x1), some (.int x2), none] [] h r := by
  refine tr_s (.iload_n 1) 1 1 [some (.ref 1000), some (.int x1), some (.int x2), none] [.int x1] h rfl rfl rfl ?_
  refine tr_call (.invokestatic 199) 199 2 1 0 m_X8_requirePort [.int x1] [] none h1 rfl rfl rfl rfl rfl rfl rfl rfl rfl (tr_cok rfl (Or.inl rfl)) c_0 ?_
  have hL0 := c_0.2
  refine tr_s (.aload_n 0) 1 5 [some (.ref 1000), some (.int x1), some (.int x2), none] [.ref 1000] h1 rfl rfl rfl ?_
  refine tr_s (.iload_n 2) 1 6 [some (.ref 1000), some (.int x1), some (.int x2), none] [.int x2, .ref 1000] h1 rfl rfl rfl ?_
  refine tr_call (.invokevirtual 153) 153 0 1 0 m_X8_requireCat [.ref 1000, .int x2] [] none h2 rfl rfl rfl rfl rfl rfl rfl rfl rfl (tr_cok rfl (Or.inr ⟨_, _, rfl, tr_rc (hh_rd (hh_obj hL0 (k := 0) rfl).1) (by decide)⟩)) c_1 ?_
  have hL1 := c_1.2
  refine tr_s (.aload_n 0) 1 10 [some (.ref 1000), some (.int x1), some (.int x2), none] [.ref 1000] h2 rfl rfl rfl ?_
  refine tl_gr hL1 47 0 0 6 86 [1001, 1008, 1015, 1080, 1081, 1083, 1086, 1089, 1093, 1096, 1098, 0, 0, 0, 0, 0] rfl rfl rfl rfl ?_
  refine tr_s (.aload_n 0) 1 14 [some (.ref 1000), some (.int x1), some (.int x2), none] [.ref 1000, .ref 1086] h2 rfl rfl rfl ?_
  refine tl_gr hL1 10 0 0 0 1 [1001, 1008, 1015, 1080, 1081, 1083, 1086, 1089, 1093, 1096, 1098, 0, 0, 0, 0, 0] rfl rfl rfl rfl ?_
  refine tr_s (.iload_n 1) 1 18 [some (.ref 1000), some (.int x1), some (.int x2), none] [.int x1, .ref 1001, .ref 1086] h2 rfl rfl rfl ?_
  refine tr_call (.invokevirtual 236) 236 1 2 5 m_X1_searchByRounds [.ref 1086, .ref 1001, .int x1] [] none h3 rfl rfl rfl rfl rfl rfl rfl rfl rfl (tr_cok rfl (Or.inr ⟨_, _, rfl, tr_rc (hh_rd (hh_obj hL1 (k := 86) rfl).1) (by decide)⟩)) c_2 ?_
  have hL2 := c_2.2
  refine tr_s (.aload_n 0) 1 22 [some (.ref 1000), some (.int x1), some (.int x2), none] [.ref 1000] h3 rfl rfl rfl ?_
  refine tl_gr hL2 47 0 0 6 86 [1001, 1008, 1015, 1080, 1081, 1083, 1086, 1089, 1093, 1096, 1098, 0, 0, 0, 0, 0] rfl rfl rfl rfl ?_
  refine tr_s (.aload_n 0) 1 26 [some (.ref 1000), some (.int x1), some (.int x2), none] [.ref 1000, .ref 1086] h3 rfl rfl rfl ?_
  refine tl_gr hL2 10 0 0 0 1 [1001, 1008, 1015, 1080, 1081, 1083, 1086, 1089, 1093, 1096, 1098, 0, 0, 0, 0, 0] rfl rfl rfl rfl ?_
  refine tl_gr hL2 156 1 1 1 3 [1002, 1003, 1004, 1005, 1006, 1007, 0, 0, 0, 0, 0, 0, 0, 0] rfl rfl rfl rfl ?_
  refine tr_s (.iload_n 2) 1 33 [some (.ref 1000), some (.int x1), some (.int x2), none] [.int x2, .ref 1003, .ref 1086] h3 rfl rfl rfl ?_
  refine tr_call (.invokestatic 159) 159 2 2 0 m_X8_at [.ref 1003, .int x2] [.ref 1086] (some (.int v0)) h4 rfl rfl rfl rfl rfl rfl rfl rfl rfl (tr_cok rfl (Or.inl rfl)) c_3 ?_
  have hL3 := c_3.2
  refine tr_call (.invokevirtual 231) 231 1 1 5 m_X1_effortInto [.ref 1086, .int v0] [] (some (.int v1)) h5 rfl rfl rfl rfl rfl rfl rfl rfl rfl (tr_cok rfl (Or.inr ⟨_, _, rfl, tr_rc (hh_rd (hh_obj hL3 (k := 86) rfl).1) (by decide)⟩)) c_4 ?_
  have hL4 := c_4.2
  refine tr_st (.istore_n 3) 1 3 0 (.int v1) rfl rfl rfl rfl rfl rfl rfl ?_
  refine tr_s (.iload_n 3) 1 41 [some (.ref 1000), some (.int x1), some (.int x2), some (.int v1)] [.int v1] h5 rfl rfl rfl ?_
  refine tr_si 1000 1000 (by decide) rfl ?_
  exact tr_if2 .ne 13 57 v1 1000 rfl rfl rfl (fun hc => t ((tr_ne hc).1 rfl)) (fun hc => f ((tr_ne hc).2 rfl))
theorem sg_X8_leastEffortByRounds_47 {g : tr_g} {d : Nat} {h : ev_AH} {r : ev_O × ev_AH} {w0 w1 w2 w3 : Option Value} (hL : hh_L h) (hr : r = (.inr 3, hh_x h)) : tr_L g d m_X8_leastEffortByRounds 47 [w0, w1, w2, w3] [] h r := by
  exact tl_thr hL 163 3 rfl rfl rfl rfl rfl hr
theorem sg_X8_leastEffortByRounds_57 {g : tr_g} {d : Nat} {h : ev_AH} {r : ev_O × ev_AH} {w0 w1 w2 : Option Value} {x3 : Int32} (hL : hh_L h) (hr : r = (.inl (some (.int x3)), h)) : tr_L g d m_X8_leastEffortByRounds 57 [w0, w1, w2, some (.int x3)] [] h r := by
  refine tr_s (.iload_n 3) 1 58 [w0, w1, w2, some (.int x3)] [.int x3] h rfl rfl rfl ?_
  exact tl_ret hL .ireturn 1 (some (.int x3)) rfl rfl rfl rfl hr
theorem sx_X8_strengthOf_0_2 {g : tr_g} {d : Nat} {h : ev_AH} {r : ev_O × ev_AH} {x1 x2 : Int32} {h1 hx : ev_AH} {E : Nat} (hL : hh_L h) (cx : tr_L g d m_X8_requirePair 0 [some (.int x1), some (.int x2)] [] h (.inr E, hx)) (hr : r = (.inr E, hx)) : tr_L g (d + 1) m_X8_strengthOf 0 [some (.ref 1000), some (.int x1), some (.int x2)] [] h r := by
  refine tr_s (.iload_n 1) 1 1 [some (.ref 1000), some (.int x1), some (.int x2)] [.int x1] h rfl rfl rfl ?_
  refine tr_s (.iload_n 2) 1 2 [some (.ref 1000), some (.int x1), some (.int x2)] [.int x2, .int x1] h rfl rfl rfl ?_
  exact tr_callx (.invokestatic 255) 255 2 2 0 m_X8_requirePair [.int x1, .int x2] [] E hx rfl rfl rfl rfl rfl rfl rfl rfl rfl (tr_cok rfl (Or.inl rfl)) rfl cx hr
theorem sg_X8_strengthOf_0 {g : tr_g} {d : Nat} {h : ev_AH} {r : ev_O × ev_AH} {x1 x2 v0 v1 v2 : Int32} {h1 h2 h3 h4 h5 : ev_AH} (hL : hh_L h) (c_0 : tr_L g d m_X8_requirePair 0 [some (.int x1), some (.int x2)] [] h (.inl none, h1)) (c_1 : tr_L g d m_X7_fillStrengths 0 [some (.ref 1089), some (.ref 1001), none, none, none, none] [] h1 (.inl none, h2)) (c_2 : tr_L g d m_X8_indexOf 0 [some (.int x1)] [] h2 (.inl (some (.int v0)), h3)) (c_3 : tr_L g d m_X8_indexOf 0 [some (.int x2)] [] h3 (.inl (some (.int v1)), h4)) (c_4 : tr_L g d m_X7_tableStrength 0 [some (.ref 1089), some (.int v0), some (.int v1)] [] h4 (.inl (some (.int v2)), h5)) (hr : r = (.inl (some (.int v2)), h5)) : tr_L g (d + 1) m_X8_strengthOf 0 [some (.ref 1000), some (.int x1), some (.int x2)] [] h r := by
  refine tr_s (.iload_n 1) 1 1 [some (.ref 1000), some (.int x1), some (.int x2)] [.int x1] h rfl rfl rfl ?_
  refine tr_s (.iload_n 2) 1 2 [some (.ref 1000), some (.int x1), some (.int x2)] [.int x2, .int x1] h rfl rfl rfl ?_
  refine tr_call (.invokestatic 255) 255 2 2 0 m_X8_requirePair [.int x1, .int x2] [] none h1 rfl rfl rfl rfl rfl rfl rfl rfl rfl (tr_cok rfl (Or.inl rfl)) c_0 ?_
  have hL0 := c_0.2
  refine tr_s (.aload_n 0) 1 6 [some (.ref 1000), some (.int x1), some (.int x2)] [.ref 1000] h1 rfl rfl rfl ?_
  refine tl_gr hL0 53 0 0 7 89 [1001, 1008, 1015, 1080, 1081, 1083, 1086, 1089, 1093, 1096, 1098, 0, 0, 0, 0, 0] rfl rfl rfl rfl ?_
  refine tr_s (.aload_n 0) 1 10 [some (.ref 1000), some (.int x1), some (.int x2)] [.ref 1000, .ref 1089] h1 rfl rfl rfl ?_
  refine tl_gr hL0 10 0 0 0 1 [1001, 1008, 1015, 1080, 1081, 1083, 1086, 1089, 1093, 1096, 1098, 0, 0, 0, 0, 0] rfl rfl rfl rfl ?_
  refine tr_call (.invokevirtual 281) 281 1 1 6 m_X7_fillStrengths [.ref 1089, .ref 1001] [] none h2 rfl rfl rfl rfl rfl rfl rfl rfl rfl (tr_cok rfl (Or.inr ⟨_, _, rfl, tr_rc (hh_rd (hh_obj hL0 (k := 89) rfl).1) (by decide)⟩)) c_1 ?_
  have hL1 := c_1.2
  refine tr_s (.aload_n 0) 1 17 [some (.ref 1000), some (.int x1), some (.int x2)] [.ref 1000] h2 rfl rfl rfl ?_
  refine tl_gr hL1 53 0 0 7 89 [1001, 1008, 1015, 1080, 1081, 1083, 1086, 1089, 1093, 1096, 1098, 0, 0, 0, 0, 0] rfl rfl rfl rfl ?_
  refine tr_s (.iload_n 1) 1 21 [some (.ref 1000), some (.int x1), some (.int x2)] [.int x1, .ref 1089] h2 rfl rfl rfl ?_
  refine tr_call (.invokestatic 189) 189 2 1 0 m_X8_indexOf [.int x1] [.ref 1089] (some (.int v0)) h3 rfl rfl rfl rfl rfl rfl rfl rfl rfl (tr_cok rfl (Or.inl rfl)) c_2 ?_
  have hL2 := c_2.2
  refine tr_s (.iload_n 2) 1 25 [some (.ref 1000), some (.int x1), some (.int x2)] [.int x2, .int v0, .ref 1089] h3 rfl rfl rfl ?_
  refine tr_call (.invokestatic 189) 189 2 1 0 m_X8_indexOf [.int x2] [.int v0, .ref 1089] (some (.int v1)) h4 rfl rfl rfl rfl rfl rfl rfl rfl rfl (tr_cok rfl (Or.inl rfl)) c_3 ?_
  have hL3 := c_3.2
  refine tr_call (.invokevirtual 284) 284 1 2 6 m_X7_tableStrength [.ref 1089, .int v0, .int v1] [] (some (.int v2)) h5 rfl rfl rfl rfl rfl rfl rfl rfl rfl (tr_cok rfl (Or.inr ⟨_, _, rfl, tr_rc (hh_rd (hh_obj hL3 (k := 89) rfl).1) (by decide)⟩)) c_4 ?_
  have hL4 := c_4.2
  exact tl_ret hL4 .ireturn 1 (some (.int v2)) rfl rfl rfl rfl hr
theorem sx_X8_requirePair_0_1 {g : tr_g} {d : Nat} {h : ev_AH} {r : ev_O × ev_AH} {x0 x1 : Int32} {h1 hx : ev_AH} {E : Nat} (hL : hh_L h) (cx : tr_L g d m_X8_requireOption 0 [some (.int x0)] [] h (.inr E, hx)) (hr : r = (.inr E, hx)) : tr_L g (d + 1) m_X8_requirePair 0 [some (.int x0), some (.int x1)] [] h r := by
  refine tr_s (.iload_n 0) 1 1 [some (.int x0), some (.int x1)] [.int x0] h rfl rfl rfl ?_
  exact tr_callx (.invokestatic 185) 185 2 1 0 m_X8_requireOption [.int x0] [] E hx rfl rfl rfl rfl rfl rfl rfl rfl rfl (tr_cok rfl (Or.inl rfl)) rfl cx hr
theorem sx_X8_requirePair_0_5 {g : tr_g} {d : Nat} {h : ev_AH} {r : ev_O × ev_AH} {x0 x1 : Int32} {h1 h2 hx : ev_AH} {E : Nat} (hL : hh_L h) (c_0 : tr_L g d m_X8_requireOption 0 [some (.int x0)] [] h (.inl none, h1)) (cx : tr_L g d m_X8_requireOption 0 [some (.int x1)] [] h1 (.inr E, hx)) (hr : r = (.inr E, hx)) : tr_L g (d + 1) m_X8_requirePair 0 [some (.int x0), some (.int x1)] [] h r := by
  refine tr_s (.iload_n 0) 1 1 [some (.int x0), some (.int x1)] [.int x0] h rfl rfl rfl ?_
  refine tr_call (.invokestatic 185) 185 2 1 0 m_X8_requireOption [.int x0] [] none h1 rfl rfl rfl rfl rfl rfl rfl rfl rfl (tr_cok rfl (Or.inl rfl)) c_0 ?_
  have hL0 := c_0.2
  refine tr_s (.iload_n 1) 1 5 [some (.int x0), some (.int x1)] [.int x1] h1 rfl rfl rfl ?_
  exact tr_callx (.invokestatic 185) 185 2 1 0 m_X8_requireOption [.int x1] [] E hx rfl rfl rfl rfl rfl rfl rfl rfl rfl (tr_cok rfl (Or.inl rfl)) rfl cx hr
theorem sg_X8_requirePair_0 {g : tr_g} {d : Nat} {h : ev_AH} {r : ev_O × ev_AH} {x0 x1 : Int32} {h1 h2 : ev_AH} (hL : hh_L h) (c_0 : tr_L g d m_X8_requireOption 0 [some (.int x0)] [] h (.inl none, h1)) (c_1 : tr_L g d m_X8_requireOption 0 [some (.int x1)] [] h1 (.inl none, h2)) (t : x0 ≠ x1 → tr_L g (d + 1) m_X8_requirePair 24 [some (.int x0), some (.int x1)] [] h2 r) (f : x0 = x1 → tr_L g (d + 1) m_X8_requirePair 13 [some (.int x0), some (.int x1)] [] h2 r) : tr_L g (d + 1) m_X8_requirePair 0 [some (.int x0), some (.int x1)] [] h r := by
  refine tr_s (.iload_n 0) 1 1 [some (.int x0), some (.int x1)] [.int x0] h rfl rfl rfl ?_
  refine tr_call (.invokestatic 185) 185 2 1 0 m_X8_requireOption [.int x0] [] none h1 rfl rfl rfl rfl rfl rfl rfl rfl rfl (tr_cok rfl (Or.inl rfl)) c_0 ?_
  have hL0 := c_0.2
  refine tr_s (.iload_n 1) 1 5 [some (.int x0), some (.int x1)] [.int x1] h1 rfl rfl rfl ?_
  refine tr_call (.invokestatic 185) 185 2 1 0 m_X8_requireOption [.int x1] [] none h2 rfl rfl rfl rfl rfl rfl rfl rfl rfl (tr_cok rfl (Or.inl rfl)) c_1 ?_
  have hL1 := c_1.2
  refine tr_s (.iload_n 0) 1 9 [some (.int x0), some (.int x1)] [.int x0] h2 rfl rfl rfl ?_
  refine tr_s (.iload_n 1) 1 10 [some (.int x0), some (.int x1)] [.int x1, .int x0] h2 rfl rfl rfl ?_
  exact tr_if2 .ne 14 24 x0 x1 rfl rfl rfl (fun hc => t ((tr_ne hc).1 rfl)) (fun hc => f ((tr_ne hc).2 rfl))
theorem sg_X8_requirePair_13 {g : tr_g} {d : Nat} {h : ev_AH} {r : ev_O × ev_AH} {w0 w1 : Option Value} (hL : hh_L h) (hr : r = (.inr 1, hh_x h)) : tr_L g d m_X8_requirePair 13 [w0, w1] [] h r := by
  exact tl_thr hL 100 1 rfl rfl rfl rfl rfl hr
theorem sg_X8_requirePair_24 {g : tr_g} {d : Nat} {h : ev_AH} {r : ev_O × ev_AH} {w0 w1 : Option Value} (hL : hh_L h) (hr : r = (.inl (none), h)) : tr_L g d m_X8_requirePair 24 [w0, w1] [] h r := by
  exact tl_ret hL .return_ 1 none rfl rfl rfl rfl hr
theorem sx_X8_prefer_0_2 {g : tr_g} {d : Nat} {h : ev_AH} {r : ev_O × ev_AH} {x1 x2 : Int32} {h1 hx : ev_AH} {E : Nat} (hL : hh_L h) (cx : tr_L g d m_X8_requirePair 0 [some (.int x1), some (.int x2)] [] h (.inr E, hx)) (hr : r = (.inr E, hx)) : tr_L g (d + 1) m_X8_prefer 0 [some (.ref 1000), some (.int x1), some (.int x2)] [] h r := by
  refine tr_s (.iload_n 1) 1 1 [some (.ref 1000), some (.int x1), some (.int x2)] [.int x1] h rfl rfl rfl ?_
  refine tr_s (.iload_n 2) 1 2 [some (.ref 1000), some (.int x1), some (.int x2)] [.int x2, .int x1] h rfl rfl rfl ?_
  exact tr_callx (.invokestatic 255) 255 2 2 0 m_X8_requirePair [.int x1, .int x2] [] E hx rfl rfl rfl rfl rfl rfl rfl rfl rfl (tr_cok rfl (Or.inl rfl)) rfl cx hr
theorem sg_X8_prefer_0 {g : tr_g} {d : Nat} {h : ev_AH} {r : ev_O × ev_AH} {x1 x2 v0 v1 v2 : Int32} {h1 h2 h3 h4 h5 : ev_AH} (hL : hh_L h) (c_0 : tr_L g d m_X8_requirePair 0 [some (.int x1), some (.int x2)] [] h (.inl none, h1)) (c_1 : tr_L g d m_X7_countPairs 0 [some (.ref 1089), some (.ref 1001), none, none, none, none, none] [] h1 (.inl none, h2)) (c_2 : tr_L g d m_X8_indexOf 0 [some (.int x1)] [] h2 (.inl (some (.int v0)), h3)) (c_3 : tr_L g d m_X8_indexOf 0 [some (.int x2)] [] h3 (.inl (some (.int v1)), h4)) (c_4 : tr_L g d m_X7_preferring 0 [some (.ref 1089), some (.int v0), some (.int v1)] [] h4 (.inl (some (.int v2)), h5)) (hr : r = (.inl (some (.int v2)), h5)) : tr_L g (d + 1) m_X8_prefer 0 [some (.ref 1000), some (.int x1), some (.int x2)] [] h r := by
  refine tr_s (.iload_n 1) 1 1 [some (.ref 1000), some (.int x1), some (.int x2)] [.int x1] h rfl rfl rfl ?_
  refine tr_s (.iload_n 2) 1 2 [some (.ref 1000), some (.int x1), some (.int x2)] [.int x2, .int x1] h rfl rfl rfl ?_
  refine tr_call (.invokestatic 255) 255 2 2 0 m_X8_requirePair [.int x1, .int x2] [] none h1 rfl rfl rfl rfl rfl rfl rfl rfl rfl (tr_cok rfl (Or.inl rfl)) c_0 ?_
  have hL0 := c_0.2
  refine tr_s (.aload_n 0) 1 6 [some (.ref 1000), some (.int x1), some (.int x2)] [.ref 1000] h1 rfl rfl rfl ?_
  refine tl_gr hL0 53 0 0 7 89 [1001, 1008, 1015, 1080, 1081, 1083, 1086, 1089, 1093, 1096, 1098, 0, 0, 0, 0, 0] rfl rfl rfl rfl ?_
  refine tr_s (.aload_n 0) 1 10 [some (.ref 1000), some (.int x1), some (.int x2)] [.ref 1000, .ref 1089] h1 rfl rfl rfl ?_
  refine tl_gr hL0 10 0 0 0 1 [1001, 1008, 1015, 1080, 1081, 1083, 1086, 1089, 1093, 1096, 1098, 0, 0, 0, 0, 0] rfl rfl rfl rfl ?_
  refine tr_call (.invokevirtual 259) 259 1 1 6 m_X7_countPairs [.ref 1089, .ref 1001] [] none h2 rfl rfl rfl rfl rfl rfl rfl rfl rfl (tr_cok rfl (Or.inr ⟨_, _, rfl, tr_rc (hh_rd (hh_obj hL0 (k := 89) rfl).1) (by decide)⟩)) c_1 ?_
  have hL1 := c_1.2
  refine tr_s (.aload_n 0) 1 17 [some (.ref 1000), some (.int x1), some (.int x2)] [.ref 1000] h2 rfl rfl rfl ?_
  refine tl_gr hL1 53 0 0 7 89 [1001, 1008, 1015, 1080, 1081, 1083, 1086, 1089, 1093, 1096, 1098, 0, 0, 0, 0, 0] rfl rfl rfl rfl ?_
  refine tr_s (.iload_n 1) 1 21 [some (.ref 1000), some (.int x1), some (.int x2)] [.int x1, .ref 1089] h2 rfl rfl rfl ?_
  refine tr_call (.invokestatic 189) 189 2 1 0 m_X8_indexOf [.int x1] [.ref 1089] (some (.int v0)) h3 rfl rfl rfl rfl rfl rfl rfl rfl rfl (tr_cok rfl (Or.inl rfl)) c_2 ?_
  have hL2 := c_2.2
  refine tr_s (.iload_n 2) 1 25 [some (.ref 1000), some (.int x1), some (.int x2)] [.int x2, .int v0, .ref 1089] h3 rfl rfl rfl ?_
  refine tr_call (.invokestatic 189) 189 2 1 0 m_X8_indexOf [.int x2] [.int v0, .ref 1089] (some (.int v1)) h4 rfl rfl rfl rfl rfl rfl rfl rfl rfl (tr_cok rfl (Or.inl rfl)) c_3 ?_
  have hL3 := c_3.2
  refine tr_call (.invokevirtual 262) 262 1 2 6 m_X7_preferring [.ref 1089, .int v0, .int v1] [] (some (.int v2)) h5 rfl rfl rfl rfl rfl rfl rfl rfl rfl (tr_cok rfl (Or.inr ⟨_, _, rfl, tr_rc (hh_rd (hh_obj hL3 (k := 89) rfl).1) (by decide)⟩)) c_4 ?_
  have hL4 := c_4.2
  exact tl_ret hL4 .ireturn 1 (some (.int v2)) rfl rfl rfl rfl hr
theorem sx_X8_strengthByTrying_0_2 {g : tr_g} {d : Nat} {h : ev_AH} {r : ev_O × ev_AH} {x1 x2 : Int32} {h1 hx : ev_AH} {E : Nat} (hL : hh_L h) (cx : tr_L g d m_X8_requirePair 0 [some (.int x1), some (.int x2)] [] h (.inr E, hx)) (hr : r = (.inr E, hx)) : tr_L g (d + 1) m_X8_strengthByTrying 0 [some (.ref 1000), some (.int x1), some (.int x2)] [] h r := by
  refine tr_s (.iload_n 1) 1 1 [some (.ref 1000), some (.int x1), some (.int x2)] [.int x1] h rfl rfl rfl ?_
  refine tr_s (.iload_n 2) 1 2 [some (.ref 1000), some (.int x1), some (.int x2)] [.int x2, .int x1] h rfl rfl rfl ?_
  exact tr_callx (.invokestatic 255) 255 2 2 0 m_X8_requirePair [.int x1, .int x2] [] E hx rfl rfl rfl rfl rfl rfl rfl rfl rfl (tr_cok rfl (Or.inl rfl)) rfl cx hr
theorem sg_X8_strengthByTrying_0 {g : tr_g} {d : Nat} {h : ev_AH} {r : ev_O × ev_AH} {x1 x2 v0 v1 v2 : Int32} {h1 h2 h3 h4 h5 : ev_AH} (hL : hh_L h) (c_0 : tr_L g d m_X8_requirePair 0 [some (.int x1), some (.int x2)] [] h (.inl none, h1)) (c_1 : tr_L g d m_X7_countPairs 0 [some (.ref 1089), some (.ref 1001), none, none, none, none, none] [] h1 (.inl none, h2)) (c_2 : tr_L g d m_X8_indexOf 0 [some (.int x1)] [] h2 (.inl (some (.int v0)), h3)) (c_3 : tr_L g d m_X8_indexOf 0 [some (.int x2)] [] h3 (.inl (some (.int v1)), h4)) (c_4 : tr_L g d m_X7_triedStrength 0 [some (.ref 1089), some (.int (hh_i h2 1 6)), some (.int v0), some (.int v1), none] [] h4 (.inl (some (.int v2)), h5)) (hr : r = (.inl (some (.int v2)), h5)) : tr_L g (d + 1) m_X8_strengthByTrying 0 [some (.ref 1000), some (.int x1), some (.int x2)] [] h r := by
  refine tr_s (.iload_n 1) 1 1 [some (.ref 1000), some (.int x1), some (.int x2)] [.int x1] h rfl rfl rfl ?_
  refine tr_s (.iload_n 2) 1 2 [some (.ref 1000), some (.int x1), some (.int x2)] [.int x2, .int x1] h rfl rfl rfl ?_
  refine tr_call (.invokestatic 255) 255 2 2 0 m_X8_requirePair [.int x1, .int x2] [] none h1 rfl rfl rfl rfl rfl rfl rfl rfl rfl (tr_cok rfl (Or.inl rfl)) c_0 ?_
  have hL0 := c_0.2
  refine tr_s (.aload_n 0) 1 6 [some (.ref 1000), some (.int x1), some (.int x2)] [.ref 1000] h1 rfl rfl rfl ?_
  refine tl_gr hL0 53 0 0 7 89 [1001, 1008, 1015, 1080, 1081, 1083, 1086, 1089, 1093, 1096, 1098, 0, 0, 0, 0, 0] rfl rfl rfl rfl ?_
  refine tr_s (.aload_n 0) 1 10 [some (.ref 1000), some (.int x1), some (.int x2)] [.ref 1000, .ref 1089] h1 rfl rfl rfl ?_
  refine tl_gr hL0 10 0 0 0 1 [1001, 1008, 1015, 1080, 1081, 1083, 1086, 1089, 1093, 1096, 1098, 0, 0, 0, 0, 0] rfl rfl rfl rfl ?_
  refine tr_call (.invokevirtual 259) 259 1 1 6 m_X7_countPairs [.ref 1089, .ref 1001] [] none h2 rfl rfl rfl rfl rfl rfl rfl rfl rfl (tr_cok rfl (Or.inr ⟨_, _, rfl, tr_rc (hh_rd (hh_obj hL0 (k := 89) rfl).1) (by decide)⟩)) c_1 ?_
  have hL1 := c_1.2
  refine tr_s (.aload_n 0) 1 17 [some (.ref 1000), some (.int x1), some (.int x2)] [.ref 1000] h2 rfl rfl rfl ?_
  refine tl_gr hL1 53 0 0 7 89 [1001, 1008, 1015, 1080, 1081, 1083, 1086, 1089, 1093, 1096, 1098, 0, 0, 0, 0, 0] rfl rfl rfl rfl ?_
  refine tr_s (.aload_n 0) 1 21 [some (.ref 1000), some (.int x1), some (.int x2)] [.ref 1000, .ref 1089] h2 rfl rfl rfl ?_
  refine tl_gr hL1 10 0 0 0 1 [1001, 1008, 1015, 1080, 1081, 1083, 1086, 1089, 1093, 1096, 1098, 0, 0, 0, 0, 0] rfl rfl rfl rfl ?_
  refine tl_gi hL1 131 1 1 6 [1002, 1003, 1004, 1005, 1006, 1007, 0, 0, 0, 0, 0, 0, 0, 0] rfl rfl rfl rfl ?_
  refine tr_s (.iload_n 1) 1 28 [some (.ref 1000), some (.int x1), some (.int x2)] [.int x1, .int (hh_i h2 1 6), .ref 1089] h2 rfl rfl rfl ?_
  refine tr_call (.invokestatic 189) 189 2 1 0 m_X8_indexOf [.int x1] [.int (hh_i h2 1 6), .ref 1089] (some (.int v0)) h3 rfl rfl rfl rfl rfl rfl rfl rfl rfl (tr_cok rfl (Or.inl rfl)) c_2 ?_
  have hL2 := c_2.2
  refine tr_s (.iload_n 2) 1 32 [some (.ref 1000), some (.int x1), some (.int x2)] [.int x2, .int v0, .int (hh_i h2 1 6), .ref 1089] h3 rfl rfl rfl ?_
  refine tr_call (.invokestatic 189) 189 2 1 0 m_X8_indexOf [.int x2] [.int v0, .int (hh_i h2 1 6), .ref 1089] (some (.int v1)) h4 rfl rfl rfl rfl rfl rfl rfl rfl rfl (tr_cok rfl (Or.inl rfl)) c_3 ?_
  have hL3 := c_3.2
  refine tr_call (.invokevirtual 287) 287 1 3 6 m_X7_triedStrength [.ref 1089, .int (hh_i h2 1 6), .int v0, .int v1] [] (some (.int v2)) h5 rfl rfl rfl rfl rfl rfl rfl rfl rfl (tr_cok rfl (Or.inr ⟨_, _, rfl, tr_rc (hh_rd (hh_obj hL3 (k := 89) rfl).1) (by decide)⟩)) c_4 ?_
  have hL4 := c_4.2
  exact tl_ret hL4 .ireturn 1 (some (.int v2)) rfl rfl rfl rfl hr
theorem sx_X8_isDominant_0_1 {g : tr_g} {d : Nat} {h : ev_AH} {r : ev_O × ev_AH} {x1 : Int32} {h1 hx : ev_AH} {E : Nat} (hL : hh_L h) (cx : tr_L g d m_X8_requireOption 0 [some (.int x1)] [] h (.inr E, hx)) (hr : r = (.inr E, hx)) : tr_L g (d + 1) m_X8_isDominant 0 [some (.ref 1000), some (.int x1)] [] h r := by
  refine tr_s (.iload_n 1) 1 1 [some (.ref 1000), some (.int x1)] [.int x1] h rfl rfl rfl ?_
  exact tr_callx (.invokestatic 185) 185 2 1 0 m_X8_requireOption [.int x1] [] E hx rfl rfl rfl rfl rfl rfl rfl rfl rfl (tr_cok rfl (Or.inl rfl)) rfl cx hr
theorem sg_X8_isDominant_0 {g : tr_g} {d : Nat} {h : ev_AH} {r : ev_O × ev_AH} {x1 v0 v1 : Int32} {h1 h2 h3 : ev_AH} (hL : hh_L h) (c_0 : tr_L g d m_X8_requireOption 0 [some (.int x1)] [] h (.inl none, h1)) (c_1 : tr_L g d m_X8_indexOf 0 [some (.int x1)] [] h1 (.inl (some (.int v0)), h2)) (c_2 : tr_L g d m_X7_dominates 0 [some (.ref 1089), some (.ref 1001), some (.int v0), none] [] h2 (.inl (some (.int v1)), h3)) (hb0 : v1 = 0 ∨ v1 = 1) (hr : r = (.inl (some (.int v1)), h3)) : tr_L g (d + 1) m_X8_isDominant 0 [some (.ref 1000), some (.int x1)] [] h r := by
  refine tr_s (.iload_n 1) 1 1 [some (.ref 1000), some (.int x1)] [.int x1] h rfl rfl rfl ?_
  refine tr_call (.invokestatic 185) 185 2 1 0 m_X8_requireOption [.int x1] [] none h1 rfl rfl rfl rfl rfl rfl rfl rfl rfl (tr_cok rfl (Or.inl rfl)) c_0 ?_
  have hL0 := c_0.2
  refine tr_s (.aload_n 0) 1 5 [some (.ref 1000), some (.int x1)] [.ref 1000] h1 rfl rfl rfl ?_
  refine tl_gr hL0 53 0 0 7 89 [1001, 1008, 1015, 1080, 1081, 1083, 1086, 1089, 1093, 1096, 1098, 0, 0, 0, 0, 0] rfl rfl rfl rfl ?_
  refine tr_s (.aload_n 0) 1 9 [some (.ref 1000), some (.int x1)] [.ref 1000, .ref 1089] h1 rfl rfl rfl ?_
  refine tl_gr hL0 10 0 0 0 1 [1001, 1008, 1015, 1080, 1081, 1083, 1086, 1089, 1093, 1096, 1098, 0, 0, 0, 0, 0] rfl rfl rfl rfl ?_
  refine tr_s (.iload_n 1) 1 13 [some (.ref 1000), some (.int x1)] [.int x1, .ref 1001, .ref 1089] h1 rfl rfl rfl ?_
  refine tr_call (.invokestatic 189) 189 2 1 0 m_X8_indexOf [.int x1] [.ref 1001, .ref 1089] (some (.int v0)) h2 rfl rfl rfl rfl rfl rfl rfl rfl rfl (tr_cok rfl (Or.inl rfl)) c_1 ?_
  have hL1 := c_1.2
  refine tr_call (.invokevirtual 294) 294 1 2 6 m_X7_dominates [.ref 1089, .ref 1001, .int v0] [] (some (.int v1)) h3 rfl rfl rfl rfl rfl rfl rfl rfl rfl (tr_cok rfl (Or.inr ⟨_, _, rfl, tr_rc (hh_rd (hh_obj hL1 (k := 89) rfl).1) (by decide)⟩)) c_2 ?_
  have hL2 := c_2.2
  exact tl_ret hL2 .ireturn 1 (some (.int v1)) rfl rfl rfl (tr_eb rfl hb0) hr
theorem sg_X8_isConsistent_0 {g : tr_g} {d : Nat} {h : ev_AH} {r : ev_O × ev_AH} {h1 : ev_AH} {v0 : Int32} (hL : hh_L h) (c_0 : tr_L g d m_X8_raysAgree 0 [some (.ref 1000), none, none] [] h (.inl (some (.int v0)), h1)) (t : v0 = 0 → tr_L g (d + 1) m_X8_isConsistent 42 [some (.ref 1000)] [] h1 r) (f : v0 ≠ 0 → tr_L g (d + 1) m_X8_isConsistent 7 [some (.ref 1000)] [] h1 r) : tr_L g (d + 1) m_X8_isConsistent 0 [some (.ref 1000)] [] h r := by
  refine tr_s (.aload_n 0) 1 1 [some (.ref 1000)] [.ref 1000] h rfl rfl rfl ?_
  refine tr_call (.invokevirtual 346) 346 0 0 0 m_X8_raysAgree [.ref 1000] [] (some (.int v0)) h1 rfl rfl rfl rfl rfl rfl rfl rfl rfl (tr_cok rfl (Or.inr ⟨_, _, rfl, tr_rc (hh_rd (hh_obj hL (k := 0) rfl).1) (by decide)⟩)) c_0 ?_
  have hL0 := c_0.2
  exact tr_if1 .eq 38 42 v0 rfl rfl rfl (fun hc => t ((tr_eq hc).1 rfl)) (fun hc => f ((tr_eq hc).2 rfl))
theorem sg_X8_isConsistent_7 {g : tr_g} {d : Nat} {h : ev_AH} {r : ev_O × ev_AH} {h1 : ev_AH} {v0 : Int32} (hL : hh_L h) (c_0 : tr_L g d m_X8_effortsAgree 0 [some (.ref 1000), none, none, none] [] h (.inl (some (.int v0)), h1)) (t : v0 = 0 → tr_L g (d + 1) m_X8_isConsistent 42 [some (.ref 1000)] [] h1 r) (f : v0 ≠ 0 → tr_L g (d + 1) m_X8_isConsistent 14 [some (.ref 1000)] [] h1 r) : tr_L g (d + 1) m_X8_isConsistent 7 [some (.ref 1000)] [] h r := by
  refine tr_s (.aload_n 0) 1 8 [some (.ref 1000)] [.ref 1000] h rfl rfl rfl ?_
  refine tr_call (.invokevirtual 349) 349 0 0 0 m_X8_effortsAgree [.ref 1000] [] (some (.int v0)) h1 rfl rfl rfl rfl rfl rfl rfl rfl rfl (tr_cok rfl (Or.inr ⟨_, _, rfl, tr_rc (hh_rd (hh_obj hL (k := 0) rfl).1) (by decide)⟩)) c_0 ?_
  have hL0 := c_0.2
  exact tr_if1 .eq 31 42 v0 rfl rfl rfl (fun hc => t ((tr_eq hc).1 rfl)) (fun hc => f ((tr_eq hc).2 rfl))
theorem sg_X8_isConsistent_14 {g : tr_g} {d : Nat} {h : ev_AH} {r : ev_O × ev_AH} {h1 : ev_AH} {v0 : Int32} (hL : hh_L h) (c_0 : tr_L g d m_X8_strengthsAgree 0 [some (.ref 1000), none, none] [] h (.inl (some (.int v0)), h1)) (t : v0 = 0 → tr_L g (d + 1) m_X8_isConsistent 42 [some (.ref 1000)] [] h1 r) (f : v0 ≠ 0 → tr_L g (d + 1) m_X8_isConsistent 21 [some (.ref 1000)] [] h1 r) : tr_L g (d + 1) m_X8_isConsistent 14 [some (.ref 1000)] [] h r := by
  refine tr_s (.aload_n 0) 1 15 [some (.ref 1000)] [.ref 1000] h rfl rfl rfl ?_
  refine tr_call (.invokevirtual 352) 352 0 0 0 m_X8_strengthsAgree [.ref 1000] [] (some (.int v0)) h1 rfl rfl rfl rfl rfl rfl rfl rfl rfl (tr_cok rfl (Or.inr ⟨_, _, rfl, tr_rc (hh_rd (hh_obj hL (k := 0) rfl).1) (by decide)⟩)) c_0 ?_
  have hL0 := c_0.2
  exact tr_if1 .eq 24 42 v0 rfl rfl rfl (fun hc => t ((tr_eq hc).1 rfl)) (fun hc => f ((tr_eq hc).2 rfl))
theorem sg_X8_isConsistent_21 {g : tr_g} {d : Nat} {h : ev_AH} {r : ev_O × ev_AH} {h1 : ev_AH} {v0 : Int32} (hL : hh_L h) (c_0 : tr_L g d m_X2_countHeard 0 [some (.ref 1001), none, none] [] h (.inl (some (.int v0)), h1)) (t : v0 ≠ (hh_i h1 1 11) → tr_L g (d + 1) m_X8_isConsistent 42 [some (.ref 1000)] [] h1 r) (f : v0 = (hh_i h1 1 11) → tr_L g (d + 1) m_X8_isConsistent 38 [some (.ref 1000)] [] h1 r) : tr_L g (d + 1) m_X8_isConsistent 21 [some (.ref 1000)] [] h r := by
  refine tr_s (.aload_n 0) 1 22 [some (.ref 1000)] [.ref 1000] h rfl rfl rfl ?_
  refine tl_gr hL 10 0 0 0 1 [1001, 1008, 1015, 1080, 1081, 1083, 1086, 1089, 1093, 1096, 1098, 0, 0, 0, 0, 0] rfl rfl rfl rfl ?_
  refine tr_call (.invokevirtual 355) 355 1 0 1 m_X2_countHeard [.ref 1001] [] (some (.int v0)) h1 rfl rfl rfl rfl rfl rfl rfl rfl rfl (tr_cok rfl (Or.inr ⟨_, _, rfl, tr_rc (hh_rd (hh_obj hL (k := 1) rfl).1) (by decide)⟩)) c_0 ?_
  have hL0 := c_0.2
  refine tr_s (.aload_n 0) 1 29 [some (.ref 1000)] [.ref 1000, .int v0] h1 rfl rfl rfl ?_
  refine tl_gr hL0 10 0 0 0 1 [1001, 1008, 1015, 1080, 1081, 1083, 1086, 1089, 1093, 1096, 1098, 0, 0, 0, 0, 0] rfl rfl rfl rfl ?_
  refine tl_gi hL0 335 1 1 11 [1002, 1003, 1004, 1005, 1006, 1007, 0, 0, 0, 0, 0, 0, 0, 0] rfl rfl rfl rfl ?_
  exact tr_if2 .ne 7 42 v0 (hh_i h1 1 11) rfl rfl rfl (fun hc => t ((tr_ne hc).1 rfl)) (fun hc => f ((tr_ne hc).2 rfl))
theorem sg_X8_isConsistent_38 {g : tr_g} {d : Nat} {h : ev_AH} {r : ev_O × ev_AH} {w0 : Option Value} (hL : hh_L h) (hr : r = (.inl (some (.int 1)), h)) : tr_L g d m_X8_isConsistent 38 [w0] [] h r := by
  refine tr_ic 1 1 (by decide) rfl ?_
  refine tr_goto 4 43 rfl rfl rfl ?_
  exact tl_ret hL .ireturn 1 (some (.int 1)) rfl rfl rfl rfl hr
theorem sg_X8_isConsistent_42 {g : tr_g} {d : Nat} {h : ev_AH} {r : ev_O × ev_AH} {w0 : Option Value} (hL : hh_L h) (hr : r = (.inl (some (.int 0)), h)) : tr_L g d m_X8_isConsistent 42 [w0] [] h r := by
  refine tr_ic 0 0 (by decide) rfl ?_
  exact tl_ret hL .ireturn 1 (some (.int 0)) rfl rfl rfl rfl hr
theorem sg_X8_raysAgree_0 {g : tr_g} {d : Nat} {h : ev_AH} {r : ev_O × ev_AH} {h1 : ev_AH} (hL : hh_L h) (c_0 : tr_L g d m_X4_joinAll 0 [some (.ref 1081), some (.ref 1001), none] [] h (.inl none, h1)) (k : tr_L g (d + 1) m_X8_raysAgree 13 [some (.ref 1000), some (.int 0), none] [] h1 r) : tr_L g (d + 1) m_X8_raysAgree 0 [some (.ref 1000), none, none] [] h r := by
  refine tr_s (.aload_n 0) 1 1 [some (.ref 1000), none, none] [.ref 1000] h rfl rfl rfl ?_
  refine tl_gr hL 36 0 0 4 81 [1001, 1008, 1015, 1080, 1081, 1083, 1086, 1089, 1093, 1096, 1098, 0, 0, 0, 0, 0] rfl rfl rfl rfl ?_
  refine tr_s (.aload_n 0) 1 5 [some (.ref 1000), none, none] [.ref 1000, .ref 1081] h rfl rfl rfl ?_
  refine tl_gr hL 10 0 0 0 1 [1001, 1008, 1015, 1080, 1081, 1083, 1086, 1089, 1093, 1096, 1098, 0, 0, 0, 0, 0] rfl rfl rfl rfl ?_
  refine tr_call (.invokevirtual 211) 211 1 1 4 m_X4_joinAll [.ref 1081, .ref 1001] [] none h1 rfl rfl rfl rfl rfl rfl rfl rfl rfl (tr_cok rfl (Or.inr ⟨_, _, rfl, tr_rc (hh_rd (hh_obj hL (k := 81) rfl).1) (by decide)⟩)) c_0 ?_
  have hL0 := c_0.2
  refine tr_ic 0 0 (by decide) rfl ?_
  refine tr_st (.istore_n 1) 1 1 0 (.int 0) rfl rfl rfl rfl rfl rfl rfl ?_
  exact k
theorem sg_X8_raysAgree_13 {g : tr_g} {d : Nat} {h : ev_AH} {r : ev_O × ev_AH} {x1 : Int32} {w2 : Option Value} (hL : hh_L h) (t : 24 ≤ x1 → tr_L g d m_X8_raysAgree 89 [some (.ref 1000), some (.int x1), w2] [] h r) (f : x1 < 24 → tr_L g d m_X8_raysAgree 19 [some (.ref 1000), some (.int x1), w2] [] h r) : tr_L g d m_X8_raysAgree 13 [some (.ref 1000), some (.int x1), w2] [] h r := by
  refine tr_s (.iload_n 1) 1 14 [some (.ref 1000), some (.int x1), w2] [.int x1] h rfl rfl rfl ?_
  refine tr_bi 24 24 (by decide) rfl ?_
  exact tr_if2 .ge 73 89 x1 24 rfl rfl rfl (fun hc => t ((tr_ge hc).1 rfl)) (fun hc => f ((tr_ge hc).2 rfl))
theorem sg_X8_raysAgree_19 {g : tr_g} {d : Nat} {h : ev_AH} {r : ev_O × ev_AH} {x1 v0 : Int32} {w2 : Option Value} {h1 h2 : ev_AH} (hL : hh_L h) (c_0 : tr_L g d m_X5_follow 0 [some (.ref 1080), some (.ref 1001), some (.int x1), none, none, none, none, none] [] h (.inl none, h1)) (c_1 : tr_L g d m_X4_otherEnd 0 [some (.ref 1081), some (.int x1), none, none] [] h1 (.inl (some (.int v0)), h2)) (t : v0 = (hh_i h1 80 0) → tr_L g (d + 1) m_X8_raysAgree 53 [some (.ref 1000), some (.int x1), some (.int (hh_i h1 80 0))] [] h2 r) (f : v0 ≠ (hh_i h1 80 0) → tr_L g (d + 1) m_X8_raysAgree 51 [some (.ref 1000), some (.int x1), some (.int (hh_i h1 80 0))] [] h2 r) : tr_L g (d + 1) m_X8_raysAgree 19 [some (.ref 1000), some (.int x1), w2] [] h r := by
  refine tr_s (.aload_n 0) 1 20 [some (.ref 1000), some (.int x1), w2] [.ref 1000] h rfl rfl rfl ?_
  refine tl_gr hL 29 0 0 3 80 [1001, 1008, 1015, 1080, 1081, 1083, 1086, 1089, 1093, 1096, 1098, 0, 0, 0, 0, 0] rfl rfl rfl rfl ?_
  refine tr_s (.aload_n 0) 1 24 [some (.ref 1000), some (.int x1), w2] [.ref 1000, .ref 1080] h rfl rfl rfl ?_
  refine tl_gr hL 10 0 0 0 1 [1001, 1008, 1015, 1080, 1081, 1083, 1086, 1089, 1093, 1096, 1098, 0, 0, 0, 0, 0] rfl rfl rfl rfl ?_
  refine tr_s (.iload_n 1) 1 28 [some (.ref 1000), some (.int x1), w2] [.int x1, .ref 1001, .ref 1080] h rfl rfl rfl ?_
  refine tr_call (.invokevirtual 202) 202 1 2 3 m_X5_follow [.ref 1080, .ref 1001, .int x1] [] none h1 rfl rfl rfl rfl rfl rfl rfl rfl rfl (tr_cok rfl (Or.inr ⟨_, _, rfl, tr_rc (hh_rd (hh_obj hL (k := 80) rfl).1) (by decide)⟩)) c_0 ?_
  have hL0 := c_0.2
  refine tr_s (.aload_n 0) 1 32 [some (.ref 1000), some (.int x1), w2] [.ref 1000] h1 rfl rfl rfl ?_
  refine tl_gr hL0 29 0 0 3 80 [1001, 1008, 1015, 1080, 1081, 1083, 1086, 1089, 1093, 1096, 1098, 0, 0, 0, 0, 0] rfl rfl rfl rfl ?_
  refine tl_gi hL0 206 80 3 0 [0, 0, 0, 0] rfl rfl rfl rfl ?_
  refine tr_st (.istore_n 2) 1 2 0 (.int (hh_i h1 80 0)) rfl rfl rfl rfl rfl rfl rfl ?_
  refine tr_s (.aload_n 0) 1 40 [some (.ref 1000), some (.int x1), some (.int (hh_i h1 80 0))] [.ref 1000] h1 rfl rfl rfl ?_
  refine tl_gr hL0 36 0 0 4 81 [1001, 1008, 1015, 1080, 1081, 1083, 1086, 1089, 1093, 1096, 1098, 0, 0, 0, 0, 0] rfl rfl rfl rfl ?_
  refine tr_s (.iload_n 1) 1 44 [some (.ref 1000), some (.int x1), some (.int (hh_i h1 80 0))] [.int x1, .ref 1081] h1 rfl rfl rfl ?_
  refine tr_call (.invokevirtual 214) 214 1 1 4 m_X4_otherEnd [.ref 1081, .int x1] [] (some (.int v0)) h2 rfl rfl rfl rfl rfl rfl rfl rfl rfl (tr_cok rfl (Or.inr ⟨_, _, rfl, tr_rc (hh_rd (hh_obj hL0 (k := 81) rfl).1) (by decide)⟩)) c_1 ?_
  have hL1 := c_1.2
  refine tr_s (.iload_n 2) 1 48 [some (.ref 1000), some (.int x1), some (.int (hh_i h1 80 0))] [.int (hh_i h1 80 0), .int v0] h2 rfl rfl rfl ?_
  exact tr_if2 .eq 5 53 v0 (hh_i h1 80 0) rfl rfl rfl (fun hc => t ((tr_eq hc).1 rfl)) (fun hc => f ((tr_eq hc).2 rfl))
theorem sg_X8_raysAgree_51 {g : tr_g} {d : Nat} {h : ev_AH} {r : ev_O × ev_AH} {w0 w1 w2 : Option Value} (hL : hh_L h) (hr : r = (.inl (some (.int 0)), h)) : tr_L g d m_X8_raysAgree 51 [w0, w1, w2] [] h r := by
  refine tr_ic 0 0 (by decide) rfl ?_
  exact tl_ret hL .ireturn 1 (some (.int 0)) rfl rfl rfl rfl hr
theorem sg_X8_raysAgree_53 {g : tr_g} {d : Nat} {h : ev_AH} {r : ev_O × ev_AH} {x1 x2 : Int32} (hL : hh_L h) (t : x2 = (-1) → tr_L g d m_X8_raysAgree 83 [some (.ref 1000), some (.int x1), some (.int x2)] [] h r) (f : x2 ≠ (-1) → tr_L g d m_X8_raysAgree 58 [some (.ref 1000), some (.int x1), some (.int x2)] [] h r) : tr_L g d m_X8_raysAgree 53 [some (.ref 1000), some (.int x1), some (.int x2)] [] h r := by
  refine tr_s (.iload_n 2) 1 54 [some (.ref 1000), some (.int x1), some (.int x2)] [.int x2] h rfl rfl rfl ?_
  refine tr_ic (-1) (-1) (by decide) rfl ?_
  exact tr_if2 .eq 28 83 x2 (-1) rfl rfl rfl (fun hc => t ((tr_eq hc).1 rfl)) (fun hc => f ((tr_eq hc).2 rfl))
theorem sg_X8_raysAgree_58 {g : tr_g} {d : Nat} {h : ev_AH} {r : ev_O × ev_AH} {x1 x2 : Int32} {h1 : ev_AH} (hL : hh_L h) (c_0 : tr_L g d m_X5_follow 0 [some (.ref 1080), some (.ref 1001), some (.int x2), none, none, none, none, none] [] h (.inl none, h1)) (t : (hh_i h1 80 0) = x1 → tr_L g (d + 1) m_X8_raysAgree 83 [some (.ref 1000), some (.int x1), some (.int x2)] [] h1 r) (f : (hh_i h1 80 0) ≠ x1 → tr_L g (d + 1) m_X8_raysAgree 81 [some (.ref 1000), some (.int x1), some (.int x2)] [] h1 r) : tr_L g (d + 1) m_X8_raysAgree 58 [some (.ref 1000), some (.int x1), some (.int x2)] [] h r := by
  refine tr_s (.aload_n 0) 1 59 [some (.ref 1000), some (.int x1), some (.int x2)] [.ref 1000] h rfl rfl rfl ?_
  refine tl_gr hL 29 0 0 3 80 [1001, 1008, 1015, 1080, 1081, 1083, 1086, 1089, 1093, 1096, 1098, 0, 0, 0, 0, 0] rfl rfl rfl rfl ?_
  refine tr_s (.aload_n 0) 1 63 [some (.ref 1000), some (.int x1), some (.int x2)] [.ref 1000, .ref 1080] h rfl rfl rfl ?_
  refine tl_gr hL 10 0 0 0 1 [1001, 1008, 1015, 1080, 1081, 1083, 1086, 1089, 1093, 1096, 1098, 0, 0, 0, 0, 0] rfl rfl rfl rfl ?_
  refine tr_s (.iload_n 2) 1 67 [some (.ref 1000), some (.int x1), some (.int x2)] [.int x2, .ref 1001, .ref 1080] h rfl rfl rfl ?_
  refine tr_call (.invokevirtual 202) 202 1 2 3 m_X5_follow [.ref 1080, .ref 1001, .int x2] [] none h1 rfl rfl rfl rfl rfl rfl rfl rfl rfl (tr_cok rfl (Or.inr ⟨_, _, rfl, tr_rc (hh_rd (hh_obj hL (k := 80) rfl).1) (by decide)⟩)) c_0 ?_
  have hL0 := c_0.2
  refine tr_s (.aload_n 0) 1 71 [some (.ref 1000), some (.int x1), some (.int x2)] [.ref 1000] h1 rfl rfl rfl ?_
  refine tl_gr hL0 29 0 0 3 80 [1001, 1008, 1015, 1080, 1081, 1083, 1086, 1089, 1093, 1096, 1098, 0, 0, 0, 0, 0] rfl rfl rfl rfl ?_
  refine tl_gi hL0 206 80 3 0 [0, 0, 0, 0] rfl rfl rfl rfl ?_
  refine tr_s (.iload_n 1) 1 78 [some (.ref 1000), some (.int x1), some (.int x2)] [.int x1, .int (hh_i h1 80 0)] h1 rfl rfl rfl ?_
  exact tr_if2 .eq 5 83 (hh_i h1 80 0) x1 rfl rfl rfl (fun hc => t ((tr_eq hc).1 rfl)) (fun hc => f ((tr_eq hc).2 rfl))
theorem sg_X8_raysAgree_81 {g : tr_g} {d : Nat} {h : ev_AH} {r : ev_O × ev_AH} {w0 w1 w2 : Option Value} (hL : hh_L h) (hr : r = (.inl (some (.int 0)), h)) : tr_L g d m_X8_raysAgree 81 [w0, w1, w2] [] h r := by
  refine tr_ic 0 0 (by decide) rfl ?_
  exact tl_ret hL .ireturn 1 (some (.int 0)) rfl rfl rfl rfl hr
theorem sg_X8_raysAgree_83 {g : tr_g} {d : Nat} {h : ev_AH} {r : ev_O × ev_AH} {x1 : Int32} {w2 : Option Value} (hL : hh_L h) (k : tr_L g d m_X8_raysAgree 13 [some (.ref 1000), some (.int (x1 + 1)), w2] [] h r) : tr_L g d m_X8_raysAgree 83 [some (.ref 1000), some (.int x1), w2] [] h r := by
  refine tr_inc 1 1 x1 1 (by decide) rfl rfl rfl ?_
  refine tr_goto (-73) 13 rfl rfl rfl ?_
  exact k
theorem sg_X8_raysAgree_89 {g : tr_g} {d : Nat} {h : ev_AH} {r : ev_O × ev_AH} {w0 w1 w2 : Option Value} (hL : hh_L h) (hr : r = (.inl (some (.int 1)), h)) : tr_L g d m_X8_raysAgree 89 [w0, w1, w2] [] h r := by
  refine tr_ic 1 1 (by decide) rfl ?_
  exact tl_ret hL .ireturn 1 (some (.int 1)) rfl rfl rfl rfl hr
theorem sg_X8_effortsAgree_0 {g : tr_g} {d : Nat} {h : ev_AH} {r : ev_O × ev_AH} (hL : hh_L h) (k : tr_L g d m_X8_effortsAgree 2 [some (.ref 1000), some (.int 0), none, none] [] h r) : tr_L g d m_X8_effortsAgree 0 [some (.ref 1000), none, none, none] [] h r := by
  refine tr_ic 0 0 (by decide) rfl ?_
  refine tr_st (.istore_n 1) 1 1 0 (.int 0) rfl rfl rfl rfl rfl rfl rfl ?_
  exact k
theorem sg_X8_effortsAgree_2 {g : tr_g} {d : Nat} {h : ev_AH} {r : ev_O × ev_AH} {x1 : Int32} {w2 w3 : Option Value} (hL : hh_L h) (t : 24 ≤ x1 → tr_L g d m_X8_effortsAgree 100 [some (.ref 1000), some (.int x1), w2, w3] [] h r) (f : x1 < 24 → tr_L g d m_X8_effortsAgree 8 [some (.ref 1000), some (.int x1), w2, w3] [] h r) : tr_L g d m_X8_effortsAgree 2 [some (.ref 1000), some (.int x1), w2, w3] [] h r := by
  refine tr_s (.iload_n 1) 1 3 [some (.ref 1000), some (.int x1), w2, w3] [.int x1] h rfl rfl rfl ?_
  refine tr_bi 24 24 (by decide) rfl ?_
  exact tr_if2 .ge 95 100 x1 24 rfl rfl rfl (fun hc => t ((tr_ge hc).1 rfl)) (fun hc => f ((tr_ge hc).2 rfl))
theorem sg_X8_effortsAgree_8 {g : tr_g} {d : Nat} {h : ev_AH} {r : ev_O × ev_AH} {x1 : Int32} {w2 w3 : Option Value} (hL : hh_L h) (t : (hh_i h 1 6) ≤ 0 → tr_L g d m_X8_effortsAgree 100 [some (.ref 1000), some (.int x1), w2, w3] [] h r) (f : 0 < (hh_i h 1 6) → tr_L g d m_X8_effortsAgree 18 [some (.ref 1000), some (.int x1), w2, w3] [] h r) : tr_L g d m_X8_effortsAgree 8 [some (.ref 1000), some (.int x1), w2, w3] [] h r := by
  refine tr_s (.aload_n 0) 1 9 [some (.ref 1000), some (.int x1), w2, w3] [.ref 1000] h rfl rfl rfl ?_
  refine tl_gr hL 10 0 0 0 1 [1001, 1008, 1015, 1080, 1081, 1083, 1086, 1089, 1093, 1096, 1098, 0, 0, 0, 0, 0] rfl rfl rfl rfl ?_
  refine tl_gi hL 131 1 1 6 [1002, 1003, 1004, 1005, 1006, 1007, 0, 0, 0, 0, 0, 0, 0, 0] rfl rfl rfl rfl ?_
  exact tr_if1 .le 85 100 (hh_i h 1 6) rfl rfl rfl (fun hc => t ((tr_le hc).1 rfl)) (fun hc => f ((tr_le hc).2 rfl))
theorem sg_X8_effortsAgree_18 {g : tr_g} {d : Nat} {h : ev_AH} {r : ev_O × ev_AH} {x1 : Int32} {w2 w3 : Option Value} {h1 h2 : ev_AH} (hL : hh_L h) (c_0 : tr_L g d m_X1_searchByQueue 0 [some (.ref 1083), some (.ref 1001), some (.int x1), none] [] h (.inl none, h1)) (c_1 : tr_L g d m_X1_searchByRounds 0 [some (.ref 1086), some (.ref 1001), some (.int x1), none, none] [] h1 (.inl none, h2)) (k : tr_L g (d + 1) m_X8_effortsAgree 44 [some (.ref 1000), some (.int x1), some (.int 0), w3] [] h2 r) : tr_L g (d + 1) m_X8_effortsAgree 18 [some (.ref 1000), some (.int x1), w2, w3] [] h r := by
  refine tr_s (.aload_n 0) 1 19 [some (.ref 1000), some (.int x1), w2, w3] [.ref 1000] h rfl rfl rfl ?_
  refine tl_gr hL 43 0 0 5 83 [1001, 1008, 1015, 1080, 1081, 1083, 1086, 1089, 1093, 1096, 1098, 0, 0, 0, 0, 0] rfl rfl rfl rfl ?_
  refine tr_s (.aload_n 0) 1 23 [some (.ref 1000), some (.int x1), w2, w3] [.ref 1000, .ref 1083] h rfl rfl rfl ?_
  refine tl_gr hL 10 0 0 0 1 [1001, 1008, 1015, 1080, 1081, 1083, 1086, 1089, 1093, 1096, 1098, 0, 0, 0, 0, 0] rfl rfl rfl rfl ?_
  refine tr_s (.iload_n 1) 1 27 [some (.ref 1000), some (.int x1), w2, w3] [.int x1, .ref 1001, .ref 1083] h rfl rfl rfl ?_
  refine tr_call (.invokevirtual 228) 228 1 2 5 m_X1_searchByQueue [.ref 1083, .ref 1001, .int x1] [] none h1 rfl rfl rfl rfl rfl rfl rfl rfl rfl (tr_cok rfl (Or.inr ⟨_, _, rfl, tr_rc (hh_rd (hh_obj hL (k := 83) rfl).1) (by decide)⟩)) c_0 ?_
  have hL0 := c_0.2
  refine tr_s (.aload_n 0) 1 31 [some (.ref 1000), some (.int x1), w2, w3] [.ref 1000] h1 rfl rfl rfl ?_
  refine tl_gr hL0 47 0 0 6 86 [1001, 1008, 1015, 1080, 1081, 1083, 1086, 1089, 1093, 1096, 1098, 0, 0, 0, 0, 0] rfl rfl rfl rfl ?_
  refine tr_s (.aload_n 0) 1 35 [some (.ref 1000), some (.int x1), w2, w3] [.ref 1000, .ref 1086] h1 rfl rfl rfl ?_
  refine tl_gr hL0 10 0 0 0 1 [1001, 1008, 1015, 1080, 1081, 1083, 1086, 1089, 1093, 1096, 1098, 0, 0, 0, 0, 0] rfl rfl rfl rfl ?_
  refine tr_s (.iload_n 1) 1 39 [some (.ref 1000), some (.int x1), w2, w3] [.int x1, .ref 1001, .ref 1086] h1 rfl rfl rfl ?_
  refine tr_call (.invokevirtual 236) 236 1 2 5 m_X1_searchByRounds [.ref 1086, .ref 1001, .int x1] [] none h2 rfl rfl rfl rfl rfl rfl rfl rfl rfl (tr_cok rfl (Or.inr ⟨_, _, rfl, tr_rc (hh_rd (hh_obj hL0 (k := 86) rfl).1) (by decide)⟩)) c_1 ?_
  have hL1 := c_1.2
  refine tr_ic 0 0 (by decide) rfl ?_
  refine tr_st (.istore_n 2) 1 2 0 (.int 0) rfl rfl rfl rfl rfl rfl rfl ?_
  exact k
theorem sg_X8_effortsAgree_44 {g : tr_g} {d : Nat} {h : ev_AH} {r : ev_O × ev_AH} {x1 x2 : Int32} {w3 : Option Value} (hL : hh_L h) (t : (hh_i h 1 6) ≤ x2 → tr_L g d m_X8_effortsAgree 94 [some (.ref 1000), some (.int x1), some (.int x2), w3] [] h r) (f : x2 < (hh_i h 1 6) → tr_L g d m_X8_effortsAgree 55 [some (.ref 1000), some (.int x1), some (.int x2), w3] [] h r) : tr_L g d m_X8_effortsAgree 44 [some (.ref 1000), some (.int x1), some (.int x2), w3] [] h r := by
  refine tr_s (.iload_n 2) 1 45 [some (.ref 1000), some (.int x1), some (.int x2), w3] [.int x2] h rfl rfl rfl ?_
  refine tr_s (.aload_n 0) 1 46 [some (.ref 1000), some (.int x1), some (.int x2), w3] [.ref 1000, .int x2] h rfl rfl rfl ?_
  refine tl_gr hL 10 0 0 0 1 [1001, 1008, 1015, 1080, 1081, 1083, 1086, 1089, 1093, 1096, 1098, 0, 0, 0, 0, 0] rfl rfl rfl rfl ?_
  refine tl_gi hL 131 1 1 6 [1002, 1003, 1004, 1005, 1006, 1007, 0, 0, 0, 0, 0, 0, 0, 0] rfl rfl rfl rfl ?_
  exact tr_if2 .ge 42 94 x2 (hh_i h 1 6) rfl rfl rfl (fun hc => t ((tr_ge hc).1 rfl)) (fun hc => f ((tr_ge hc).2 rfl))
theorem sg_X8_effortsAgree_55 {g : tr_g} {d : Nat} {h : ev_AH} {r : ev_O × ev_AH} {x1 x2 v0 v1 v2 : Int32} {w3 : Option Value} {h1 h2 h3 : ev_AH} (hL : hh_L h) (c_0 : tr_L g d m_X8_at 0 [some (.ref 1003), some (.int x2)] [] h (.inl (some (.int v0)), h1)) (c_1 : tr_L g d m_X1_effortInto 0 [some (.ref 1083), some (.int v0), none, none, none] [] h1 (.inl (some (.int v1)), h2)) (c_2 : tr_L g d m_X1_effortInto 0 [some (.ref 1086), some (.int v0), none, none, none] [] h2 (.inl (some (.int v2)), h3)) (t : v1 = v2 → tr_L g (d + 1) m_X8_effortsAgree 88 [some (.ref 1000), some (.int x1), some (.int x2), some (.int v0)] [] h3 r) (f : v1 ≠ v2 → tr_L g (d + 1) m_X8_effortsAgree 86 [some (.ref 1000), some (.int x1), some (.int x2), some (.int v0)] [] h3 r) : tr_L g (d + 1) m_X8_effortsAgree 55 [some (.ref 1000), some (.int x1), some (.int x2), w3] [] h r := by
  refine tr_s (.aload_n 0) 1 56 [some (.ref 1000), some (.int x1), some (.int x2), w3] [.ref 1000] h rfl rfl rfl ?_
  refine tl_gr hL 10 0 0 0 1 [1001, 1008, 1015, 1080, 1081, 1083, 1086, 1089, 1093, 1096, 1098, 0, 0, 0, 0, 0] rfl rfl rfl rfl ?_
  refine tl_gr hL 156 1 1 1 3 [1002, 1003, 1004, 1005, 1006, 1007, 0, 0, 0, 0, 0, 0, 0, 0] rfl rfl rfl rfl ?_
  refine tr_s (.iload_n 2) 1 63 [some (.ref 1000), some (.int x1), some (.int x2), w3] [.int x2, .ref 1003] h rfl rfl rfl ?_
  refine tr_call (.invokestatic 159) 159 2 2 0 m_X8_at [.ref 1003, .int x2] [] (some (.int v0)) h1 rfl rfl rfl rfl rfl rfl rfl rfl rfl (tr_cok rfl (Or.inl rfl)) c_0 ?_
  have hL0 := c_0.2
  refine tr_st (.istore_n 3) 1 3 0 (.int v0) rfl rfl rfl rfl rfl rfl rfl ?_
  refine tr_s (.aload_n 0) 1 68 [some (.ref 1000), some (.int x1), some (.int x2), some (.int v0)] [.ref 1000] h1 rfl rfl rfl ?_
  refine tl_gr hL0 43 0 0 5 83 [1001, 1008, 1015, 1080, 1081, 1083, 1086, 1089, 1093, 1096, 1098, 0, 0, 0, 0, 0] rfl rfl rfl rfl ?_
  refine tr_s (.iload_n 3) 1 72 [some (.ref 1000), some (.int x1), some (.int x2), some (.int v0)] [.int v0, .ref 1083] h1 rfl rfl rfl ?_
  refine tr_call (.invokevirtual 231) 231 1 1 5 m_X1_effortInto [.ref 1083, .int v0] [] (some (.int v1)) h2 rfl rfl rfl rfl rfl rfl rfl rfl rfl (tr_cok rfl (Or.inr ⟨_, _, rfl, tr_rc (hh_rd (hh_obj hL0 (k := 83) rfl).1) (by decide)⟩)) c_1 ?_
  have hL1 := c_1.2
  refine tr_s (.aload_n 0) 1 76 [some (.ref 1000), some (.int x1), some (.int x2), some (.int v0)] [.ref 1000, .int v1] h2 rfl rfl rfl ?_
  refine tl_gr hL1 47 0 0 6 86 [1001, 1008, 1015, 1080, 1081, 1083, 1086, 1089, 1093, 1096, 1098, 0, 0, 0, 0, 0] rfl rfl rfl rfl ?_
  refine tr_s (.iload_n 3) 1 80 [some (.ref 1000), some (.int x1), some (.int x2), some (.int v0)] [.int v0, .ref 1086, .int v1] h2 rfl rfl rfl ?_
  refine tr_call (.invokevirtual 231) 231 1 1 5 m_X1_effortInto [.ref 1086, .int v0] [.int v1] (some (.int v2)) h3 rfl rfl rfl rfl rfl rfl rfl rfl rfl (tr_cok rfl (Or.inr ⟨_, _, rfl, tr_rc (hh_rd (hh_obj hL1 (k := 86) rfl).1) (by decide)⟩)) c_2 ?_
  have hL2 := c_2.2
  exact tr_if2 .eq 5 88 v1 v2 rfl rfl rfl (fun hc => t ((tr_eq hc).1 rfl)) (fun hc => f ((tr_eq hc).2 rfl))
theorem sg_X8_effortsAgree_86 {g : tr_g} {d : Nat} {h : ev_AH} {r : ev_O × ev_AH} {w0 w1 w2 w3 : Option Value} (hL : hh_L h) (hr : r = (.inl (some (.int 0)), h)) : tr_L g d m_X8_effortsAgree 86 [w0, w1, w2, w3] [] h r := by
  refine tr_ic 0 0 (by decide) rfl ?_
  exact tl_ret hL .ireturn 1 (some (.int 0)) rfl rfl rfl rfl hr
theorem sg_X8_effortsAgree_88 {g : tr_g} {d : Nat} {h : ev_AH} {r : ev_O × ev_AH} {x1 x2 : Int32} {w3 : Option Value} (hL : hh_L h) (k : tr_L g d m_X8_effortsAgree 44 [some (.ref 1000), some (.int x1), some (.int (x2 + 1)), w3] [] h r) : tr_L g d m_X8_effortsAgree 88 [some (.ref 1000), some (.int x1), some (.int x2), w3] [] h r := by
  refine tr_inc 2 1 x2 1 (by decide) rfl rfl rfl ?_
  refine tr_goto (-47) 44 rfl rfl rfl ?_
  exact k
theorem sg_X8_effortsAgree_94 {g : tr_g} {d : Nat} {h : ev_AH} {r : ev_O × ev_AH} {x1 : Int32} {w2 w3 : Option Value} (hL : hh_L h) (k : tr_L g d m_X8_effortsAgree 2 [some (.ref 1000), some (.int (x1 + 1)), w2, w3] [] h r) : tr_L g d m_X8_effortsAgree 94 [some (.ref 1000), some (.int x1), w2, w3] [] h r := by
  refine tr_inc 1 1 x1 1 (by decide) rfl rfl rfl ?_
  refine tr_goto (-95) 2 rfl rfl rfl ?_
  exact k
theorem sg_X8_effortsAgree_100 {g : tr_g} {d : Nat} {h : ev_AH} {r : ev_O × ev_AH} {w0 w1 w2 w3 : Option Value} (hL : hh_L h) (hr : r = (.inl (some (.int 1)), h)) : tr_L g d m_X8_effortsAgree 100 [w0, w1, w2, w3] [] h r := by
  refine tr_ic 1 1 (by decide) rfl ?_
  exact tl_ret hL .ireturn 1 (some (.int 1)) rfl rfl rfl rfl hr
theorem sg_X8_strengthsAgree_0 {g : tr_g} {d : Nat} {h : ev_AH} {r : ev_O × ev_AH} {h1 : ev_AH} (hL : hh_L h) (c_0 : tr_L g d m_X7_fillStrengths 0 [some (.ref 1089), some (.ref 1001), none, none, none, none] [] h (.inl none, h1)) (k : tr_L g (d + 1) m_X8_strengthsAgree 13 [some (.ref 1000), some (.int 0), none] [] h1 r) : tr_L g (d + 1) m_X8_strengthsAgree 0 [some (.ref 1000), none, none] [] h r := by
  refine tr_s (.aload_n 0) 1 1 [some (.ref 1000), none, none] [.ref 1000] h rfl rfl rfl ?_
  refine tl_gr hL 53 0 0 7 89 [1001, 1008, 1015, 1080, 1081, 1083, 1086, 1089, 1093, 1096, 1098, 0, 0, 0, 0, 0] rfl rfl rfl rfl ?_
  refine tr_s (.aload_n 0) 1 5 [some (.ref 1000), none, none] [.ref 1000, .ref 1089] h rfl rfl rfl ?_
  refine tl_gr hL 10 0 0 0 1 [1001, 1008, 1015, 1080, 1081, 1083, 1086, 1089, 1093, 1096, 1098, 0, 0, 0, 0, 0] rfl rfl rfl rfl ?_
  refine tr_call (.invokevirtual 281) 281 1 1 6 m_X7_fillStrengths [.ref 1089, .ref 1001] [] none h1 rfl rfl rfl rfl rfl rfl rfl rfl rfl (tr_cok rfl (Or.inr ⟨_, _, rfl, tr_rc (hh_rd (hh_obj hL (k := 89) rfl).1) (by decide)⟩)) c_0 ?_
  have hL0 := c_0.2
  refine tr_ic 0 0 (by decide) rfl ?_
  refine tr_st (.istore_n 1) 1 1 0 (.int 0) rfl rfl rfl rfl rfl rfl rfl ?_
  exact k
theorem sg_X8_strengthsAgree_13 {g : tr_g} {d : Nat} {h : ev_AH} {r : ev_O × ev_AH} {x1 : Int32} {w2 : Option Value} (hL : hh_L h) (t : 4 ≤ x1 → tr_L g d m_X8_strengthsAgree 72 [some (.ref 1000), some (.int x1), w2] [] h r) (f : x1 < 4 → tr_L g d m_X8_strengthsAgree 18 [some (.ref 1000), some (.int x1), w2] [] h r) : tr_L g d m_X8_strengthsAgree 13 [some (.ref 1000), some (.int x1), w2] [] h r := by
  refine tr_s (.iload_n 1) 1 14 [some (.ref 1000), some (.int x1), w2] [.int x1] h rfl rfl rfl ?_
  refine tr_ic 4 4 (by decide) rfl ?_
  exact tr_if2 .ge 57 72 x1 4 rfl rfl rfl (fun hc => t ((tr_ge hc).1 rfl)) (fun hc => f ((tr_ge hc).2 rfl))
theorem sg_X8_strengthsAgree_18 {g : tr_g} {d : Nat} {h : ev_AH} {r : ev_O × ev_AH} {x1 : Int32} {w2 : Option Value} (hL : hh_L h) (k : tr_L g d m_X8_strengthsAgree 20 [some (.ref 1000), some (.int x1), some (.int 0)] [] h r) : tr_L g d m_X8_strengthsAgree 18 [some (.ref 1000), some (.int x1), w2] [] h r := by
  refine tr_ic 0 0 (by decide) rfl ?_
  refine tr_st (.istore_n 2) 1 2 0 (.int 0) rfl rfl rfl rfl rfl rfl rfl ?_
  exact k
theorem sg_X8_strengthsAgree_20 {g : tr_g} {d : Nat} {h : ev_AH} {r : ev_O × ev_AH} {x1 x2 : Int32} (hL : hh_L h) (t : 4 ≤ x2 → tr_L g d m_X8_strengthsAgree 66 [some (.ref 1000), some (.int x1), some (.int x2)] [] h r) (f : x2 < 4 → tr_L g d m_X8_strengthsAgree 25 [some (.ref 1000), some (.int x1), some (.int x2)] [] h r) : tr_L g d m_X8_strengthsAgree 20 [some (.ref 1000), some (.int x1), some (.int x2)] [] h r := by
  refine tr_s (.iload_n 2) 1 21 [some (.ref 1000), some (.int x1), some (.int x2)] [.int x2] h rfl rfl rfl ?_
  refine tr_ic 4 4 (by decide) rfl ?_
  exact tr_if2 .ge 44 66 x2 4 rfl rfl rfl (fun hc => t ((tr_ge hc).1 rfl)) (fun hc => f ((tr_ge hc).2 rfl))
theorem sg_X8_strengthsAgree_25 {g : tr_g} {d : Nat} {h : ev_AH} {r : ev_O × ev_AH} {x1 x2 : Int32} (hL : hh_L h) (t : x1 = x2 → tr_L g d m_X8_strengthsAgree 60 [some (.ref 1000), some (.int x1), some (.int x2)] [] h r) (f : x1 ≠ x2 → tr_L g d m_X8_strengthsAgree 30 [some (.ref 1000), some (.int x1), some (.int x2)] [] h r) : tr_L g d m_X8_strengthsAgree 25 [some (.ref 1000), some (.int x1), some (.int x2)] [] h r := by
  refine tr_s (.iload_n 1) 1 26 [some (.ref 1000), some (.int x1), some (.int x2)] [.int x1] h rfl rfl rfl ?_
  refine tr_s (.iload_n 2) 1 27 [some (.ref 1000), some (.int x1), some (.int x2)] [.int x2, .int x1] h rfl rfl rfl ?_
  exact tr_if2 .eq 33 60 x1 x2 rfl rfl rfl (fun hc => t ((tr_eq hc).1 rfl)) (fun hc => f ((tr_eq hc).2 rfl))
theorem sg_X8_strengthsAgree_30 {g : tr_g} {d : Nat} {h : ev_AH} {r : ev_O × ev_AH} {x1 x2 v0 v1 : Int32} {h1 h2 : ev_AH} (hL : hh_L h) (c_0 : tr_L g d m_X7_tableStrength 0 [some (.ref 1089), some (.int x1), some (.int x2)] [] h (.inl (some (.int v0)), h1)) (c_1 : tr_L g d m_X7_triedStrength 0 [some (.ref 1089), some (.int (hh_i h1 1 6)), some (.int x1), some (.int x2), none] [] h1 (.inl (some (.int v1)), h2)) (t : v0 = v1 → tr_L g (d + 1) m_X8_strengthsAgree 60 [some (.ref 1000), some (.int x1), some (.int x2)] [] h2 r) (f : v0 ≠ v1 → tr_L g (d + 1) m_X8_strengthsAgree 58 [some (.ref 1000), some (.int x1), some (.int x2)] [] h2 r) : tr_L g (d + 1) m_X8_strengthsAgree 30 [some (.ref 1000), some (.int x1), some (.int x2)] [] h r := by
  refine tr_s (.aload_n 0) 1 31 [some (.ref 1000), some (.int x1), some (.int x2)] [.ref 1000] h rfl rfl rfl ?_
  refine tl_gr hL 53 0 0 7 89 [1001, 1008, 1015, 1080, 1081, 1083, 1086, 1089, 1093, 1096, 1098, 0, 0, 0, 0, 0] rfl rfl rfl rfl ?_
  refine tr_s (.iload_n 1) 1 35 [some (.ref 1000), some (.int x1), some (.int x2)] [.int x1, .ref 1089] h rfl rfl rfl ?_
  refine tr_s (.iload_n 2) 1 36 [some (.ref 1000), some (.int x1), some (.int x2)] [.int x2, .int x1, .ref 1089] h rfl rfl rfl ?_
  refine tr_call (.invokevirtual 284) 284 1 2 6 m_X7_tableStrength [.ref 1089, .int x1, .int x2] [] (some (.int v0)) h1 rfl rfl rfl rfl rfl rfl rfl rfl rfl (tr_cok rfl (Or.inr ⟨_, _, rfl, tr_rc (hh_rd (hh_obj hL (k := 89) rfl).1) (by decide)⟩)) c_0 ?_
  have hL0 := c_0.2
  refine tr_s (.aload_n 0) 1 40 [some (.ref 1000), some (.int x1), some (.int x2)] [.ref 1000, .int v0] h1 rfl rfl rfl ?_
  refine tl_gr hL0 53 0 0 7 89 [1001, 1008, 1015, 1080, 1081, 1083, 1086, 1089, 1093, 1096, 1098, 0, 0, 0, 0, 0] rfl rfl rfl rfl ?_
  refine tr_s (.aload_n 0) 1 44 [some (.ref 1000), some (.int x1), some (.int x2)] [.ref 1000, .ref 1089, .int v0] h1 rfl rfl rfl ?_
  refine tl_gr hL0 10 0 0 0 1 [1001, 1008, 1015, 1080, 1081, 1083, 1086, 1089, 1093, 1096, 1098, 0, 0, 0, 0, 0] rfl rfl rfl rfl ?_
  refine tl_gi hL0 131 1 1 6 [1002, 1003, 1004, 1005, 1006, 1007, 0, 0, 0, 0, 0, 0, 0, 0] rfl rfl rfl rfl ?_
  refine tr_s (.iload_n 1) 1 51 [some (.ref 1000), some (.int x1), some (.int x2)] [.int x1, .int (hh_i h1 1 6), .ref 1089, .int v0] h1 rfl rfl rfl ?_
  refine tr_s (.iload_n 2) 1 52 [some (.ref 1000), some (.int x1), some (.int x2)] [.int x2, .int x1, .int (hh_i h1 1 6), .ref 1089, .int v0] h1 rfl rfl rfl ?_
  refine tr_call (.invokevirtual 287) 287 1 3 6 m_X7_triedStrength [.ref 1089, .int (hh_i h1 1 6), .int x1, .int x2] [.int v0] (some (.int v1)) h2 rfl rfl rfl rfl rfl rfl rfl rfl rfl (tr_cok rfl (Or.inr ⟨_, _, rfl, tr_rc (hh_rd (hh_obj hL0 (k := 89) rfl).1) (by decide)⟩)) c_1 ?_
  have hL1 := c_1.2
  exact tr_if2 .eq 5 60 v0 v1 rfl rfl rfl (fun hc => t ((tr_eq hc).1 rfl)) (fun hc => f ((tr_eq hc).2 rfl))
theorem sg_X8_strengthsAgree_58 {g : tr_g} {d : Nat} {h : ev_AH} {r : ev_O × ev_AH} {w0 w1 w2 : Option Value} (hL : hh_L h) (hr : r = (.inl (some (.int 0)), h)) : tr_L g d m_X8_strengthsAgree 58 [w0, w1, w2] [] h r := by
  refine tr_ic 0 0 (by decide) rfl ?_
  exact tl_ret hL .ireturn 1 (some (.int 0)) rfl rfl rfl rfl hr
theorem sg_X8_strengthsAgree_60 {g : tr_g} {d : Nat} {h : ev_AH} {r : ev_O × ev_AH} {x1 x2 : Int32} (hL : hh_L h) (k : tr_L g d m_X8_strengthsAgree 20 [some (.ref 1000), some (.int x1), some (.int (x2 + 1))] [] h r) : tr_L g d m_X8_strengthsAgree 60 [some (.ref 1000), some (.int x1), some (.int x2)] [] h r := by
  refine tr_inc 2 1 x2 1 (by decide) rfl rfl rfl ?_
  refine tr_goto (-43) 20 rfl rfl rfl ?_
  exact k
theorem sg_X8_strengthsAgree_66 {g : tr_g} {d : Nat} {h : ev_AH} {r : ev_O × ev_AH} {x1 : Int32} {w2 : Option Value} (hL : hh_L h) (k : tr_L g d m_X8_strengthsAgree 13 [some (.ref 1000), some (.int (x1 + 1)), w2] [] h r) : tr_L g d m_X8_strengthsAgree 66 [some (.ref 1000), some (.int x1), w2] [] h r := by
  refine tr_inc 1 1 x1 1 (by decide) rfl rfl rfl ?_
  refine tr_goto (-56) 13 rfl rfl rfl ?_
  exact k
theorem sg_X8_strengthsAgree_72 {g : tr_g} {d : Nat} {h : ev_AH} {r : ev_O × ev_AH} {w0 w1 w2 : Option Value} (hL : hh_L h) (hr : r = (.inl (some (.int 1)), h)) : tr_L g d m_X8_strengthsAgree 72 [w0, w1, w2] [] h r := by
  refine tr_ic 1 1 (by decide) rfl ?_
  exact tl_ret hL .ireturn 1 (some (.int 1)) rfl rfl rfl rfl hr
