/-! runs of the law, from place to place; laid by a program (wip/whole/gen/gen40.py) -/
theorem sg_law_28 {g : tr_g} {d : Nat} {h : ev_AH} {r : ev_O × ev_AH} {x5 : Int32} {w6 w7 w8 : Option Value} (hL : hh_L h) (t : ((Int32.ofNat g.1.length) - 5) < x5 → tr_L g d m_law 2967 [some (.ref 0), some (.ref 1000), some (.ref 1099), some (.ref 1109), some (.ref 1110), some (.int x5), w6, w7, w8] [] h r) (f : x5 ≤ ((Int32.ofNat g.1.length) - 5) → tr_L g d m_law 37 [some (.ref 0), some (.ref 1000), some (.ref 1099), some (.ref 1109), some (.ref 1110), some (.int x5), w6, w7, w8] [] h r) : tr_L g d m_law 28 [some (.ref 0), some (.ref 1000), some (.ref 1099), some (.ref 1109), some (.ref 1110), some (.int x5), w6, w7, w8] [] h r := by
  refine tr_s (.iload 5) 2 30 [some (.ref 0), some (.ref 1000), some (.ref 1099), some (.ref 1109), some (.ref 1110), some (.int x5), w6, w7, w8] [.int x5] h rfl rfl rfl ?_
  refine tr_s (.aload_n 0) 1 31 [some (.ref 0), some (.ref 1000), some (.ref 1099), some (.ref 1109), some (.ref 1110), some (.int x5), w6, w7, w8] [.ref 0, .int x5] h rfl rfl rfl ?_
  refine tr_alen 0 0 g.1 rfl rfl (by decide) ?_
  refine tr_ic 5 5 (by decide) rfl ?_
  refine tr_s .isub 1 34 [some (.ref 0), some (.ref 1000), some (.ref 1099), some (.ref 1109), some (.ref 1110), some (.int x5), w6, w7, w8] [.int ((Int32.ofNat g.1.length) - 5), .int x5] h rfl rfl rfl ?_
  exact tr_if2 .gt 2933 2967 x5 ((Int32.ofNat g.1.length) - 5) rfl rfl rfl (fun hc => t ((tr_gt hc).1 rfl)) (fun hc => f ((tr_gt hc).2 rfl))
theorem sg_law_37_t0 {g : tr_g} {d : Nat} {h : ev_AH} {r : ev_O × ev_AH} {x5 : Int32} {w6 w7 w8 : Option Value} {j0 : Nat} (hL : hh_L h) (e0 : x5 = Int32.ofNat j0) (b0 : j0 < g.1.length) (z0 : g.1.length < 2147483648) (e : (g.1.getD j0 0) &&& 63 = 0) (k : tr_L g d m_law 276 [some (.ref 0), some (.ref 1000), some (.ref 1099), some (.ref 1109), some (.ref 1110), some (.int x5), w6, w7, w8] [] h r) : tr_L g d m_law 37 [some (.ref 0), some (.ref 1000), some (.ref 1099), some (.ref 1109), some (.ref 1110), some (.int x5), w6, w7, w8] [] h r := by
  refine tr_s (.aload_n 0) 1 38 [some (.ref 0), some (.ref 1000), some (.ref 1099), some (.ref 1109), some (.ref 1110), some (.int x5), w6, w7, w8] [.ref 0] h rfl rfl rfl ?_
  refine tr_s (.iload 5) 2 40 [some (.ref 0), some (.ref 1000), some (.ref 1099), some (.ref 1109), some (.ref 1110), some (.int x5), w6, w7, w8] [.int x5, .ref 0] h rfl rfl rfl ?_
  refine tr_ald .iaload 0 0 j0 x5 g.1 (Or.inl ⟨rfl, rfl⟩) rfl rfl e0 b0 z0 ?_
  refine tr_bi 63 63 (by decide) rfl ?_
  refine tr_s .iand 1 44 [some (.ref 0), some (.ref 1000), some (.ref 1099), some (.ref 1109), some (.ref 1110), some (.int x5), w6, w7, w8] [.int ((g.1.getD j0 0) &&& 63)] h rfl rfl rfl ?_
  exact tr_s (.tableswitch 2917 0 53 #[232, 330, 400, 413, 469, 525, 581, 649, 719, 775, 831, 887, 943, 999, 1055, 1123, 1191, 1247, 1317, 1375, 1447, 1505, 1549, 1593, 1637, 1709, 1781, 1825, 1890, 1948, 1961, 2005, 2049, 2062, 2075, 2131, 2144, 2157, 2170, 2226, 2291, 2357, 2370, 2426, 2482, 2538, 2596, 2640, 2684, 2728, 2772, 2816, 2860, 2873]) 232 276 [some (.ref 0), some (.ref 1000), some (.ref 1099), some (.ref 1109), some (.ref 1110), some (.int x5), w6, w7, w8] [] h rfl rfl (by rw [e]; rfl) k
theorem sg_law_37_t1 {g : tr_g} {d : Nat} {h : ev_AH} {r : ev_O × ev_AH} {x5 : Int32} {w6 w7 w8 : Option Value} {j0 : Nat} (hL : hh_L h) (e0 : x5 = Int32.ofNat j0) (b0 : j0 < g.1.length) (z0 : g.1.length < 2147483648) (e : (g.1.getD j0 0) &&& 63 = 1) (k : tr_L g d m_law 374 [some (.ref 0), some (.ref 1000), some (.ref 1099), some (.ref 1109), some (.ref 1110), some (.int x5), w6, w7, w8] [] h r) : tr_L g d m_law 37 [some (.ref 0), some (.ref 1000), some (.ref 1099), some (.ref 1109), some (.ref 1110), some (.int x5), w6, w7, w8] [] h r := by
  refine tr_s (.aload_n 0) 1 38 [some (.ref 0), some (.ref 1000), some (.ref 1099), some (.ref 1109), some (.ref 1110), some (.int x5), w6, w7, w8] [.ref 0] h rfl rfl rfl ?_
  refine tr_s (.iload 5) 2 40 [some (.ref 0), some (.ref 1000), some (.ref 1099), some (.ref 1109), some (.ref 1110), some (.int x5), w6, w7, w8] [.int x5, .ref 0] h rfl rfl rfl ?_
  refine tr_ald .iaload 0 0 j0 x5 g.1 (Or.inl ⟨rfl, rfl⟩) rfl rfl e0 b0 z0 ?_
  refine tr_bi 63 63 (by decide) rfl ?_
  refine tr_s .iand 1 44 [some (.ref 0), some (.ref 1000), some (.ref 1099), some (.ref 1109), some (.ref 1110), some (.int x5), w6, w7, w8] [.int ((g.1.getD j0 0) &&& 63)] h rfl rfl rfl ?_
  exact tr_s (.tableswitch 2917 0 53 #[232, 330, 400, 413, 469, 525, 581, 649, 719, 775, 831, 887, 943, 999, 1055, 1123, 1191, 1247, 1317, 1375, 1447, 1505, 1549, 1593, 1637, 1709, 1781, 1825, 1890, 1948, 1961, 2005, 2049, 2062, 2075, 2131, 2144, 2157, 2170, 2226, 2291, 2357, 2370, 2426, 2482, 2538, 2596, 2640, 2684, 2728, 2772, 2816, 2860, 2873]) 232 374 [some (.ref 0), some (.ref 1000), some (.ref 1099), some (.ref 1109), some (.ref 1110), some (.int x5), w6, w7, w8] [] h rfl rfl (by rw [e]; rfl) k
theorem sg_law_37_t2 {g : tr_g} {d : Nat} {h : ev_AH} {r : ev_O × ev_AH} {x5 : Int32} {w6 w7 w8 : Option Value} {j0 : Nat} (hL : hh_L h) (e0 : x5 = Int32.ofNat j0) (b0 : j0 < g.1.length) (z0 : g.1.length < 2147483648) (e : (g.1.getD j0 0) &&& 63 = 2) (k : tr_L g d m_law 444 [some (.ref 0), some (.ref 1000), some (.ref 1099), some (.ref 1109), some (.ref 1110), some (.int x5), w6, w7, w8] [] h r) : tr_L g d m_law 37 [some (.ref 0), some (.ref 1000), some (.ref 1099), some (.ref 1109), some (.ref 1110), some (.int x5), w6, w7, w8] [] h r := by
  refine tr_s (.aload_n 0) 1 38 [some (.ref 0), some (.ref 1000), some (.ref 1099), some (.ref 1109), some (.ref 1110), some (.int x5), w6, w7, w8] [.ref 0] h rfl rfl rfl ?_
  refine tr_s (.iload 5) 2 40 [some (.ref 0), some (.ref 1000), some (.ref 1099), some (.ref 1109), some (.ref 1110), some (.int x5), w6, w7, w8] [.int x5, .ref 0] h rfl rfl rfl ?_
  refine tr_ald .iaload 0 0 j0 x5 g.1 (Or.inl ⟨rfl, rfl⟩) rfl rfl e0 b0 z0 ?_
  refine tr_bi 63 63 (by decide) rfl ?_
  refine tr_s .iand 1 44 [some (.ref 0), some (.ref 1000), some (.ref 1099), some (.ref 1109), some (.ref 1110), some (.int x5), w6, w7, w8] [.int ((g.1.getD j0 0) &&& 63)] h rfl rfl rfl ?_
  exact tr_s (.tableswitch 2917 0 53 #[232, 330, 400, 413, 469, 525, 581, 649, 719, 775, 831, 887, 943, 999, 1055, 1123, 1191, 1247, 1317, 1375, 1447, 1505, 1549, 1593, 1637, 1709, 1781, 1825, 1890, 1948, 1961, 2005, 2049, 2062, 2075, 2131, 2144, 2157, 2170, 2226, 2291, 2357, 2370, 2426, 2482, 2538, 2596, 2640, 2684, 2728, 2772, 2816, 2860, 2873]) 232 444 [some (.ref 0), some (.ref 1000), some (.ref 1099), some (.ref 1109), some (.ref 1110), some (.int x5), w6, w7, w8] [] h rfl rfl (by rw [e]; rfl) k
theorem sg_law_37_t3 {g : tr_g} {d : Nat} {h : ev_AH} {r : ev_O × ev_AH} {x5 : Int32} {w6 w7 w8 : Option Value} {j0 : Nat} (hL : hh_L h) (e0 : x5 = Int32.ofNat j0) (b0 : j0 < g.1.length) (z0 : g.1.length < 2147483648) (e : (g.1.getD j0 0) &&& 63 = 3) (k : tr_L g d m_law 457 [some (.ref 0), some (.ref 1000), some (.ref 1099), some (.ref 1109), some (.ref 1110), some (.int x5), w6, w7, w8] [] h r) : tr_L g d m_law 37 [some (.ref 0), some (.ref 1000), some (.ref 1099), some (.ref 1109), some (.ref 1110), some (.int x5), w6, w7, w8] [] h r := by
  refine tr_s (.aload_n 0) 1 38 [some (.ref 0), some (.ref 1000), some (.ref 1099), some (.ref 1109), some (.ref 1110), some (.int x5), w6, w7, w8] [.ref 0] h rfl rfl rfl ?_
  refine tr_s (.iload 5) 2 40 [some (.ref 0), some (.ref 1000), some (.ref 1099), some (.ref 1109), some (.ref 1110), some (.int x5), w6, w7, w8] [.int x5, .ref 0] h rfl rfl rfl ?_
  refine tr_ald .iaload 0 0 j0 x5 g.1 (Or.inl ⟨rfl, rfl⟩) rfl rfl e0 b0 z0 ?_
  refine tr_bi 63 63 (by decide) rfl ?_
  refine tr_s .iand 1 44 [some (.ref 0), some (.ref 1000), some (.ref 1099), some (.ref 1109), some (.ref 1110), some (.int x5), w6, w7, w8] [.int ((g.1.getD j0 0) &&& 63)] h rfl rfl rfl ?_
  exact tr_s (.tableswitch 2917 0 53 #[232, 330, 400, 413, 469, 525, 581, 649, 719, 775, 831, 887, 943, 999, 1055, 1123, 1191, 1247, 1317, 1375, 1447, 1505, 1549, 1593, 1637, 1709, 1781, 1825, 1890, 1948, 1961, 2005, 2049, 2062, 2075, 2131, 2144, 2157, 2170, 2226, 2291, 2357, 2370, 2426, 2482, 2538, 2596, 2640, 2684, 2728, 2772, 2816, 2860, 2873]) 232 457 [some (.ref 0), some (.ref 1000), some (.ref 1099), some (.ref 1109), some (.ref 1110), some (.int x5), w6, w7, w8] [] h rfl rfl (by rw [e]; rfl) k
theorem sg_law_37_t4 {g : tr_g} {d : Nat} {h : ev_AH} {r : ev_O × ev_AH} {x5 : Int32} {w6 w7 w8 : Option Value} {j0 : Nat} (hL : hh_L h) (e0 : x5 = Int32.ofNat j0) (b0 : j0 < g.1.length) (z0 : g.1.length < 2147483648) (e : (g.1.getD j0 0) &&& 63 = 4) (k : tr_L g d m_law 513 [some (.ref 0), some (.ref 1000), some (.ref 1099), some (.ref 1109), some (.ref 1110), some (.int x5), w6, w7, w8] [] h r) : tr_L g d m_law 37 [some (.ref 0), some (.ref 1000), some (.ref 1099), some (.ref 1109), some (.ref 1110), some (.int x5), w6, w7, w8] [] h r := by
  refine tr_s (.aload_n 0) 1 38 [some (.ref 0), some (.ref 1000), some (.ref 1099), some (.ref 1109), some (.ref 1110), some (.int x5), w6, w7, w8] [.ref 0] h rfl rfl rfl ?_
  refine tr_s (.iload 5) 2 40 [some (.ref 0), some (.ref 1000), some (.ref 1099), some (.ref 1109), some (.ref 1110), some (.int x5), w6, w7, w8] [.int x5, .ref 0] h rfl rfl rfl ?_
  refine tr_ald .iaload 0 0 j0 x5 g.1 (Or.inl ⟨rfl, rfl⟩) rfl rfl e0 b0 z0 ?_
  refine tr_bi 63 63 (by decide) rfl ?_
  refine tr_s .iand 1 44 [some (.ref 0), some (.ref 1000), some (.ref 1099), some (.ref 1109), some (.ref 1110), some (.int x5), w6, w7, w8] [.int ((g.1.getD j0 0) &&& 63)] h rfl rfl rfl ?_
  exact tr_s (.tableswitch 2917 0 53 #[232, 330, 400, 413, 469, 525, 581, 649, 719, 775, 831, 887, 943, 999, 1055, 1123, 1191, 1247, 1317, 1375, 1447, 1505, 1549, 1593, 1637, 1709, 1781, 1825, 1890, 1948, 1961, 2005, 2049, 2062, 2075, 2131, 2144, 2157, 2170, 2226, 2291, 2357, 2370, 2426, 2482, 2538, 2596, 2640, 2684, 2728, 2772, 2816, 2860, 2873]) 232 513 [some (.ref 0), some (.ref 1000), some (.ref 1099), some (.ref 1109), some (.ref 1110), some (.int x5), w6, w7, w8] [] h rfl rfl (by rw [e]; rfl) k
theorem sg_law_37_t5 {g : tr_g} {d : Nat} {h : ev_AH} {r : ev_O × ev_AH} {x5 : Int32} {w6 w7 w8 : Option Value} {j0 : Nat} (hL : hh_L h) (e0 : x5 = Int32.ofNat j0) (b0 : j0 < g.1.length) (z0 : g.1.length < 2147483648) (e : (g.1.getD j0 0) &&& 63 = 5) (k : tr_L g d m_law 569 [some (.ref 0), some (.ref 1000), some (.ref 1099), some (.ref 1109), some (.ref 1110), some (.int x5), w6, w7, w8] [] h r) : tr_L g d m_law 37 [some (.ref 0), some (.ref 1000), some (.ref 1099), some (.ref 1109), some (.ref 1110), some (.int x5), w6, w7, w8] [] h r := by
  refine tr_s (.aload_n 0) 1 38 [some (.ref 0), some (.ref 1000), some (.ref 1099), some (.ref 1109), some (.ref 1110), some (.int x5), w6, w7, w8] [.ref 0] h rfl rfl rfl ?_
  refine tr_s (.iload 5) 2 40 [some (.ref 0), some (.ref 1000), some (.ref 1099), some (.ref 1109), some (.ref 1110), some (.int x5), w6, w7, w8] [.int x5, .ref 0] h rfl rfl rfl ?_
  refine tr_ald .iaload 0 0 j0 x5 g.1 (Or.inl ⟨rfl, rfl⟩) rfl rfl e0 b0 z0 ?_
  refine tr_bi 63 63 (by decide) rfl ?_
  refine tr_s .iand 1 44 [some (.ref 0), some (.ref 1000), some (.ref 1099), some (.ref 1109), some (.ref 1110), some (.int x5), w6, w7, w8] [.int ((g.1.getD j0 0) &&& 63)] h rfl rfl rfl ?_
  exact tr_s (.tableswitch 2917 0 53 #[232, 330, 400, 413, 469, 525, 581, 649, 719, 775, 831, 887, 943, 999, 1055, 1123, 1191, 1247, 1317, 1375, 1447, 1505, 1549, 1593, 1637, 1709, 1781, 1825, 1890, 1948, 1961, 2005, 2049, 2062, 2075, 2131, 2144, 2157, 2170, 2226, 2291, 2357, 2370, 2426, 2482, 2538, 2596, 2640, 2684, 2728, 2772, 2816, 2860, 2873]) 232 569 [some (.ref 0), some (.ref 1000), some (.ref 1099), some (.ref 1109), some (.ref 1110), some (.int x5), w6, w7, w8] [] h rfl rfl (by rw [e]; rfl) k
theorem sg_law_37_t6 {g : tr_g} {d : Nat} {h : ev_AH} {r : ev_O × ev_AH} {x5 : Int32} {w6 w7 w8 : Option Value} {j0 : Nat} (hL : hh_L h) (e0 : x5 = Int32.ofNat j0) (b0 : j0 < g.1.length) (z0 : g.1.length < 2147483648) (e : (g.1.getD j0 0) &&& 63 = 6) (k : tr_L g d m_law 625 [some (.ref 0), some (.ref 1000), some (.ref 1099), some (.ref 1109), some (.ref 1110), some (.int x5), w6, w7, w8] [] h r) : tr_L g d m_law 37 [some (.ref 0), some (.ref 1000), some (.ref 1099), some (.ref 1109), some (.ref 1110), some (.int x5), w6, w7, w8] [] h r := by
  refine tr_s (.aload_n 0) 1 38 [some (.ref 0), some (.ref 1000), some (.ref 1099), some (.ref 1109), some (.ref 1110), some (.int x5), w6, w7, w8] [.ref 0] h rfl rfl rfl ?_
  refine tr_s (.iload 5) 2 40 [some (.ref 0), some (.ref 1000), some (.ref 1099), some (.ref 1109), some (.ref 1110), some (.int x5), w6, w7, w8] [.int x5, .ref 0] h rfl rfl rfl ?_
  refine tr_ald .iaload 0 0 j0 x5 g.1 (Or.inl ⟨rfl, rfl⟩) rfl rfl e0 b0 z0 ?_
  refine tr_bi 63 63 (by decide) rfl ?_
  refine tr_s .iand 1 44 [some (.ref 0), some (.ref 1000), some (.ref 1099), some (.ref 1109), some (.ref 1110), some (.int x5), w6, w7, w8] [.int ((g.1.getD j0 0) &&& 63)] h rfl rfl rfl ?_
  exact tr_s (.tableswitch 2917 0 53 #[232, 330, 400, 413, 469, 525, 581, 649, 719, 775, 831, 887, 943, 999, 1055, 1123, 1191, 1247, 1317, 1375, 1447, 1505, 1549, 1593, 1637, 1709, 1781, 1825, 1890, 1948, 1961, 2005, 2049, 2062, 2075, 2131, 2144, 2157, 2170, 2226, 2291, 2357, 2370, 2426, 2482, 2538, 2596, 2640, 2684, 2728, 2772, 2816, 2860, 2873]) 232 625 [some (.ref 0), some (.ref 1000), some (.ref 1099), some (.ref 1109), some (.ref 1110), some (.int x5), w6, w7, w8] [] h rfl rfl (by rw [e]; rfl) k
theorem sg_law_37_t7 {g : tr_g} {d : Nat} {h : ev_AH} {r : ev_O × ev_AH} {x5 : Int32} {w6 w7 w8 : Option Value} {j0 : Nat} (hL : hh_L h) (e0 : x5 = Int32.ofNat j0) (b0 : j0 < g.1.length) (z0 : g.1.length < 2147483648) (e : (g.1.getD j0 0) &&& 63 = 7) (k : tr_L g d m_law 693 [some (.ref 0), some (.ref 1000), some (.ref 1099), some (.ref 1109), some (.ref 1110), some (.int x5), w6, w7, w8] [] h r) : tr_L g d m_law 37 [some (.ref 0), some (.ref 1000), some (.ref 1099), some (.ref 1109), some (.ref 1110), some (.int x5), w6, w7, w8] [] h r := by
  refine tr_s (.aload_n 0) 1 38 [some (.ref 0), some (.ref 1000), some (.ref 1099), some (.ref 1109), some (.ref 1110), some (.int x5), w6, w7, w8] [.ref 0] h rfl rfl rfl ?_
  refine tr_s (.iload 5) 2 40 [some (.ref 0), some (.ref 1000), some (.ref 1099), some (.ref 1109), some (.ref 1110), some (.int x5), w6, w7, w8] [.int x5, .ref 0] h rfl rfl rfl ?_
  refine tr_ald .iaload 0 0 j0 x5 g.1 (Or.inl ⟨rfl, rfl⟩) rfl rfl e0 b0 z0 ?_
  refine tr_bi 63 63 (by decide) rfl ?_
  refine tr_s .iand 1 44 [some (.ref 0), some (.ref 1000), some (.ref 1099), some (.ref 1109), some (.ref 1110), some (.int x5), w6, w7, w8] [.int ((g.1.getD j0 0) &&& 63)] h rfl rfl rfl ?_
  exact tr_s (.tableswitch 2917 0 53 #[232, 330, 400, 413, 469, 525, 581, 649, 719, 775, 831, 887, 943, 999, 1055, 1123, 1191, 1247, 1317, 1375, 1447, 1505, 1549, 1593, 1637, 1709, 1781, 1825, 1890, 1948, 1961, 2005, 2049, 2062, 2075, 2131, 2144, 2157, 2170, 2226, 2291, 2357, 2370, 2426, 2482, 2538, 2596, 2640, 2684, 2728, 2772, 2816, 2860, 2873]) 232 693 [some (.ref 0), some (.ref 1000), some (.ref 1099), some (.ref 1109), some (.ref 1110), some (.int x5), w6, w7, w8] [] h rfl rfl (by rw [e]; rfl) k
theorem sg_law_37_t8 {g : tr_g} {d : Nat} {h : ev_AH} {r : ev_O × ev_AH} {x5 : Int32} {w6 w7 w8 : Option Value} {j0 : Nat} (hL : hh_L h) (e0 : x5 = Int32.ofNat j0) (b0 : j0 < g.1.length) (z0 : g.1.length < 2147483648) (e : (g.1.getD j0 0) &&& 63 = 8) (k : tr_L g d m_law 763 [some (.ref 0), some (.ref 1000), some (.ref 1099), some (.ref 1109), some (.ref 1110), some (.int x5), w6, w7, w8] [] h r) : tr_L g d m_law 37 [some (.ref 0), some (.ref 1000), some (.ref 1099), some (.ref 1109), some (.ref 1110), some (.int x5), w6, w7, w8] [] h r := by
  refine tr_s (.aload_n 0) 1 38 [some (.ref 0), some (.ref 1000), some (.ref 1099), some (.ref 1109), some (.ref 1110), some (.int x5), w6, w7, w8] [.ref 0] h rfl rfl rfl ?_
  refine tr_s (.iload 5) 2 40 [some (.ref 0), some (.ref 1000), some (.ref 1099), some (.ref 1109), some (.ref 1110), some (.int x5), w6, w7, w8] [.int x5, .ref 0] h rfl rfl rfl ?_
  refine tr_ald .iaload 0 0 j0 x5 g.1 (Or.inl ⟨rfl, rfl⟩) rfl rfl e0 b0 z0 ?_
  refine tr_bi 63 63 (by decide) rfl ?_
  refine tr_s .iand 1 44 [some (.ref 0), some (.ref 1000), some (.ref 1099), some (.ref 1109), some (.ref 1110), some (.int x5), w6, w7, w8] [.int ((g.1.getD j0 0) &&& 63)] h rfl rfl rfl ?_
  exact tr_s (.tableswitch 2917 0 53 #[232, 330, 400, 413, 469, 525, 581, 649, 719, 775, 831, 887, 943, 999, 1055, 1123, 1191, 1247, 1317, 1375, 1447, 1505, 1549, 1593, 1637, 1709, 1781, 1825, 1890, 1948, 1961, 2005, 2049, 2062, 2075, 2131, 2144, 2157, 2170, 2226, 2291, 2357, 2370, 2426, 2482, 2538, 2596, 2640, 2684, 2728, 2772, 2816, 2860, 2873]) 232 763 [some (.ref 0), some (.ref 1000), some (.ref 1099), some (.ref 1109), some (.ref 1110), some (.int x5), w6, w7, w8] [] h rfl rfl (by rw [e]; rfl) k
theorem sg_law_37_t9 {g : tr_g} {d : Nat} {h : ev_AH} {r : ev_O × ev_AH} {x5 : Int32} {w6 w7 w8 : Option Value} {j0 : Nat} (hL : hh_L h) (e0 : x5 = Int32.ofNat j0) (b0 : j0 < g.1.length) (z0 : g.1.length < 2147483648) (e : (g.1.getD j0 0) &&& 63 = 9) (k : tr_L g d m_law 819 [some (.ref 0), some (.ref 1000), some (.ref 1099), some (.ref 1109), some (.ref 1110), some (.int x5), w6, w7, w8] [] h r) : tr_L g d m_law 37 [some (.ref 0), some (.ref 1000), some (.ref 1099), some (.ref 1109), some (.ref 1110), some (.int x5), w6, w7, w8] [] h r := by
  refine tr_s (.aload_n 0) 1 38 [some (.ref 0), some (.ref 1000), some (.ref 1099), some (.ref 1109), some (.ref 1110), some (.int x5), w6, w7, w8] [.ref 0] h rfl rfl rfl ?_
  refine tr_s (.iload 5) 2 40 [some (.ref 0), some (.ref 1000), some (.ref 1099), some (.ref 1109), some (.ref 1110), some (.int x5), w6, w7, w8] [.int x5, .ref 0] h rfl rfl rfl ?_
  refine tr_ald .iaload 0 0 j0 x5 g.1 (Or.inl ⟨rfl, rfl⟩) rfl rfl e0 b0 z0 ?_
  refine tr_bi 63 63 (by decide) rfl ?_
  refine tr_s .iand 1 44 [some (.ref 0), some (.ref 1000), some (.ref 1099), some (.ref 1109), some (.ref 1110), some (.int x5), w6, w7, w8] [.int ((g.1.getD j0 0) &&& 63)] h rfl rfl rfl ?_
  exact tr_s (.tableswitch 2917 0 53 #[232, 330, 400, 413, 469, 525, 581, 649, 719, 775, 831, 887, 943, 999, 1055, 1123, 1191, 1247, 1317, 1375, 1447, 1505, 1549, 1593, 1637, 1709, 1781, 1825, 1890, 1948, 1961, 2005, 2049, 2062, 2075, 2131, 2144, 2157, 2170, 2226, 2291, 2357, 2370, 2426, 2482, 2538, 2596, 2640, 2684, 2728, 2772, 2816, 2860, 2873]) 232 819 [some (.ref 0), some (.ref 1000), some (.ref 1099), some (.ref 1109), some (.ref 1110), some (.int x5), w6, w7, w8] [] h rfl rfl (by rw [e]; rfl) k
theorem sg_law_37_t10 {g : tr_g} {d : Nat} {h : ev_AH} {r : ev_O × ev_AH} {x5 : Int32} {w6 w7 w8 : Option Value} {j0 : Nat} (hL : hh_L h) (e0 : x5 = Int32.ofNat j0) (b0 : j0 < g.1.length) (z0 : g.1.length < 2147483648) (e : (g.1.getD j0 0) &&& 63 = 10) (k : tr_L g d m_law 875 [some (.ref 0), some (.ref 1000), some (.ref 1099), some (.ref 1109), some (.ref 1110), some (.int x5), w6, w7, w8] [] h r) : tr_L g d m_law 37 [some (.ref 0), some (.ref 1000), some (.ref 1099), some (.ref 1109), some (.ref 1110), some (.int x5), w6, w7, w8] [] h r := by
  refine tr_s (.aload_n 0) 1 38 [some (.ref 0), some (.ref 1000), some (.ref 1099), some (.ref 1109), some (.ref 1110), some (.int x5), w6, w7, w8] [.ref 0] h rfl rfl rfl ?_
  refine tr_s (.iload 5) 2 40 [some (.ref 0), some (.ref 1000), some (.ref 1099), some (.ref 1109), some (.ref 1110), some (.int x5), w6, w7, w8] [.int x5, .ref 0] h rfl rfl rfl ?_
  refine tr_ald .iaload 0 0 j0 x5 g.1 (Or.inl ⟨rfl, rfl⟩) rfl rfl e0 b0 z0 ?_
  refine tr_bi 63 63 (by decide) rfl ?_
  refine tr_s .iand 1 44 [some (.ref 0), some (.ref 1000), some (.ref 1099), some (.ref 1109), some (.ref 1110), some (.int x5), w6, w7, w8] [.int ((g.1.getD j0 0) &&& 63)] h rfl rfl rfl ?_
  exact tr_s (.tableswitch 2917 0 53 #[232, 330, 400, 413, 469, 525, 581, 649, 719, 775, 831, 887, 943, 999, 1055, 1123, 1191, 1247, 1317, 1375, 1447, 1505, 1549, 1593, 1637, 1709, 1781, 1825, 1890, 1948, 1961, 2005, 2049, 2062, 2075, 2131, 2144, 2157, 2170, 2226, 2291, 2357, 2370, 2426, 2482, 2538, 2596, 2640, 2684, 2728, 2772, 2816, 2860, 2873]) 232 875 [some (.ref 0), some (.ref 1000), some (.ref 1099), some (.ref 1109), some (.ref 1110), some (.int x5), w6, w7, w8] [] h rfl rfl (by rw [e]; rfl) k
theorem sg_law_37_t11 {g : tr_g} {d : Nat} {h : ev_AH} {r : ev_O × ev_AH} {x5 : Int32} {w6 w7 w8 : Option Value} {j0 : Nat} (hL : hh_L h) (e0 : x5 = Int32.ofNat j0) (b0 : j0 < g.1.length) (z0 : g.1.length < 2147483648) (e : (g.1.getD j0 0) &&& 63 = 11) (k : tr_L g d m_law 931 [some (.ref 0), some (.ref 1000), some (.ref 1099), some (.ref 1109), some (.ref 1110), some (.int x5), w6, w7, w8] [] h r) : tr_L g d m_law 37 [some (.ref 0), some (.ref 1000), some (.ref 1099), some (.ref 1109), some (.ref 1110), some (.int x5), w6, w7, w8] [] h r := by
  refine tr_s (.aload_n 0) 1 38 [some (.ref 0), some (.ref 1000), some (.ref 1099), some (.ref 1109), some (.ref 1110), some (.int x5), w6, w7, w8] [.ref 0] h rfl rfl rfl ?_
  refine tr_s (.iload 5) 2 40 [some (.ref 0), some (.ref 1000), some (.ref 1099), some (.ref 1109), some (.ref 1110), some (.int x5), w6, w7, w8] [.int x5, .ref 0] h rfl rfl rfl ?_
  refine tr_ald .iaload 0 0 j0 x5 g.1 (Or.inl ⟨rfl, rfl⟩) rfl rfl e0 b0 z0 ?_
  refine tr_bi 63 63 (by decide) rfl ?_
  refine tr_s .iand 1 44 [some (.ref 0), some (.ref 1000), some (.ref 1099), some (.ref 1109), some (.ref 1110), some (.int x5), w6, w7, w8] [.int ((g.1.getD j0 0) &&& 63)] h rfl rfl rfl ?_
  exact tr_s (.tableswitch 2917 0 53 #[232, 330, 400, 413, 469, 525, 581, 649, 719, 775, 831, 887, 943, 999, 1055, 1123, 1191, 1247, 1317, 1375, 1447, 1505, 1549, 1593, 1637, 1709, 1781, 1825, 1890, 1948, 1961, 2005, 2049, 2062, 2075, 2131, 2144, 2157, 2170, 2226, 2291, 2357, 2370, 2426, 2482, 2538, 2596, 2640, 2684, 2728, 2772, 2816, 2860, 2873]) 232 931 [some (.ref 0), some (.ref 1000), some (.ref 1099), some (.ref 1109), some (.ref 1110), some (.int x5), w6, w7, w8] [] h rfl rfl (by rw [e]; rfl) k
theorem sg_law_37_t12 {g : tr_g} {d : Nat} {h : ev_AH} {r : ev_O × ev_AH} {x5 : Int32} {w6 w7 w8 : Option Value} {j0 : Nat} (hL : hh_L h) (e0 : x5 = Int32.ofNat j0) (b0 : j0 < g.1.length) (z0 : g.1.length < 2147483648) (e : (g.1.getD j0 0) &&& 63 = 12) (k : tr_L g d m_law 987 [some (.ref 0), some (.ref 1000), some (.ref 1099), some (.ref 1109), some (.ref 1110), some (.int x5), w6, w7, w8] [] h r) : tr_L g d m_law 37 [some (.ref 0), some (.ref 1000), some (.ref 1099), some (.ref 1109), some (.ref 1110), some (.int x5), w6, w7, w8] [] h r := by
  refine tr_s (.aload_n 0) 1 38 [some (.ref 0), some (.ref 1000), some (.ref 1099), some (.ref 1109), some (.ref 1110), some (.int x5), w6, w7, w8] [.ref 0] h rfl rfl rfl ?_
  refine tr_s (.iload 5) 2 40 [some (.ref 0), some (.ref 1000), some (.ref 1099), some (.ref 1109), some (.ref 1110), some (.int x5), w6, w7, w8] [.int x5, .ref 0] h rfl rfl rfl ?_
  refine tr_ald .iaload 0 0 j0 x5 g.1 (Or.inl ⟨rfl, rfl⟩) rfl rfl e0 b0 z0 ?_
  refine tr_bi 63 63 (by decide) rfl ?_
  refine tr_s .iand 1 44 [some (.ref 0), some (.ref 1000), some (.ref 1099), some (.ref 1109), some (.ref 1110), some (.int x5), w6, w7, w8] [.int ((g.1.getD j0 0) &&& 63)] h rfl rfl rfl ?_
  exact tr_s (.tableswitch 2917 0 53 #[232, 330, 400, 413, 469, 525, 581, 649, 719, 775, 831, 887, 943, 999, 1055, 1123, 1191, 1247, 1317, 1375, 1447, 1505, 1549, 1593, 1637, 1709, 1781, 1825, 1890, 1948, 1961, 2005, 2049, 2062, 2075, 2131, 2144, 2157, 2170, 2226, 2291, 2357, 2370, 2426, 2482, 2538, 2596, 2640, 2684, 2728, 2772, 2816, 2860, 2873]) 232 987 [some (.ref 0), some (.ref 1000), some (.ref 1099), some (.ref 1109), some (.ref 1110), some (.int x5), w6, w7, w8] [] h rfl rfl (by rw [e]; rfl) k
theorem sg_law_37_t13 {g : tr_g} {d : Nat} {h : ev_AH} {r : ev_O × ev_AH} {x5 : Int32} {w6 w7 w8 : Option Value} {j0 : Nat} (hL : hh_L h) (e0 : x5 = Int32.ofNat j0) (b0 : j0 < g.1.length) (z0 : g.1.length < 2147483648) (e : (g.1.getD j0 0) &&& 63 = 13) (k : tr_L g d m_law 1043 [some (.ref 0), some (.ref 1000), some (.ref 1099), some (.ref 1109), some (.ref 1110), some (.int x5), w6, w7, w8] [] h r) : tr_L g d m_law 37 [some (.ref 0), some (.ref 1000), some (.ref 1099), some (.ref 1109), some (.ref 1110), some (.int x5), w6, w7, w8] [] h r := by
  refine tr_s (.aload_n 0) 1 38 [some (.ref 0), some (.ref 1000), some (.ref 1099), some (.ref 1109), some (.ref 1110), some (.int x5), w6, w7, w8] [.ref 0] h rfl rfl rfl ?_
  refine tr_s (.iload 5) 2 40 [some (.ref 0), some (.ref 1000), some (.ref 1099), some (.ref 1109), some (.ref 1110), some (.int x5), w6, w7, w8] [.int x5, .ref 0] h rfl rfl rfl ?_
  refine tr_ald .iaload 0 0 j0 x5 g.1 (Or.inl ⟨rfl, rfl⟩) rfl rfl e0 b0 z0 ?_
  refine tr_bi 63 63 (by decide) rfl ?_
  refine tr_s .iand 1 44 [some (.ref 0), some (.ref 1000), some (.ref 1099), some (.ref 1109), some (.ref 1110), some (.int x5), w6, w7, w8] [.int ((g.1.getD j0 0) &&& 63)] h rfl rfl rfl ?_
  exact tr_s (.tableswitch 2917 0 53 #[232, 330, 400, 413, 469, 525, 581, 649, 719, 775, 831, 887, 943, 999, 1055, 1123, 1191, 1247, 1317, 1375, 1447, 1505, 1549, 1593, 1637, 1709, 1781, 1825, 1890, 1948, 1961, 2005, 2049, 2062, 2075, 2131, 2144, 2157, 2170, 2226, 2291, 2357, 2370, 2426, 2482, 2538, 2596, 2640, 2684, 2728, 2772, 2816, 2860, 2873]) 232 1043 [some (.ref 0), some (.ref 1000), some (.ref 1099), some (.ref 1109), some (.ref 1110), some (.int x5), w6, w7, w8] [] h rfl rfl (by rw [e]; rfl) k
theorem sg_law_37_t14 {g : tr_g} {d : Nat} {h : ev_AH} {r : ev_O × ev_AH} {x5 : Int32} {w6 w7 w8 : Option Value} {j0 : Nat} (hL : hh_L h) (e0 : x5 = Int32.ofNat j0) (b0 : j0 < g.1.length) (z0 : g.1.length < 2147483648) (e : (g.1.getD j0 0) &&& 63 = 14) (k : tr_L g d m_law 1099 [some (.ref 0), some (.ref 1000), some (.ref 1099), some (.ref 1109), some (.ref 1110), some (.int x5), w6, w7, w8] [] h r) : tr_L g d m_law 37 [some (.ref 0), some (.ref 1000), some (.ref 1099), some (.ref 1109), some (.ref 1110), some (.int x5), w6, w7, w8] [] h r := by
  refine tr_s (.aload_n 0) 1 38 [some (.ref 0), some (.ref 1000), some (.ref 1099), some (.ref 1109), some (.ref 1110), some (.int x5), w6, w7, w8] [.ref 0] h rfl rfl rfl ?_
  refine tr_s (.iload 5) 2 40 [some (.ref 0), some (.ref 1000), some (.ref 1099), some (.ref 1109), some (.ref 1110), some (.int x5), w6, w7, w8] [.int x5, .ref 0] h rfl rfl rfl ?_
  refine tr_ald .iaload 0 0 j0 x5 g.1 (Or.inl ⟨rfl, rfl⟩) rfl rfl e0 b0 z0 ?_
  refine tr_bi 63 63 (by decide) rfl ?_
  refine tr_s .iand 1 44 [some (.ref 0), some (.ref 1000), some (.ref 1099), some (.ref 1109), some (.ref 1110), some (.int x5), w6, w7, w8] [.int ((g.1.getD j0 0) &&& 63)] h rfl rfl rfl ?_
  exact tr_s (.tableswitch 2917 0 53 #[232, 330, 400, 413, 469, 525, 581, 649, 719, 775, 831, 887, 943, 999, 1055, 1123, 1191, 1247, 1317, 1375, 1447, 1505, 1549, 1593, 1637, 1709, 1781, 1825, 1890, 1948, 1961, 2005, 2049, 2062, 2075, 2131, 2144, 2157, 2170, 2226, 2291, 2357, 2370, 2426, 2482, 2538, 2596, 2640, 2684, 2728, 2772, 2816, 2860, 2873]) 232 1099 [some (.ref 0), some (.ref 1000), some (.ref 1099), some (.ref 1109), some (.ref 1110), some (.int x5), w6, w7, w8] [] h rfl rfl (by rw [e]; rfl) k
theorem sg_law_37_t15 {g : tr_g} {d : Nat} {h : ev_AH} {r : ev_O × ev_AH} {x5 : Int32} {w6 w7 w8 : Option Value} {j0 : Nat} (hL : hh_L h) (e0 : x5 = Int32.ofNat j0) (b0 : j0 < g.1.length) (z0 : g.1.length < 2147483648) (e : (g.1.getD j0 0) &&& 63 = 15) (k : tr_L g d m_law 1167 [some (.ref 0), some (.ref 1000), some (.ref 1099), some (.ref 1109), some (.ref 1110), some (.int x5), w6, w7, w8] [] h r) : tr_L g d m_law 37 [some (.ref 0), some (.ref 1000), some (.ref 1099), some (.ref 1109), some (.ref 1110), some (.int x5), w6, w7, w8] [] h r := by
  refine tr_s (.aload_n 0) 1 38 [some (.ref 0), some (.ref 1000), some (.ref 1099), some (.ref 1109), some (.ref 1110), some (.int x5), w6, w7, w8] [.ref 0] h rfl rfl rfl ?_
  refine tr_s (.iload 5) 2 40 [some (.ref 0), some (.ref 1000), some (.ref 1099), some (.ref 1109), some (.ref 1110), some (.int x5), w6, w7, w8] [.int x5, .ref 0] h rfl rfl rfl ?_
  refine tr_ald .iaload 0 0 j0 x5 g.1 (Or.inl ⟨rfl, rfl⟩) rfl rfl e0 b0 z0 ?_
  refine tr_bi 63 63 (by decide) rfl ?_
  refine tr_s .iand 1 44 [some (.ref 0), some (.ref 1000), some (.ref 1099), some (.ref 1109), some (.ref 1110), some (.int x5), w6, w7, w8] [.int ((g.1.getD j0 0) &&& 63)] h rfl rfl rfl ?_
  exact tr_s (.tableswitch 2917 0 53 #[232, 330, 400, 413, 469, 525, 581, 649, 719, 775, 831, 887, 943, 999, 1055, 1123, 1191, 1247, 1317, 1375, 1447, 1505, 1549, 1593, 1637, 1709, 1781, 1825, 1890, 1948, 1961, 2005, 2049, 2062, 2075, 2131, 2144, 2157, 2170, 2226, 2291, 2357, 2370, 2426, 2482, 2538, 2596, 2640, 2684, 2728, 2772, 2816, 2860, 2873]) 232 1167 [some (.ref 0), some (.ref 1000), some (.ref 1099), some (.ref 1109), some (.ref 1110), some (.int x5), w6, w7, w8] [] h rfl rfl (by rw [e]; rfl) k
theorem sg_law_37_t16 {g : tr_g} {d : Nat} {h : ev_AH} {r : ev_O × ev_AH} {x5 : Int32} {w6 w7 w8 : Option Value} {j0 : Nat} (hL : hh_L h) (e0 : x5 = Int32.ofNat j0) (b0 : j0 < g.1.length) (z0 : g.1.length < 2147483648) (e : (g.1.getD j0 0) &&& 63 = 16) (k : tr_L g d m_law 1235 [some (.ref 0), some (.ref 1000), some (.ref 1099), some (.ref 1109), some (.ref 1110), some (.int x5), w6, w7, w8] [] h r) : tr_L g d m_law 37 [some (.ref 0), some (.ref 1000), some (.ref 1099), some (.ref 1109), some (.ref 1110), some (.int x5), w6, w7, w8] [] h r := by
  refine tr_s (.aload_n 0) 1 38 [some (.ref 0), some (.ref 1000), some (.ref 1099), some (.ref 1109), some (.ref 1110), some (.int x5), w6, w7, w8] [.ref 0] h rfl rfl rfl ?_
  refine tr_s (.iload 5) 2 40 [some (.ref 0), some (.ref 1000), some (.ref 1099), some (.ref 1109), some (.ref 1110), some (.int x5), w6, w7, w8] [.int x5, .ref 0] h rfl rfl rfl ?_
  refine tr_ald .iaload 0 0 j0 x5 g.1 (Or.inl ⟨rfl, rfl⟩) rfl rfl e0 b0 z0 ?_
  refine tr_bi 63 63 (by decide) rfl ?_
  refine tr_s .iand 1 44 [some (.ref 0), some (.ref 1000), some (.ref 1099), some (.ref 1109), some (.ref 1110), some (.int x5), w6, w7, w8] [.int ((g.1.getD j0 0) &&& 63)] h rfl rfl rfl ?_
  exact tr_s (.tableswitch 2917 0 53 #[232, 330, 400, 413, 469, 525, 581, 649, 719, 775, 831, 887, 943, 999, 1055, 1123, 1191, 1247, 1317, 1375, 1447, 1505, 1549, 1593, 1637, 1709, 1781, 1825, 1890, 1948, 1961, 2005, 2049, 2062, 2075, 2131, 2144, 2157, 2170, 2226, 2291, 2357, 2370, 2426, 2482, 2538, 2596, 2640, 2684, 2728, 2772, 2816, 2860, 2873]) 232 1235 [some (.ref 0), some (.ref 1000), some (.ref 1099), some (.ref 1109), some (.ref 1110), some (.int x5), w6, w7, w8] [] h rfl rfl (by rw [e]; rfl) k
theorem sg_law_37_t17 {g : tr_g} {d : Nat} {h : ev_AH} {r : ev_O × ev_AH} {x5 : Int32} {w6 w7 w8 : Option Value} {j0 : Nat} (hL : hh_L h) (e0 : x5 = Int32.ofNat j0) (b0 : j0 < g.1.length) (z0 : g.1.length < 2147483648) (e : (g.1.getD j0 0) &&& 63 = 17) (k : tr_L g d m_law 1291 [some (.ref 0), some (.ref 1000), some (.ref 1099), some (.ref 1109), some (.ref 1110), some (.int x5), w6, w7, w8] [] h r) : tr_L g d m_law 37 [some (.ref 0), some (.ref 1000), some (.ref 1099), some (.ref 1109), some (.ref 1110), some (.int x5), w6, w7, w8] [] h r := by
  refine tr_s (.aload_n 0) 1 38 [some (.ref 0), some (.ref 1000), some (.ref 1099), some (.ref 1109), some (.ref 1110), some (.int x5), w6, w7, w8] [.ref 0] h rfl rfl rfl ?_
  refine tr_s (.iload 5) 2 40 [some (.ref 0), some (.ref 1000), some (.ref 1099), some (.ref 1109), some (.ref 1110), some (.int x5), w6, w7, w8] [.int x5, .ref 0] h rfl rfl rfl ?_
  refine tr_ald .iaload 0 0 j0 x5 g.1 (Or.inl ⟨rfl, rfl⟩) rfl rfl e0 b0 z0 ?_
  refine tr_bi 63 63 (by decide) rfl ?_
  refine tr_s .iand 1 44 [some (.ref 0), some (.ref 1000), some (.ref 1099), some (.ref 1109), some (.ref 1110), some (.int x5), w6, w7, w8] [.int ((g.1.getD j0 0) &&& 63)] h rfl rfl rfl ?_
  exact tr_s (.tableswitch 2917 0 53 #[232, 330, 400, 413, 469, 525, 581, 649, 719, 775, 831, 887, 943, 999, 1055, 1123, 1191, 1247, 1317, 1375, 1447, 1505, 1549, 1593, 1637, 1709, 1781, 1825, 1890, 1948, 1961, 2005, 2049, 2062, 2075, 2131, 2144, 2157, 2170, 2226, 2291, 2357, 2370, 2426, 2482, 2538, 2596, 2640, 2684, 2728, 2772, 2816, 2860, 2873]) 232 1291 [some (.ref 0), some (.ref 1000), some (.ref 1099), some (.ref 1109), some (.ref 1110), some (.int x5), w6, w7, w8] [] h rfl rfl (by rw [e]; rfl) k
theorem sg_law_37_t18 {g : tr_g} {d : Nat} {h : ev_AH} {r : ev_O × ev_AH} {x5 : Int32} {w6 w7 w8 : Option Value} {j0 : Nat} (hL : hh_L h) (e0 : x5 = Int32.ofNat j0) (b0 : j0 < g.1.length) (z0 : g.1.length < 2147483648) (e : (g.1.getD j0 0) &&& 63 = 18) (k : tr_L g d m_law 1361 [some (.ref 0), some (.ref 1000), some (.ref 1099), some (.ref 1109), some (.ref 1110), some (.int x5), w6, w7, w8] [] h r) : tr_L g d m_law 37 [some (.ref 0), some (.ref 1000), some (.ref 1099), some (.ref 1109), some (.ref 1110), some (.int x5), w6, w7, w8] [] h r := by
  refine tr_s (.aload_n 0) 1 38 [some (.ref 0), some (.ref 1000), some (.ref 1099), some (.ref 1109), some (.ref 1110), some (.int x5), w6, w7, w8] [.ref 0] h rfl rfl rfl ?_
  refine tr_s (.iload 5) 2 40 [some (.ref 0), some (.ref 1000), some (.ref 1099), some (.ref 1109), some (.ref 1110), some (.int x5), w6, w7, w8] [.int x5, .ref 0] h rfl rfl rfl ?_
  refine tr_ald .iaload 0 0 j0 x5 g.1 (Or.inl ⟨rfl, rfl⟩) rfl rfl e0 b0 z0 ?_
  refine tr_bi 63 63 (by decide) rfl ?_
  refine tr_s .iand 1 44 [some (.ref 0), some (.ref 1000), some (.ref 1099), some (.ref 1109), some (.ref 1110), some (.int x5), w6, w7, w8] [.int ((g.1.getD j0 0) &&& 63)] h rfl rfl rfl ?_
  exact tr_s (.tableswitch 2917 0 53 #[232, 330, 400, 413, 469, 525, 581, 649, 719, 775, 831, 887, 943, 999, 1055, 1123, 1191, 1247, 1317, 1375, 1447, 1505, 1549, 1593, 1637, 1709, 1781, 1825, 1890, 1948, 1961, 2005, 2049, 2062, 2075, 2131, 2144, 2157, 2170, 2226, 2291, 2357, 2370, 2426, 2482, 2538, 2596, 2640, 2684, 2728, 2772, 2816, 2860, 2873]) 232 1361 [some (.ref 0), some (.ref 1000), some (.ref 1099), some (.ref 1109), some (.ref 1110), some (.int x5), w6, w7, w8] [] h rfl rfl (by rw [e]; rfl) k
theorem sg_law_37_t19 {g : tr_g} {d : Nat} {h : ev_AH} {r : ev_O × ev_AH} {x5 : Int32} {w6 w7 w8 : Option Value} {j0 : Nat} (hL : hh_L h) (e0 : x5 = Int32.ofNat j0) (b0 : j0 < g.1.length) (z0 : g.1.length < 2147483648) (e : (g.1.getD j0 0) &&& 63 = 19) (k : tr_L g d m_law 1419 [some (.ref 0), some (.ref 1000), some (.ref 1099), some (.ref 1109), some (.ref 1110), some (.int x5), w6, w7, w8] [] h r) : tr_L g d m_law 37 [some (.ref 0), some (.ref 1000), some (.ref 1099), some (.ref 1109), some (.ref 1110), some (.int x5), w6, w7, w8] [] h r := by
  refine tr_s (.aload_n 0) 1 38 [some (.ref 0), some (.ref 1000), some (.ref 1099), some (.ref 1109), some (.ref 1110), some (.int x5), w6, w7, w8] [.ref 0] h rfl rfl rfl ?_
  refine tr_s (.iload 5) 2 40 [some (.ref 0), some (.ref 1000), some (.ref 1099), some (.ref 1109), some (.ref 1110), some (.int x5), w6, w7, w8] [.int x5, .ref 0] h rfl rfl rfl ?_
  refine tr_ald .iaload 0 0 j0 x5 g.1 (Or.inl ⟨rfl, rfl⟩) rfl rfl e0 b0 z0 ?_
  refine tr_bi 63 63 (by decide) rfl ?_
  refine tr_s .iand 1 44 [some (.ref 0), some (.ref 1000), some (.ref 1099), some (.ref 1109), some (.ref 1110), some (.int x5), w6, w7, w8] [.int ((g.1.getD j0 0) &&& 63)] h rfl rfl rfl ?_
  exact tr_s (.tableswitch 2917 0 53 #[232, 330, 400, 413, 469, 525, 581, 649, 719, 775, 831, 887, 943, 999, 1055, 1123, 1191, 1247, 1317, 1375, 1447, 1505, 1549, 1593, 1637, 1709, 1781, 1825, 1890, 1948, 1961, 2005, 2049, 2062, 2075, 2131, 2144, 2157, 2170, 2226, 2291, 2357, 2370, 2426, 2482, 2538, 2596, 2640, 2684, 2728, 2772, 2816, 2860, 2873]) 232 1419 [some (.ref 0), some (.ref 1000), some (.ref 1099), some (.ref 1109), some (.ref 1110), some (.int x5), w6, w7, w8] [] h rfl rfl (by rw [e]; rfl) k
theorem sg_law_37_t20 {g : tr_g} {d : Nat} {h : ev_AH} {r : ev_O × ev_AH} {x5 : Int32} {w6 w7 w8 : Option Value} {j0 : Nat} (hL : hh_L h) (e0 : x5 = Int32.ofNat j0) (b0 : j0 < g.1.length) (z0 : g.1.length < 2147483648) (e : (g.1.getD j0 0) &&& 63 = 20) (k : tr_L g d m_law 1491 [some (.ref 0), some (.ref 1000), some (.ref 1099), some (.ref 1109), some (.ref 1110), some (.int x5), w6, w7, w8] [] h r) : tr_L g d m_law 37 [some (.ref 0), some (.ref 1000), some (.ref 1099), some (.ref 1109), some (.ref 1110), some (.int x5), w6, w7, w8] [] h r := by
  refine tr_s (.aload_n 0) 1 38 [some (.ref 0), some (.ref 1000), some (.ref 1099), some (.ref 1109), some (.ref 1110), some (.int x5), w6, w7, w8] [.ref 0] h rfl rfl rfl ?_
  refine tr_s (.iload 5) 2 40 [some (.ref 0), some (.ref 1000), some (.ref 1099), some (.ref 1109), some (.ref 1110), some (.int x5), w6, w7, w8] [.int x5, .ref 0] h rfl rfl rfl ?_
  refine tr_ald .iaload 0 0 j0 x5 g.1 (Or.inl ⟨rfl, rfl⟩) rfl rfl e0 b0 z0 ?_
  refine tr_bi 63 63 (by decide) rfl ?_
  refine tr_s .iand 1 44 [some (.ref 0), some (.ref 1000), some (.ref 1099), some (.ref 1109), some (.ref 1110), some (.int x5), w6, w7, w8] [.int ((g.1.getD j0 0) &&& 63)] h rfl rfl rfl ?_
  exact tr_s (.tableswitch 2917 0 53 #[232, 330, 400, 413, 469, 525, 581, 649, 719, 775, 831, 887, 943, 999, 1055, 1123, 1191, 1247, 1317, 1375, 1447, 1505, 1549, 1593, 1637, 1709, 1781, 1825, 1890, 1948, 1961, 2005, 2049, 2062, 2075, 2131, 2144, 2157, 2170, 2226, 2291, 2357, 2370, 2426, 2482, 2538, 2596, 2640, 2684, 2728, 2772, 2816, 2860, 2873]) 232 1491 [some (.ref 0), some (.ref 1000), some (.ref 1099), some (.ref 1109), some (.ref 1110), some (.int x5), w6, w7, w8] [] h rfl rfl (by rw [e]; rfl) k
theorem sg_law_37_t21 {g : tr_g} {d : Nat} {h : ev_AH} {r : ev_O × ev_AH} {x5 : Int32} {w6 w7 w8 : Option Value} {j0 : Nat} (hL : hh_L h) (e0 : x5 = Int32.ofNat j0) (b0 : j0 < g.1.length) (z0 : g.1.length < 2147483648) (e : (g.1.getD j0 0) &&& 63 = 21) (k : tr_L g d m_law 1549 [some (.ref 0), some (.ref 1000), some (.ref 1099), some (.ref 1109), some (.ref 1110), some (.int x5), w6, w7, w8] [] h r) : tr_L g d m_law 37 [some (.ref 0), some (.ref 1000), some (.ref 1099), some (.ref 1109), some (.ref 1110), some (.int x5), w6, w7, w8] [] h r := by
  refine tr_s (.aload_n 0) 1 38 [some (.ref 0), some (.ref 1000), some (.ref 1099), some (.ref 1109), some (.ref 1110), some (.int x5), w6, w7, w8] [.ref 0] h rfl rfl rfl ?_
  refine tr_s (.iload 5) 2 40 [some (.ref 0), some (.ref 1000), some (.ref 1099), some (.ref 1109), some (.ref 1110), some (.int x5), w6, w7, w8] [.int x5, .ref 0] h rfl rfl rfl ?_
  refine tr_ald .iaload 0 0 j0 x5 g.1 (Or.inl ⟨rfl, rfl⟩) rfl rfl e0 b0 z0 ?_
  refine tr_bi 63 63 (by decide) rfl ?_
  refine tr_s .iand 1 44 [some (.ref 0), some (.ref 1000), some (.ref 1099), some (.ref 1109), some (.ref 1110), some (.int x5), w6, w7, w8] [.int ((g.1.getD j0 0) &&& 63)] h rfl rfl rfl ?_
  exact tr_s (.tableswitch 2917 0 53 #[232, 330, 400, 413, 469, 525, 581, 649, 719, 775, 831, 887, 943, 999, 1055, 1123, 1191, 1247, 1317, 1375, 1447, 1505, 1549, 1593, 1637, 1709, 1781, 1825, 1890, 1948, 1961, 2005, 2049, 2062, 2075, 2131, 2144, 2157, 2170, 2226, 2291, 2357, 2370, 2426, 2482, 2538, 2596, 2640, 2684, 2728, 2772, 2816, 2860, 2873]) 232 1549 [some (.ref 0), some (.ref 1000), some (.ref 1099), some (.ref 1109), some (.ref 1110), some (.int x5), w6, w7, w8] [] h rfl rfl (by rw [e]; rfl) k
theorem sg_law_37_t22 {g : tr_g} {d : Nat} {h : ev_AH} {r : ev_O × ev_AH} {x5 : Int32} {w6 w7 w8 : Option Value} {j0 : Nat} (hL : hh_L h) (e0 : x5 = Int32.ofNat j0) (b0 : j0 < g.1.length) (z0 : g.1.length < 2147483648) (e : (g.1.getD j0 0) &&& 63 = 22) (k : tr_L g d m_law 1593 [some (.ref 0), some (.ref 1000), some (.ref 1099), some (.ref 1109), some (.ref 1110), some (.int x5), w6, w7, w8] [] h r) : tr_L g d m_law 37 [some (.ref 0), some (.ref 1000), some (.ref 1099), some (.ref 1109), some (.ref 1110), some (.int x5), w6, w7, w8] [] h r := by
  refine tr_s (.aload_n 0) 1 38 [some (.ref 0), some (.ref 1000), some (.ref 1099), some (.ref 1109), some (.ref 1110), some (.int x5), w6, w7, w8] [.ref 0] h rfl rfl rfl ?_
  refine tr_s (.iload 5) 2 40 [some (.ref 0), some (.ref 1000), some (.ref 1099), some (.ref 1109), some (.ref 1110), some (.int x5), w6, w7, w8] [.int x5, .ref 0] h rfl rfl rfl ?_
  refine tr_ald .iaload 0 0 j0 x5 g.1 (Or.inl ⟨rfl, rfl⟩) rfl rfl e0 b0 z0 ?_
  refine tr_bi 63 63 (by decide) rfl ?_
  refine tr_s .iand 1 44 [some (.ref 0), some (.ref 1000), some (.ref 1099), some (.ref 1109), some (.ref 1110), some (.int x5), w6, w7, w8] [.int ((g.1.getD j0 0) &&& 63)] h rfl rfl rfl ?_
  exact tr_s (.tableswitch 2917 0 53 #[232, 330, 400, 413, 469, 525, 581, 649, 719, 775, 831, 887, 943, 999, 1055, 1123, 1191, 1247, 1317, 1375, 1447, 1505, 1549, 1593, 1637, 1709, 1781, 1825, 1890, 1948, 1961, 2005, 2049, 2062, 2075, 2131, 2144, 2157, 2170, 2226, 2291, 2357, 2370, 2426, 2482, 2538, 2596, 2640, 2684, 2728, 2772, 2816, 2860, 2873]) 232 1593 [some (.ref 0), some (.ref 1000), some (.ref 1099), some (.ref 1109), some (.ref 1110), some (.int x5), w6, w7, w8] [] h rfl rfl (by rw [e]; rfl) k
theorem sg_law_37_t23 {g : tr_g} {d : Nat} {h : ev_AH} {r : ev_O × ev_AH} {x5 : Int32} {w6 w7 w8 : Option Value} {j0 : Nat} (hL : hh_L h) (e0 : x5 = Int32.ofNat j0) (b0 : j0 < g.1.length) (z0 : g.1.length < 2147483648) (e : (g.1.getD j0 0) &&& 63 = 23) (k : tr_L g d m_law 1637 [some (.ref 0), some (.ref 1000), some (.ref 1099), some (.ref 1109), some (.ref 1110), some (.int x5), w6, w7, w8] [] h r) : tr_L g d m_law 37 [some (.ref 0), some (.ref 1000), some (.ref 1099), some (.ref 1109), some (.ref 1110), some (.int x5), w6, w7, w8] [] h r := by
  refine tr_s (.aload_n 0) 1 38 [some (.ref 0), some (.ref 1000), some (.ref 1099), some (.ref 1109), some (.ref 1110), some (.int x5), w6, w7, w8] [.ref 0] h rfl rfl rfl ?_
  refine tr_s (.iload 5) 2 40 [some (.ref 0), some (.ref 1000), some (.ref 1099), some (.ref 1109), some (.ref 1110), some (.int x5), w6, w7, w8] [.int x5, .ref 0] h rfl rfl rfl ?_
  refine tr_ald .iaload 0 0 j0 x5 g.1 (Or.inl ⟨rfl, rfl⟩) rfl rfl e0 b0 z0 ?_
  refine tr_bi 63 63 (by decide) rfl ?_
  refine tr_s .iand 1 44 [some (.ref 0), some (.ref 1000), some (.ref 1099), some (.ref 1109), some (.ref 1110), some (.int x5), w6, w7, w8] [.int ((g.1.getD j0 0) &&& 63)] h rfl rfl rfl ?_
  exact tr_s (.tableswitch 2917 0 53 #[232, 330, 400, 413, 469, 525, 581, 649, 719, 775, 831, 887, 943, 999, 1055, 1123, 1191, 1247, 1317, 1375, 1447, 1505, 1549, 1593, 1637, 1709, 1781, 1825, 1890, 1948, 1961, 2005, 2049, 2062, 2075, 2131, 2144, 2157, 2170, 2226, 2291, 2357, 2370, 2426, 2482, 2538, 2596, 2640, 2684, 2728, 2772, 2816, 2860, 2873]) 232 1637 [some (.ref 0), some (.ref 1000), some (.ref 1099), some (.ref 1109), some (.ref 1110), some (.int x5), w6, w7, w8] [] h rfl rfl (by rw [e]; rfl) k
theorem sg_law_37_t24 {g : tr_g} {d : Nat} {h : ev_AH} {r : ev_O × ev_AH} {x5 : Int32} {w6 w7 w8 : Option Value} {j0 : Nat} (hL : hh_L h) (e0 : x5 = Int32.ofNat j0) (b0 : j0 < g.1.length) (z0 : g.1.length < 2147483648) (e : (g.1.getD j0 0) &&& 63 = 24) (k : tr_L g d m_law 1681 [some (.ref 0), some (.ref 1000), some (.ref 1099), some (.ref 1109), some (.ref 1110), some (.int x5), w6, w7, w8] [] h r) : tr_L g d m_law 37 [some (.ref 0), some (.ref 1000), some (.ref 1099), some (.ref 1109), some (.ref 1110), some (.int x5), w6, w7, w8] [] h r := by
  refine tr_s (.aload_n 0) 1 38 [some (.ref 0), some (.ref 1000), some (.ref 1099), some (.ref 1109), some (.ref 1110), some (.int x5), w6, w7, w8] [.ref 0] h rfl rfl rfl ?_
  refine tr_s (.iload 5) 2 40 [some (.ref 0), some (.ref 1000), some (.ref 1099), some (.ref 1109), some (.ref 1110), some (.int x5), w6, w7, w8] [.int x5, .ref 0] h rfl rfl rfl ?_
  refine tr_ald .iaload 0 0 j0 x5 g.1 (Or.inl ⟨rfl, rfl⟩) rfl rfl e0 b0 z0 ?_
  refine tr_bi 63 63 (by decide) rfl ?_
  refine tr_s .iand 1 44 [some (.ref 0), some (.ref 1000), some (.ref 1099), some (.ref 1109), some (.ref 1110), some (.int x5), w6, w7, w8] [.int ((g.1.getD j0 0) &&& 63)] h rfl rfl rfl ?_
  exact tr_s (.tableswitch 2917 0 53 #[232, 330, 400, 413, 469, 525, 581, 649, 719, 775, 831, 887, 943, 999, 1055, 1123, 1191, 1247, 1317, 1375, 1447, 1505, 1549, 1593, 1637, 1709, 1781, 1825, 1890, 1948, 1961, 2005, 2049, 2062, 2075, 2131, 2144, 2157, 2170, 2226, 2291, 2357, 2370, 2426, 2482, 2538, 2596, 2640, 2684, 2728, 2772, 2816, 2860, 2873]) 232 1681 [some (.ref 0), some (.ref 1000), some (.ref 1099), some (.ref 1109), some (.ref 1110), some (.int x5), w6, w7, w8] [] h rfl rfl (by rw [e]; rfl) k
theorem sg_law_37_t25 {g : tr_g} {d : Nat} {h : ev_AH} {r : ev_O × ev_AH} {x5 : Int32} {w6 w7 w8 : Option Value} {j0 : Nat} (hL : hh_L h) (e0 : x5 = Int32.ofNat j0) (b0 : j0 < g.1.length) (z0 : g.1.length < 2147483648) (e : (g.1.getD j0 0) &&& 63 = 25) (k : tr_L g d m_law 1753 [some (.ref 0), some (.ref 1000), some (.ref 1099), some (.ref 1109), some (.ref 1110), some (.int x5), w6, w7, w8] [] h r) : tr_L g d m_law 37 [some (.ref 0), some (.ref 1000), some (.ref 1099), some (.ref 1109), some (.ref 1110), some (.int x5), w6, w7, w8] [] h r := by
  refine tr_s (.aload_n 0) 1 38 [some (.ref 0), some (.ref 1000), some (.ref 1099), some (.ref 1109), some (.ref 1110), some (.int x5), w6, w7, w8] [.ref 0] h rfl rfl rfl ?_
  refine tr_s (.iload 5) 2 40 [some (.ref 0), some (.ref 1000), some (.ref 1099), some (.ref 1109), some (.ref 1110), some (.int x5), w6, w7, w8] [.int x5, .ref 0] h rfl rfl rfl ?_
  refine tr_ald .iaload 0 0 j0 x5 g.1 (Or.inl ⟨rfl, rfl⟩) rfl rfl e0 b0 z0 ?_
  refine tr_bi 63 63 (by decide) rfl ?_
  refine tr_s .iand 1 44 [some (.ref 0), some (.ref 1000), some (.ref 1099), some (.ref 1109), some (.ref 1110), some (.int x5), w6, w7, w8] [.int ((g.1.getD j0 0) &&& 63)] h rfl rfl rfl ?_
  exact tr_s (.tableswitch 2917 0 53 #[232, 330, 400, 413, 469, 525, 581, 649, 719, 775, 831, 887, 943, 999, 1055, 1123, 1191, 1247, 1317, 1375, 1447, 1505, 1549, 1593, 1637, 1709, 1781, 1825, 1890, 1948, 1961, 2005, 2049, 2062, 2075, 2131, 2144, 2157, 2170, 2226, 2291, 2357, 2370, 2426, 2482, 2538, 2596, 2640, 2684, 2728, 2772, 2816, 2860, 2873]) 232 1753 [some (.ref 0), some (.ref 1000), some (.ref 1099), some (.ref 1109), some (.ref 1110), some (.int x5), w6, w7, w8] [] h rfl rfl (by rw [e]; rfl) k
theorem sg_law_37_t26 {g : tr_g} {d : Nat} {h : ev_AH} {r : ev_O × ev_AH} {x5 : Int32} {w6 w7 w8 : Option Value} {j0 : Nat} (hL : hh_L h) (e0 : x5 = Int32.ofNat j0) (b0 : j0 < g.1.length) (z0 : g.1.length < 2147483648) (e : (g.1.getD j0 0) &&& 63 = 26) (k : tr_L g d m_law 1825 [some (.ref 0), some (.ref 1000), some (.ref 1099), some (.ref 1109), some (.ref 1110), some (.int x5), w6, w7, w8] [] h r) : tr_L g d m_law 37 [some (.ref 0), some (.ref 1000), some (.ref 1099), some (.ref 1109), some (.ref 1110), some (.int x5), w6, w7, w8] [] h r := by
  refine tr_s (.aload_n 0) 1 38 [some (.ref 0), some (.ref 1000), some (.ref 1099), some (.ref 1109), some (.ref 1110), some (.int x5), w6, w7, w8] [.ref 0] h rfl rfl rfl ?_
  refine tr_s (.iload 5) 2 40 [some (.ref 0), some (.ref 1000), some (.ref 1099), some (.ref 1109), some (.ref 1110), some (.int x5), w6, w7, w8] [.int x5, .ref 0] h rfl rfl rfl ?_
  refine tr_ald .iaload 0 0 j0 x5 g.1 (Or.inl ⟨rfl, rfl⟩) rfl rfl e0 b0 z0 ?_
  refine tr_bi 63 63 (by decide) rfl ?_
  refine tr_s .iand 1 44 [some (.ref 0), some (.ref 1000), some (.ref 1099), some (.ref 1109), some (.ref 1110), some (.int x5), w6, w7, w8] [.int ((g.1.getD j0 0) &&& 63)] h rfl rfl rfl ?_
  exact tr_s (.tableswitch 2917 0 53 #[232, 330, 400, 413, 469, 525, 581, 649, 719, 775, 831, 887, 943, 999, 1055, 1123, 1191, 1247, 1317, 1375, 1447, 1505, 1549, 1593, 1637, 1709, 1781, 1825, 1890, 1948, 1961, 2005, 2049, 2062, 2075, 2131, 2144, 2157, 2170, 2226, 2291, 2357, 2370, 2426, 2482, 2538, 2596, 2640, 2684, 2728, 2772, 2816, 2860, 2873]) 232 1825 [some (.ref 0), some (.ref 1000), some (.ref 1099), some (.ref 1109), some (.ref 1110), some (.int x5), w6, w7, w8] [] h rfl rfl (by rw [e]; rfl) k
theorem sg_law_37_t27 {g : tr_g} {d : Nat} {h : ev_AH} {r : ev_O × ev_AH} {x5 : Int32} {w6 w7 w8 : Option Value} {j0 : Nat} (hL : hh_L h) (e0 : x5 = Int32.ofNat j0) (b0 : j0 < g.1.length) (z0 : g.1.length < 2147483648) (e : (g.1.getD j0 0) &&& 63 = 27) (k : tr_L g d m_law 1869 [some (.ref 0), some (.ref 1000), some (.ref 1099), some (.ref 1109), some (.ref 1110), some (.int x5), w6, w7, w8] [] h r) : tr_L g d m_law 37 [some (.ref 0), some (.ref 1000), some (.ref 1099), some (.ref 1109), some (.ref 1110), some (.int x5), w6, w7, w8] [] h r := by
  refine tr_s (.aload_n 0) 1 38 [some (.ref 0), some (.ref 1000), some (.ref 1099), some (.ref 1109), some (.ref 1110), some (.int x5), w6, w7, w8] [.ref 0] h rfl rfl rfl ?_
  refine tr_s (.iload 5) 2 40 [some (.ref 0), some (.ref 1000), some (.ref 1099), some (.ref 1109), some (.ref 1110), some (.int x5), w6, w7, w8] [.int x5, .ref 0] h rfl rfl rfl ?_
  refine tr_ald .iaload 0 0 j0 x5 g.1 (Or.inl ⟨rfl, rfl⟩) rfl rfl e0 b0 z0 ?_
  refine tr_bi 63 63 (by decide) rfl ?_
  refine tr_s .iand 1 44 [some (.ref 0), some (.ref 1000), some (.ref 1099), some (.ref 1109), some (.ref 1110), some (.int x5), w6, w7, w8] [.int ((g.1.getD j0 0) &&& 63)] h rfl rfl rfl ?_
  exact tr_s (.tableswitch 2917 0 53 #[232, 330, 400, 413, 469, 525, 581, 649, 719, 775, 831, 887, 943, 999, 1055, 1123, 1191, 1247, 1317, 1375, 1447, 1505, 1549, 1593, 1637, 1709, 1781, 1825, 1890, 1948, 1961, 2005, 2049, 2062, 2075, 2131, 2144, 2157, 2170, 2226, 2291, 2357, 2370, 2426, 2482, 2538, 2596, 2640, 2684, 2728, 2772, 2816, 2860, 2873]) 232 1869 [some (.ref 0), some (.ref 1000), some (.ref 1099), some (.ref 1109), some (.ref 1110), some (.int x5), w6, w7, w8] [] h rfl rfl (by rw [e]; rfl) k
theorem sg_law_37_t28 {g : tr_g} {d : Nat} {h : ev_AH} {r : ev_O × ev_AH} {x5 : Int32} {w6 w7 w8 : Option Value} {j0 : Nat} (hL : hh_L h) (e0 : x5 = Int32.ofNat j0) (b0 : j0 < g.1.length) (z0 : g.1.length < 2147483648) (e : (g.1.getD j0 0) &&& 63 = 28) (k : tr_L g d m_law 1934 [some (.ref 0), some (.ref 1000), some (.ref 1099), some (.ref 1109), some (.ref 1110), some (.int x5), w6, w7, w8] [] h r) : tr_L g d m_law 37 [some (.ref 0), some (.ref 1000), some (.ref 1099), some (.ref 1109), some (.ref 1110), some (.int x5), w6, w7, w8] [] h r := by
  refine tr_s (.aload_n 0) 1 38 [some (.ref 0), some (.ref 1000), some (.ref 1099), some (.ref 1109), some (.ref 1110), some (.int x5), w6, w7, w8] [.ref 0] h rfl rfl rfl ?_
  refine tr_s (.iload 5) 2 40 [some (.ref 0), some (.ref 1000), some (.ref 1099), some (.ref 1109), some (.ref 1110), some (.int x5), w6, w7, w8] [.int x5, .ref 0] h rfl rfl rfl ?_
  refine tr_ald .iaload 0 0 j0 x5 g.1 (Or.inl ⟨rfl, rfl⟩) rfl rfl e0 b0 z0 ?_
  refine tr_bi 63 63 (by decide) rfl ?_
  refine tr_s .iand 1 44 [some (.ref 0), some (.ref 1000), some (.ref 1099), some (.ref 1109), some (.ref 1110), some (.int x5), w6, w7, w8] [.int ((g.1.getD j0 0) &&& 63)] h rfl rfl rfl ?_
  exact tr_s (.tableswitch 2917 0 53 #[232, 330, 400, 413, 469, 525, 581, 649, 719, 775, 831, 887, 943, 999, 1055, 1123, 1191, 1247, 1317, 1375, 1447, 1505, 1549, 1593, 1637, 1709, 1781, 1825, 1890, 1948, 1961, 2005, 2049, 2062, 2075, 2131, 2144, 2157, 2170, 2226, 2291, 2357, 2370, 2426, 2482, 2538, 2596, 2640, 2684, 2728, 2772, 2816, 2860, 2873]) 232 1934 [some (.ref 0), some (.ref 1000), some (.ref 1099), some (.ref 1109), some (.ref 1110), some (.int x5), w6, w7, w8] [] h rfl rfl (by rw [e]; rfl) k
theorem sg_law_37_t29 {g : tr_g} {d : Nat} {h : ev_AH} {r : ev_O × ev_AH} {x5 : Int32} {w6 w7 w8 : Option Value} {j0 : Nat} (hL : hh_L h) (e0 : x5 = Int32.ofNat j0) (b0 : j0 < g.1.length) (z0 : g.1.length < 2147483648) (e : (g.1.getD j0 0) &&& 63 = 29) (k : tr_L g d m_law 1992 [some (.ref 0), some (.ref 1000), some (.ref 1099), some (.ref 1109), some (.ref 1110), some (.int x5), w6, w7, w8] [] h r) : tr_L g d m_law 37 [some (.ref 0), some (.ref 1000), some (.ref 1099), some (.ref 1109), some (.ref 1110), some (.int x5), w6, w7, w8] [] h r := by
  refine tr_s (.aload_n 0) 1 38 [some (.ref 0), some (.ref 1000), some (.ref 1099), some (.ref 1109), some (.ref 1110), some (.int x5), w6, w7, w8] [.ref 0] h rfl rfl rfl ?_
  refine tr_s (.iload 5) 2 40 [some (.ref 0), some (.ref 1000), some (.ref 1099), some (.ref 1109), some (.ref 1110), some (.int x5), w6, w7, w8] [.int x5, .ref 0] h rfl rfl rfl ?_
  refine tr_ald .iaload 0 0 j0 x5 g.1 (Or.inl ⟨rfl, rfl⟩) rfl rfl e0 b0 z0 ?_
  refine tr_bi 63 63 (by decide) rfl ?_
  refine tr_s .iand 1 44 [some (.ref 0), some (.ref 1000), some (.ref 1099), some (.ref 1109), some (.ref 1110), some (.int x5), w6, w7, w8] [.int ((g.1.getD j0 0) &&& 63)] h rfl rfl rfl ?_
  exact tr_s (.tableswitch 2917 0 53 #[232, 330, 400, 413, 469, 525, 581, 649, 719, 775, 831, 887, 943, 999, 1055, 1123, 1191, 1247, 1317, 1375, 1447, 1505, 1549, 1593, 1637, 1709, 1781, 1825, 1890, 1948, 1961, 2005, 2049, 2062, 2075, 2131, 2144, 2157, 2170, 2226, 2291, 2357, 2370, 2426, 2482, 2538, 2596, 2640, 2684, 2728, 2772, 2816, 2860, 2873]) 232 1992 [some (.ref 0), some (.ref 1000), some (.ref 1099), some (.ref 1109), some (.ref 1110), some (.int x5), w6, w7, w8] [] h rfl rfl (by rw [e]; rfl) k
theorem sg_law_37_t30 {g : tr_g} {d : Nat} {h : ev_AH} {r : ev_O × ev_AH} {x5 : Int32} {w6 w7 w8 : Option Value} {j0 : Nat} (hL : hh_L h) (e0 : x5 = Int32.ofNat j0) (b0 : j0 < g.1.length) (z0 : g.1.length < 2147483648) (e : (g.1.getD j0 0) &&& 63 = 30) (k : tr_L g d m_law 2005 [some (.ref 0), some (.ref 1000), some (.ref 1099), some (.ref 1109), some (.ref 1110), some (.int x5), w6, w7, w8] [] h r) : tr_L g d m_law 37 [some (.ref 0), some (.ref 1000), some (.ref 1099), some (.ref 1109), some (.ref 1110), some (.int x5), w6, w7, w8] [] h r := by
  refine tr_s (.aload_n 0) 1 38 [some (.ref 0), some (.ref 1000), some (.ref 1099), some (.ref 1109), some (.ref 1110), some (.int x5), w6, w7, w8] [.ref 0] h rfl rfl rfl ?_
  refine tr_s (.iload 5) 2 40 [some (.ref 0), some (.ref 1000), some (.ref 1099), some (.ref 1109), some (.ref 1110), some (.int x5), w6, w7, w8] [.int x5, .ref 0] h rfl rfl rfl ?_
  refine tr_ald .iaload 0 0 j0 x5 g.1 (Or.inl ⟨rfl, rfl⟩) rfl rfl e0 b0 z0 ?_
  refine tr_bi 63 63 (by decide) rfl ?_
  refine tr_s .iand 1 44 [some (.ref 0), some (.ref 1000), some (.ref 1099), some (.ref 1109), some (.ref 1110), some (.int x5), w6, w7, w8] [.int ((g.1.getD j0 0) &&& 63)] h rfl rfl rfl ?_
  exact tr_s (.tableswitch 2917 0 53 #[232, 330, 400, 413, 469, 525, 581, 649, 719, 775, 831, 887, 943, 999, 1055, 1123, 1191, 1247, 1317, 1375, 1447, 1505, 1549, 1593, 1637, 1709, 1781, 1825, 1890, 1948, 1961, 2005, 2049, 2062, 2075, 2131, 2144, 2157, 2170, 2226, 2291, 2357, 2370, 2426, 2482, 2538, 2596, 2640, 2684, 2728, 2772, 2816, 2860, 2873]) 232 2005 [some (.ref 0), some (.ref 1000), some (.ref 1099), some (.ref 1109), some (.ref 1110), some (.int x5), w6, w7, w8] [] h rfl rfl (by rw [e]; rfl) k
theorem sg_law_37_t31 {g : tr_g} {d : Nat} {h : ev_AH} {r : ev_O × ev_AH} {x5 : Int32} {w6 w7 w8 : Option Value} {j0 : Nat} (hL : hh_L h) (e0 : x5 = Int32.ofNat j0) (b0 : j0 < g.1.length) (z0 : g.1.length < 2147483648) (e : (g.1.getD j0 0) &&& 63 = 31) (k : tr_L g d m_law 2049 [some (.ref 0), some (.ref 1000), some (.ref 1099), some (.ref 1109), some (.ref 1110), some (.int x5), w6, w7, w8] [] h r) : tr_L g d m_law 37 [some (.ref 0), some (.ref 1000), some (.ref 1099), some (.ref 1109), some (.ref 1110), some (.int x5), w6, w7, w8] [] h r := by
  refine tr_s (.aload_n 0) 1 38 [some (.ref 0), some (.ref 1000), some (.ref 1099), some (.ref 1109), some (.ref 1110), some (.int x5), w6, w7, w8] [.ref 0] h rfl rfl rfl ?_
  refine tr_s (.iload 5) 2 40 [some (.ref 0), some (.ref 1000), some (.ref 1099), some (.ref 1109), some (.ref 1110), some (.int x5), w6, w7, w8] [.int x5, .ref 0] h rfl rfl rfl ?_
  refine tr_ald .iaload 0 0 j0 x5 g.1 (Or.inl ⟨rfl, rfl⟩) rfl rfl e0 b0 z0 ?_
  refine tr_bi 63 63 (by decide) rfl ?_
  refine tr_s .iand 1 44 [some (.ref 0), some (.ref 1000), some (.ref 1099), some (.ref 1109), some (.ref 1110), some (.int x5), w6, w7, w8] [.int ((g.1.getD j0 0) &&& 63)] h rfl rfl rfl ?_
  exact tr_s (.tableswitch 2917 0 53 #[232, 330, 400, 413, 469, 525, 581, 649, 719, 775, 831, 887, 943, 999, 1055, 1123, 1191, 1247, 1317, 1375, 1447, 1505, 1549, 1593, 1637, 1709, 1781, 1825, 1890, 1948, 1961, 2005, 2049, 2062, 2075, 2131, 2144, 2157, 2170, 2226, 2291, 2357, 2370, 2426, 2482, 2538, 2596, 2640, 2684, 2728, 2772, 2816, 2860, 2873]) 232 2049 [some (.ref 0), some (.ref 1000), some (.ref 1099), some (.ref 1109), some (.ref 1110), some (.int x5), w6, w7, w8] [] h rfl rfl (by rw [e]; rfl) k
theorem sg_law_37_t32 {g : tr_g} {d : Nat} {h : ev_AH} {r : ev_O × ev_AH} {x5 : Int32} {w6 w7 w8 : Option Value} {j0 : Nat} (hL : hh_L h) (e0 : x5 = Int32.ofNat j0) (b0 : j0 < g.1.length) (z0 : g.1.length < 2147483648) (e : (g.1.getD j0 0) &&& 63 = 32) (k : tr_L g d m_law 2093 [some (.ref 0), some (.ref 1000), some (.ref 1099), some (.ref 1109), some (.ref 1110), some (.int x5), w6, w7, w8] [] h r) : tr_L g d m_law 37 [some (.ref 0), some (.ref 1000), some (.ref 1099), some (.ref 1109), some (.ref 1110), some (.int x5), w6, w7, w8] [] h r := by
  refine tr_s (.aload_n 0) 1 38 [some (.ref 0), some (.ref 1000), some (.ref 1099), some (.ref 1109), some (.ref 1110), some (.int x5), w6, w7, w8] [.ref 0] h rfl rfl rfl ?_
  refine tr_s (.iload 5) 2 40 [some (.ref 0), some (.ref 1000), some (.ref 1099), some (.ref 1109), some (.ref 1110), some (.int x5), w6, w7, w8] [.int x5, .ref 0] h rfl rfl rfl ?_
  refine tr_ald .iaload 0 0 j0 x5 g.1 (Or.inl ⟨rfl, rfl⟩) rfl rfl e0 b0 z0 ?_
  refine tr_bi 63 63 (by decide) rfl ?_
  refine tr_s .iand 1 44 [some (.ref 0), some (.ref 1000), some (.ref 1099), some (.ref 1109), some (.ref 1110), some (.int x5), w6, w7, w8] [.int ((g.1.getD j0 0) &&& 63)] h rfl rfl rfl ?_
  exact tr_s (.tableswitch 2917 0 53 #[232, 330, 400, 413, 469, 525, 581, 649, 719, 775, 831, 887, 943, 999, 1055, 1123, 1191, 1247, 1317, 1375, 1447, 1505, 1549, 1593, 1637, 1709, 1781, 1825, 1890, 1948, 1961, 2005, 2049, 2062, 2075, 2131, 2144, 2157, 2170, 2226, 2291, 2357, 2370, 2426, 2482, 2538, 2596, 2640, 2684, 2728, 2772, 2816, 2860, 2873]) 232 2093 [some (.ref 0), some (.ref 1000), some (.ref 1099), some (.ref 1109), some (.ref 1110), some (.int x5), w6, w7, w8] [] h rfl rfl (by rw [e]; rfl) k
theorem sg_law_37_t33 {g : tr_g} {d : Nat} {h : ev_AH} {r : ev_O × ev_AH} {x5 : Int32} {w6 w7 w8 : Option Value} {j0 : Nat} (hL : hh_L h) (e0 : x5 = Int32.ofNat j0) (b0 : j0 < g.1.length) (z0 : g.1.length < 2147483648) (e : (g.1.getD j0 0) &&& 63 = 33) (k : tr_L g d m_law 2106 [some (.ref 0), some (.ref 1000), some (.ref 1099), some (.ref 1109), some (.ref 1110), some (.int x5), w6, w7, w8] [] h r) : tr_L g d m_law 37 [some (.ref 0), some (.ref 1000), some (.ref 1099), some (.ref 1109), some (.ref 1110), some (.int x5), w6, w7, w8] [] h r := by
  refine tr_s (.aload_n 0) 1 38 [some (.ref 0), some (.ref 1000), some (.ref 1099), some (.ref 1109), some (.ref 1110), some (.int x5), w6, w7, w8] [.ref 0] h rfl rfl rfl ?_
  refine tr_s (.iload 5) 2 40 [some (.ref 0), some (.ref 1000), some (.ref 1099), some (.ref 1109), some (.ref 1110), some (.int x5), w6, w7, w8] [.int x5, .ref 0] h rfl rfl rfl ?_
  refine tr_ald .iaload 0 0 j0 x5 g.1 (Or.inl ⟨rfl, rfl⟩) rfl rfl e0 b0 z0 ?_
  refine tr_bi 63 63 (by decide) rfl ?_
  refine tr_s .iand 1 44 [some (.ref 0), some (.ref 1000), some (.ref 1099), some (.ref 1109), some (.ref 1110), some (.int x5), w6, w7, w8] [.int ((g.1.getD j0 0) &&& 63)] h rfl rfl rfl ?_
  exact tr_s (.tableswitch 2917 0 53 #[232, 330, 400, 413, 469, 525, 581, 649, 719, 775, 831, 887, 943, 999, 1055, 1123, 1191, 1247, 1317, 1375, 1447, 1505, 1549, 1593, 1637, 1709, 1781, 1825, 1890, 1948, 1961, 2005, 2049, 2062, 2075, 2131, 2144, 2157, 2170, 2226, 2291, 2357, 2370, 2426, 2482, 2538, 2596, 2640, 2684, 2728, 2772, 2816, 2860, 2873]) 232 2106 [some (.ref 0), some (.ref 1000), some (.ref 1099), some (.ref 1109), some (.ref 1110), some (.int x5), w6, w7, w8] [] h rfl rfl (by rw [e]; rfl) k
theorem sg_law_37_t34 {g : tr_g} {d : Nat} {h : ev_AH} {r : ev_O × ev_AH} {x5 : Int32} {w6 w7 w8 : Option Value} {j0 : Nat} (hL : hh_L h) (e0 : x5 = Int32.ofNat j0) (b0 : j0 < g.1.length) (z0 : g.1.length < 2147483648) (e : (g.1.getD j0 0) &&& 63 = 34) (k : tr_L g d m_law 2119 [some (.ref 0), some (.ref 1000), some (.ref 1099), some (.ref 1109), some (.ref 1110), some (.int x5), w6, w7, w8] [] h r) : tr_L g d m_law 37 [some (.ref 0), some (.ref 1000), some (.ref 1099), some (.ref 1109), some (.ref 1110), some (.int x5), w6, w7, w8] [] h r := by
  refine tr_s (.aload_n 0) 1 38 [some (.ref 0), some (.ref 1000), some (.ref 1099), some (.ref 1109), some (.ref 1110), some (.int x5), w6, w7, w8] [.ref 0] h rfl rfl rfl ?_
  refine tr_s (.iload 5) 2 40 [some (.ref 0), some (.ref 1000), some (.ref 1099), some (.ref 1109), some (.ref 1110), some (.int x5), w6, w7, w8] [.int x5, .ref 0] h rfl rfl rfl ?_
  refine tr_ald .iaload 0 0 j0 x5 g.1 (Or.inl ⟨rfl, rfl⟩) rfl rfl e0 b0 z0 ?_
  refine tr_bi 63 63 (by decide) rfl ?_
  refine tr_s .iand 1 44 [some (.ref 0), some (.ref 1000), some (.ref 1099), some (.ref 1109), some (.ref 1110), some (.int x5), w6, w7, w8] [.int ((g.1.getD j0 0) &&& 63)] h rfl rfl rfl ?_
  exact tr_s (.tableswitch 2917 0 53 #[232, 330, 400, 413, 469, 525, 581, 649, 719, 775, 831, 887, 943, 999, 1055, 1123, 1191, 1247, 1317, 1375, 1447, 1505, 1549, 1593, 1637, 1709, 1781, 1825, 1890, 1948, 1961, 2005, 2049, 2062, 2075, 2131, 2144, 2157, 2170, 2226, 2291, 2357, 2370, 2426, 2482, 2538, 2596, 2640, 2684, 2728, 2772, 2816, 2860, 2873]) 232 2119 [some (.ref 0), some (.ref 1000), some (.ref 1099), some (.ref 1109), some (.ref 1110), some (.int x5), w6, w7, w8] [] h rfl rfl (by rw [e]; rfl) k
theorem sg_law_37_t35 {g : tr_g} {d : Nat} {h : ev_AH} {r : ev_O × ev_AH} {x5 : Int32} {w6 w7 w8 : Option Value} {j0 : Nat} (hL : hh_L h) (e0 : x5 = Int32.ofNat j0) (b0 : j0 < g.1.length) (z0 : g.1.length < 2147483648) (e : (g.1.getD j0 0) &&& 63 = 35) (k : tr_L g d m_law 2175 [some (.ref 0), some (.ref 1000), some (.ref 1099), some (.ref 1109), some (.ref 1110), some (.int x5), w6, w7, w8] [] h r) : tr_L g d m_law 37 [some (.ref 0), some (.ref 1000), some (.ref 1099), some (.ref 1109), some (.ref 1110), some (.int x5), w6, w7, w8] [] h r := by
  refine tr_s (.aload_n 0) 1 38 [some (.ref 0), some (.ref 1000), some (.ref 1099), some (.ref 1109), some (.ref 1110), some (.int x5), w6, w7, w8] [.ref 0] h rfl rfl rfl ?_
  refine tr_s (.iload 5) 2 40 [some (.ref 0), some (.ref 1000), some (.ref 1099), some (.ref 1109), some (.ref 1110), some (.int x5), w6, w7, w8] [.int x5, .ref 0] h rfl rfl rfl ?_
  refine tr_ald .iaload 0 0 j0 x5 g.1 (Or.inl ⟨rfl, rfl⟩) rfl rfl e0 b0 z0 ?_
  refine tr_bi 63 63 (by decide) rfl ?_
  refine tr_s .iand 1 44 [some (.ref 0), some (.ref 1000), some (.ref 1099), some (.ref 1109), some (.ref 1110), some (.int x5), w6, w7, w8] [.int ((g.1.getD j0 0) &&& 63)] h rfl rfl rfl ?_
  exact tr_s (.tableswitch 2917 0 53 #[232, 330, 400, 413, 469, 525, 581, 649, 719, 775, 831, 887, 943, 999, 1055, 1123, 1191, 1247, 1317, 1375, 1447, 1505, 1549, 1593, 1637, 1709, 1781, 1825, 1890, 1948, 1961, 2005, 2049, 2062, 2075, 2131, 2144, 2157, 2170, 2226, 2291, 2357, 2370, 2426, 2482, 2538, 2596, 2640, 2684, 2728, 2772, 2816, 2860, 2873]) 232 2175 [some (.ref 0), some (.ref 1000), some (.ref 1099), some (.ref 1109), some (.ref 1110), some (.int x5), w6, w7, w8] [] h rfl rfl (by rw [e]; rfl) k
theorem sg_law_37_t36 {g : tr_g} {d : Nat} {h : ev_AH} {r : ev_O × ev_AH} {x5 : Int32} {w6 w7 w8 : Option Value} {j0 : Nat} (hL : hh_L h) (e0 : x5 = Int32.ofNat j0) (b0 : j0 < g.1.length) (z0 : g.1.length < 2147483648) (e : (g.1.getD j0 0) &&& 63 = 36) (k : tr_L g d m_law 2188 [some (.ref 0), some (.ref 1000), some (.ref 1099), some (.ref 1109), some (.ref 1110), some (.int x5), w6, w7, w8] [] h r) : tr_L g d m_law 37 [some (.ref 0), some (.ref 1000), some (.ref 1099), some (.ref 1109), some (.ref 1110), some (.int x5), w6, w7, w8] [] h r := by
  refine tr_s (.aload_n 0) 1 38 [some (.ref 0), some (.ref 1000), some (.ref 1099), some (.ref 1109), some (.ref 1110), some (.int x5), w6, w7, w8] [.ref 0] h rfl rfl rfl ?_
  refine tr_s (.iload 5) 2 40 [some (.ref 0), some (.ref 1000), some (.ref 1099), some (.ref 1109), some (.ref 1110), some (.int x5), w6, w7, w8] [.int x5, .ref 0] h rfl rfl rfl ?_
  refine tr_ald .iaload 0 0 j0 x5 g.1 (Or.inl ⟨rfl, rfl⟩) rfl rfl e0 b0 z0 ?_
  refine tr_bi 63 63 (by decide) rfl ?_
  refine tr_s .iand 1 44 [some (.ref 0), some (.ref 1000), some (.ref 1099), some (.ref 1109), some (.ref 1110), some (.int x5), w6, w7, w8] [.int ((g.1.getD j0 0) &&& 63)] h rfl rfl rfl ?_
  exact tr_s (.tableswitch 2917 0 53 #[232, 330, 400, 413, 469, 525, 581, 649, 719, 775, 831, 887, 943, 999, 1055, 1123, 1191, 1247, 1317, 1375, 1447, 1505, 1549, 1593, 1637, 1709, 1781, 1825, 1890, 1948, 1961, 2005, 2049, 2062, 2075, 2131, 2144, 2157, 2170, 2226, 2291, 2357, 2370, 2426, 2482, 2538, 2596, 2640, 2684, 2728, 2772, 2816, 2860, 2873]) 232 2188 [some (.ref 0), some (.ref 1000), some (.ref 1099), some (.ref 1109), some (.ref 1110), some (.int x5), w6, w7, w8] [] h rfl rfl (by rw [e]; rfl) k
theorem sg_law_37_t37 {g : tr_g} {d : Nat} {h : ev_AH} {r : ev_O × ev_AH} {x5 : Int32} {w6 w7 w8 : Option Value} {j0 : Nat} (hL : hh_L h) (e0 : x5 = Int32.ofNat j0) (b0 : j0 < g.1.length) (z0 : g.1.length < 2147483648) (e : (g.1.getD j0 0) &&& 63 = 37) (k : tr_L g d m_law 2201 [some (.ref 0), some (.ref 1000), some (.ref 1099), some (.ref 1109), some (.ref 1110), some (.int x5), w6, w7, w8] [] h r) : tr_L g d m_law 37 [some (.ref 0), some (.ref 1000), some (.ref 1099), some (.ref 1109), some (.ref 1110), some (.int x5), w6, w7, w8] [] h r := by
  refine tr_s (.aload_n 0) 1 38 [some (.ref 0), some (.ref 1000), some (.ref 1099), some (.ref 1109), some (.ref 1110), some (.int x5), w6, w7, w8] [.ref 0] h rfl rfl rfl ?_
  refine tr_s (.iload 5) 2 40 [some (.ref 0), some (.ref 1000), some (.ref 1099), some (.ref 1109), some (.ref 1110), some (.int x5), w6, w7, w8] [.int x5, .ref 0] h rfl rfl rfl ?_
  refine tr_ald .iaload 0 0 j0 x5 g.1 (Or.inl ⟨rfl, rfl⟩) rfl rfl e0 b0 z0 ?_
  refine tr_bi 63 63 (by decide) rfl ?_
  refine tr_s .iand 1 44 [some (.ref 0), some (.ref 1000), some (.ref 1099), some (.ref 1109), some (.ref 1110), some (.int x5), w6, w7, w8] [.int ((g.1.getD j0 0) &&& 63)] h rfl rfl rfl ?_
  exact tr_s (.tableswitch 2917 0 53 #[232, 330, 400, 413, 469, 525, 581, 649, 719, 775, 831, 887, 943, 999, 1055, 1123, 1191, 1247, 1317, 1375, 1447, 1505, 1549, 1593, 1637, 1709, 1781, 1825, 1890, 1948, 1961, 2005, 2049, 2062, 2075, 2131, 2144, 2157, 2170, 2226, 2291, 2357, 2370, 2426, 2482, 2538, 2596, 2640, 2684, 2728, 2772, 2816, 2860, 2873]) 232 2201 [some (.ref 0), some (.ref 1000), some (.ref 1099), some (.ref 1109), some (.ref 1110), some (.int x5), w6, w7, w8] [] h rfl rfl (by rw [e]; rfl) k
theorem sg_law_37_t38 {g : tr_g} {d : Nat} {h : ev_AH} {r : ev_O × ev_AH} {x5 : Int32} {w6 w7 w8 : Option Value} {j0 : Nat} (hL : hh_L h) (e0 : x5 = Int32.ofNat j0) (b0 : j0 < g.1.length) (z0 : g.1.length < 2147483648) (e : (g.1.getD j0 0) &&& 63 = 38) (k : tr_L g d m_law 2214 [some (.ref 0), some (.ref 1000), some (.ref 1099), some (.ref 1109), some (.ref 1110), some (.int x5), w6, w7, w8] [] h r) : tr_L g d m_law 37 [some (.ref 0), some (.ref 1000), some (.ref 1099), some (.ref 1109), some (.ref 1110), some (.int x5), w6, w7, w8] [] h r := by
  refine tr_s (.aload_n 0) 1 38 [some (.ref 0), some (.ref 1000), some (.ref 1099), some (.ref 1109), some (.ref 1110), some (.int x5), w6, w7, w8] [.ref 0] h rfl rfl rfl ?_
  refine tr_s (.iload 5) 2 40 [some (.ref 0), some (.ref 1000), some (.ref 1099), some (.ref 1109), some (.ref 1110), some (.int x5), w6, w7, w8] [.int x5, .ref 0] h rfl rfl rfl ?_
  refine tr_ald .iaload 0 0 j0 x5 g.1 (Or.inl ⟨rfl, rfl⟩) rfl rfl e0 b0 z0 ?_
  refine tr_bi 63 63 (by decide) rfl ?_
  refine tr_s .iand 1 44 [some (.ref 0), some (.ref 1000), some (.ref 1099), some (.ref 1109), some (.ref 1110), some (.int x5), w6, w7, w8] [.int ((g.1.getD j0 0) &&& 63)] h rfl rfl rfl ?_
  exact tr_s (.tableswitch 2917 0 53 #[232, 330, 400, 413, 469, 525, 581, 649, 719, 775, 831, 887, 943, 999, 1055, 1123, 1191, 1247, 1317, 1375, 1447, 1505, 1549, 1593, 1637, 1709, 1781, 1825, 1890, 1948, 1961, 2005, 2049, 2062, 2075, 2131, 2144, 2157, 2170, 2226, 2291, 2357, 2370, 2426, 2482, 2538, 2596, 2640, 2684, 2728, 2772, 2816, 2860, 2873]) 232 2214 [some (.ref 0), some (.ref 1000), some (.ref 1099), some (.ref 1109), some (.ref 1110), some (.int x5), w6, w7, w8] [] h rfl rfl (by rw [e]; rfl) k
theorem sg_law_37_t39 {g : tr_g} {d : Nat} {h : ev_AH} {r : ev_O × ev_AH} {x5 : Int32} {w6 w7 w8 : Option Value} {j0 : Nat} (hL : hh_L h) (e0 : x5 = Int32.ofNat j0) (b0 : j0 < g.1.length) (z0 : g.1.length < 2147483648) (e : (g.1.getD j0 0) &&& 63 = 39) (k : tr_L g d m_law 2270 [some (.ref 0), some (.ref 1000), some (.ref 1099), some (.ref 1109), some (.ref 1110), some (.int x5), w6, w7, w8] [] h r) : tr_L g d m_law 37 [some (.ref 0), some (.ref 1000), some (.ref 1099), some (.ref 1109), some (.ref 1110), some (.int x5), w6, w7, w8] [] h r := by
  refine tr_s (.aload_n 0) 1 38 [some (.ref 0), some (.ref 1000), some (.ref 1099), some (.ref 1109), some (.ref 1110), some (.int x5), w6, w7, w8] [.ref 0] h rfl rfl rfl ?_
  refine tr_s (.iload 5) 2 40 [some (.ref 0), some (.ref 1000), some (.ref 1099), some (.ref 1109), some (.ref 1110), some (.int x5), w6, w7, w8] [.int x5, .ref 0] h rfl rfl rfl ?_
  refine tr_ald .iaload 0 0 j0 x5 g.1 (Or.inl ⟨rfl, rfl⟩) rfl rfl e0 b0 z0 ?_
  refine tr_bi 63 63 (by decide) rfl ?_
  refine tr_s .iand 1 44 [some (.ref 0), some (.ref 1000), some (.ref 1099), some (.ref 1109), some (.ref 1110), some (.int x5), w6, w7, w8] [.int ((g.1.getD j0 0) &&& 63)] h rfl rfl rfl ?_
  exact tr_s (.tableswitch 2917 0 53 #[232, 330, 400, 413, 469, 525, 581, 649, 719, 775, 831, 887, 943, 999, 1055, 1123, 1191, 1247, 1317, 1375, 1447, 1505, 1549, 1593, 1637, 1709, 1781, 1825, 1890, 1948, 1961, 2005, 2049, 2062, 2075, 2131, 2144, 2157, 2170, 2226, 2291, 2357, 2370, 2426, 2482, 2538, 2596, 2640, 2684, 2728, 2772, 2816, 2860, 2873]) 232 2270 [some (.ref 0), some (.ref 1000), some (.ref 1099), some (.ref 1109), some (.ref 1110), some (.int x5), w6, w7, w8] [] h rfl rfl (by rw [e]; rfl) k
theorem sg_law_37_t40 {g : tr_g} {d : Nat} {h : ev_AH} {r : ev_O × ev_AH} {x5 : Int32} {w6 w7 w8 : Option Value} {j0 : Nat} (hL : hh_L h) (e0 : x5 = Int32.ofNat j0) (b0 : j0 < g.1.length) (z0 : g.1.length < 2147483648) (e : (g.1.getD j0 0) &&& 63 = 40) (k : tr_L g d m_law 2335 [some (.ref 0), some (.ref 1000), some (.ref 1099), some (.ref 1109), some (.ref 1110), some (.int x5), w6, w7, w8] [] h r) : tr_L g d m_law 37 [some (.ref 0), some (.ref 1000), some (.ref 1099), some (.ref 1109), some (.ref 1110), some (.int x5), w6, w7, w8] [] h r := by
  refine tr_s (.aload_n 0) 1 38 [some (.ref 0), some (.ref 1000), some (.ref 1099), some (.ref 1109), some (.ref 1110), some (.int x5), w6, w7, w8] [.ref 0] h rfl rfl rfl ?_
  refine tr_s (.iload 5) 2 40 [some (.ref 0), some (.ref 1000), some (.ref 1099), some (.ref 1109), some (.ref 1110), some (.int x5), w6, w7, w8] [.int x5, .ref 0] h rfl rfl rfl ?_
  refine tr_ald .iaload 0 0 j0 x5 g.1 (Or.inl ⟨rfl, rfl⟩) rfl rfl e0 b0 z0 ?_
  refine tr_bi 63 63 (by decide) rfl ?_
  refine tr_s .iand 1 44 [some (.ref 0), some (.ref 1000), some (.ref 1099), some (.ref 1109), some (.ref 1110), some (.int x5), w6, w7, w8] [.int ((g.1.getD j0 0) &&& 63)] h rfl rfl rfl ?_
  exact tr_s (.tableswitch 2917 0 53 #[232, 330, 400, 413, 469, 525, 581, 649, 719, 775, 831, 887, 943, 999, 1055, 1123, 1191, 1247, 1317, 1375, 1447, 1505, 1549, 1593, 1637, 1709, 1781, 1825, 1890, 1948, 1961, 2005, 2049, 2062, 2075, 2131, 2144, 2157, 2170, 2226, 2291, 2357, 2370, 2426, 2482, 2538, 2596, 2640, 2684, 2728, 2772, 2816, 2860, 2873]) 232 2335 [some (.ref 0), some (.ref 1000), some (.ref 1099), some (.ref 1109), some (.ref 1110), some (.int x5), w6, w7, w8] [] h rfl rfl (by rw [e]; rfl) k
theorem sg_law_37_t41 {g : tr_g} {d : Nat} {h : ev_AH} {r : ev_O × ev_AH} {x5 : Int32} {w6 w7 w8 : Option Value} {j0 : Nat} (hL : hh_L h) (e0 : x5 = Int32.ofNat j0) (b0 : j0 < g.1.length) (z0 : g.1.length < 2147483648) (e : (g.1.getD j0 0) &&& 63 = 41) (k : tr_L g d m_law 2401 [some (.ref 0), some (.ref 1000), some (.ref 1099), some (.ref 1109), some (.ref 1110), some (.int x5), w6, w7, w8] [] h r) : tr_L g d m_law 37 [some (.ref 0), some (.ref 1000), some (.ref 1099), some (.ref 1109), some (.ref 1110), some (.int x5), w6, w7, w8] [] h r := by
  refine tr_s (.aload_n 0) 1 38 [some (.ref 0), some (.ref 1000), some (.ref 1099), some (.ref 1109), some (.ref 1110), some (.int x5), w6, w7, w8] [.ref 0] h rfl rfl rfl ?_
  refine tr_s (.iload 5) 2 40 [some (.ref 0), some (.ref 1000), some (.ref 1099), some (.ref 1109), some (.ref 1110), some (.int x5), w6, w7, w8] [.int x5, .ref 0] h rfl rfl rfl ?_
  refine tr_ald .iaload 0 0 j0 x5 g.1 (Or.inl ⟨rfl, rfl⟩) rfl rfl e0 b0 z0 ?_
  refine tr_bi 63 63 (by decide) rfl ?_
  refine tr_s .iand 1 44 [some (.ref 0), some (.ref 1000), some (.ref 1099), some (.ref 1109), some (.ref 1110), some (.int x5), w6, w7, w8] [.int ((g.1.getD j0 0) &&& 63)] h rfl rfl rfl ?_
  exact tr_s (.tableswitch 2917 0 53 #[232, 330, 400, 413, 469, 525, 581, 649, 719, 775, 831, 887, 943, 999, 1055, 1123, 1191, 1247, 1317, 1375, 1447, 1505, 1549, 1593, 1637, 1709, 1781, 1825, 1890, 1948, 1961, 2005, 2049, 2062, 2075, 2131, 2144, 2157, 2170, 2226, 2291, 2357, 2370, 2426, 2482, 2538, 2596, 2640, 2684, 2728, 2772, 2816, 2860, 2873]) 232 2401 [some (.ref 0), some (.ref 1000), some (.ref 1099), some (.ref 1109), some (.ref 1110), some (.int x5), w6, w7, w8] [] h rfl rfl (by rw [e]; rfl) k
theorem sg_law_37_t42 {g : tr_g} {d : Nat} {h : ev_AH} {r : ev_O × ev_AH} {x5 : Int32} {w6 w7 w8 : Option Value} {j0 : Nat} (hL : hh_L h) (e0 : x5 = Int32.ofNat j0) (b0 : j0 < g.1.length) (z0 : g.1.length < 2147483648) (e : (g.1.getD j0 0) &&& 63 = 42) (k : tr_L g d m_law 2414 [some (.ref 0), some (.ref 1000), some (.ref 1099), some (.ref 1109), some (.ref 1110), some (.int x5), w6, w7, w8] [] h r) : tr_L g d m_law 37 [some (.ref 0), some (.ref 1000), some (.ref 1099), some (.ref 1109), some (.ref 1110), some (.int x5), w6, w7, w8] [] h r := by
  refine tr_s (.aload_n 0) 1 38 [some (.ref 0), some (.ref 1000), some (.ref 1099), some (.ref 1109), some (.ref 1110), some (.int x5), w6, w7, w8] [.ref 0] h rfl rfl rfl ?_
  refine tr_s (.iload 5) 2 40 [some (.ref 0), some (.ref 1000), some (.ref 1099), some (.ref 1109), some (.ref 1110), some (.int x5), w6, w7, w8] [.int x5, .ref 0] h rfl rfl rfl ?_
  refine tr_ald .iaload 0 0 j0 x5 g.1 (Or.inl ⟨rfl, rfl⟩) rfl rfl e0 b0 z0 ?_
  refine tr_bi 63 63 (by decide) rfl ?_
  refine tr_s .iand 1 44 [some (.ref 0), some (.ref 1000), some (.ref 1099), some (.ref 1109), some (.ref 1110), some (.int x5), w6, w7, w8] [.int ((g.1.getD j0 0) &&& 63)] h rfl rfl rfl ?_
  exact tr_s (.tableswitch 2917 0 53 #[232, 330, 400, 413, 469, 525, 581, 649, 719, 775, 831, 887, 943, 999, 1055, 1123, 1191, 1247, 1317, 1375, 1447, 1505, 1549, 1593, 1637, 1709, 1781, 1825, 1890, 1948, 1961, 2005, 2049, 2062, 2075, 2131, 2144, 2157, 2170, 2226, 2291, 2357, 2370, 2426, 2482, 2538, 2596, 2640, 2684, 2728, 2772, 2816, 2860, 2873]) 232 2414 [some (.ref 0), some (.ref 1000), some (.ref 1099), some (.ref 1109), some (.ref 1110), some (.int x5), w6, w7, w8] [] h rfl rfl (by rw [e]; rfl) k
theorem sg_law_37_t43 {g : tr_g} {d : Nat} {h : ev_AH} {r : ev_O × ev_AH} {x5 : Int32} {w6 w7 w8 : Option Value} {j0 : Nat} (hL : hh_L h) (e0 : x5 = Int32.ofNat j0) (b0 : j0 < g.1.length) (z0 : g.1.length < 2147483648) (e : (g.1.getD j0 0) &&& 63 = 43) (k : tr_L g d m_law 2470 [some (.ref 0), some (.ref 1000), some (.ref 1099), some (.ref 1109), some (.ref 1110), some (.int x5), w6, w7, w8] [] h r) : tr_L g d m_law 37 [some (.ref 0), some (.ref 1000), some (.ref 1099), some (.ref 1109), some (.ref 1110), some (.int x5), w6, w7, w8] [] h r := by
  refine tr_s (.aload_n 0) 1 38 [some (.ref 0), some (.ref 1000), some (.ref 1099), some (.ref 1109), some (.ref 1110), some (.int x5), w6, w7, w8] [.ref 0] h rfl rfl rfl ?_
  refine tr_s (.iload 5) 2 40 [some (.ref 0), some (.ref 1000), some (.ref 1099), some (.ref 1109), some (.ref 1110), some (.int x5), w6, w7, w8] [.int x5, .ref 0] h rfl rfl rfl ?_
  refine tr_ald .iaload 0 0 j0 x5 g.1 (Or.inl ⟨rfl, rfl⟩) rfl rfl e0 b0 z0 ?_
  refine tr_bi 63 63 (by decide) rfl ?_
  refine tr_s .iand 1 44 [some (.ref 0), some (.ref 1000), some (.ref 1099), some (.ref 1109), some (.ref 1110), some (.int x5), w6, w7, w8] [.int ((g.1.getD j0 0) &&& 63)] h rfl rfl rfl ?_
  exact tr_s (.tableswitch 2917 0 53 #[232, 330, 400, 413, 469, 525, 581, 649, 719, 775, 831, 887, 943, 999, 1055, 1123, 1191, 1247, 1317, 1375, 1447, 1505, 1549, 1593, 1637, 1709, 1781, 1825, 1890, 1948, 1961, 2005, 2049, 2062, 2075, 2131, 2144, 2157, 2170, 2226, 2291, 2357, 2370, 2426, 2482, 2538, 2596, 2640, 2684, 2728, 2772, 2816, 2860, 2873]) 232 2470 [some (.ref 0), some (.ref 1000), some (.ref 1099), some (.ref 1109), some (.ref 1110), some (.int x5), w6, w7, w8] [] h rfl rfl (by rw [e]; rfl) k
theorem sg_law_37_t44 {g : tr_g} {d : Nat} {h : ev_AH} {r : ev_O × ev_AH} {x5 : Int32} {w6 w7 w8 : Option Value} {j0 : Nat} (hL : hh_L h) (e0 : x5 = Int32.ofNat j0) (b0 : j0 < g.1.length) (z0 : g.1.length < 2147483648) (e : (g.1.getD j0 0) &&& 63 = 44) (k : tr_L g d m_law 2526 [some (.ref 0), some (.ref 1000), some (.ref 1099), some (.ref 1109), some (.ref 1110), some (.int x5), w6, w7, w8] [] h r) : tr_L g d m_law 37 [some (.ref 0), some (.ref 1000), some (.ref 1099), some (.ref 1109), some (.ref 1110), some (.int x5), w6, w7, w8] [] h r := by
  refine tr_s (.aload_n 0) 1 38 [some (.ref 0), some (.ref 1000), some (.ref 1099), some (.ref 1109), some (.ref 1110), some (.int x5), w6, w7, w8] [.ref 0] h rfl rfl rfl ?_
  refine tr_s (.iload 5) 2 40 [some (.ref 0), some (.ref 1000), some (.ref 1099), some (.ref 1109), some (.ref 1110), some (.int x5), w6, w7, w8] [.int x5, .ref 0] h rfl rfl rfl ?_
  refine tr_ald .iaload 0 0 j0 x5 g.1 (Or.inl ⟨rfl, rfl⟩) rfl rfl e0 b0 z0 ?_
  refine tr_bi 63 63 (by decide) rfl ?_
  refine tr_s .iand 1 44 [some (.ref 0), some (.ref 1000), some (.ref 1099), some (.ref 1109), some (.ref 1110), some (.int x5), w6, w7, w8] [.int ((g.1.getD j0 0) &&& 63)] h rfl rfl rfl ?_
  exact tr_s (.tableswitch 2917 0 53 #[232, 330, 400, 413, 469, 525, 581, 649, 719, 775, 831, 887, 943, 999, 1055, 1123, 1191, 1247, 1317, 1375, 1447, 1505, 1549, 1593, 1637, 1709, 1781, 1825, 1890, 1948, 1961, 2005, 2049, 2062, 2075, 2131, 2144, 2157, 2170, 2226, 2291, 2357, 2370, 2426, 2482, 2538, 2596, 2640, 2684, 2728, 2772, 2816, 2860, 2873]) 232 2526 [some (.ref 0), some (.ref 1000), some (.ref 1099), some (.ref 1109), some (.ref 1110), some (.int x5), w6, w7, w8] [] h rfl rfl (by rw [e]; rfl) k
theorem sg_law_37_t45 {g : tr_g} {d : Nat} {h : ev_AH} {r : ev_O × ev_AH} {x5 : Int32} {w6 w7 w8 : Option Value} {j0 : Nat} (hL : hh_L h) (e0 : x5 = Int32.ofNat j0) (b0 : j0 < g.1.length) (z0 : g.1.length < 2147483648) (e : (g.1.getD j0 0) &&& 63 = 45) (k : tr_L g d m_law 2582 [some (.ref 0), some (.ref 1000), some (.ref 1099), some (.ref 1109), some (.ref 1110), some (.int x5), w6, w7, w8] [] h r) : tr_L g d m_law 37 [some (.ref 0), some (.ref 1000), some (.ref 1099), some (.ref 1109), some (.ref 1110), some (.int x5), w6, w7, w8] [] h r := by
  refine tr_s (.aload_n 0) 1 38 [some (.ref 0), some (.ref 1000), some (.ref 1099), some (.ref 1109), some (.ref 1110), some (.int x5), w6, w7, w8] [.ref 0] h rfl rfl rfl ?_
  refine tr_s (.iload 5) 2 40 [some (.ref 0), some (.ref 1000), some (.ref 1099), some (.ref 1109), some (.ref 1110), some (.int x5), w6, w7, w8] [.int x5, .ref 0] h rfl rfl rfl ?_
  refine tr_ald .iaload 0 0 j0 x5 g.1 (Or.inl ⟨rfl, rfl⟩) rfl rfl e0 b0 z0 ?_
  refine tr_bi 63 63 (by decide) rfl ?_
  refine tr_s .iand 1 44 [some (.ref 0), some (.ref 1000), some (.ref 1099), some (.ref 1109), some (.ref 1110), some (.int x5), w6, w7, w8] [.int ((g.1.getD j0 0) &&& 63)] h rfl rfl rfl ?_
  exact tr_s (.tableswitch 2917 0 53 #[232, 330, 400, 413, 469, 525, 581, 649, 719, 775, 831, 887, 943, 999, 1055, 1123, 1191, 1247, 1317, 1375, 1447, 1505, 1549, 1593, 1637, 1709, 1781, 1825, 1890, 1948, 1961, 2005, 2049, 2062, 2075, 2131, 2144, 2157, 2170, 2226, 2291, 2357, 2370, 2426, 2482, 2538, 2596, 2640, 2684, 2728, 2772, 2816, 2860, 2873]) 232 2582 [some (.ref 0), some (.ref 1000), some (.ref 1099), some (.ref 1109), some (.ref 1110), some (.int x5), w6, w7, w8] [] h rfl rfl (by rw [e]; rfl) k
theorem sg_law_37_t46 {g : tr_g} {d : Nat} {h : ev_AH} {r : ev_O × ev_AH} {x5 : Int32} {w6 w7 w8 : Option Value} {j0 : Nat} (hL : hh_L h) (e0 : x5 = Int32.ofNat j0) (b0 : j0 < g.1.length) (z0 : g.1.length < 2147483648) (e : (g.1.getD j0 0) &&& 63 = 46) (k : tr_L g d m_law 2640 [some (.ref 0), some (.ref 1000), some (.ref 1099), some (.ref 1109), some (.ref 1110), some (.int x5), w6, w7, w8] [] h r) : tr_L g d m_law 37 [some (.ref 0), some (.ref 1000), some (.ref 1099), some (.ref 1109), some (.ref 1110), some (.int x5), w6, w7, w8] [] h r := by
  refine tr_s (.aload_n 0) 1 38 [some (.ref 0), some (.ref 1000), some (.ref 1099), some (.ref 1109), some (.ref 1110), some (.int x5), w6, w7, w8] [.ref 0] h rfl rfl rfl ?_
  refine tr_s (.iload 5) 2 40 [some (.ref 0), some (.ref 1000), some (.ref 1099), some (.ref 1109), some (.ref 1110), some (.int x5), w6, w7, w8] [.int x5, .ref 0] h rfl rfl rfl ?_
  refine tr_ald .iaload 0 0 j0 x5 g.1 (Or.inl ⟨rfl, rfl⟩) rfl rfl e0 b0 z0 ?_
  refine tr_bi 63 63 (by decide) rfl ?_
  refine tr_s .iand 1 44 [some (.ref 0), some (.ref 1000), some (.ref 1099), some (.ref 1109), some (.ref 1110), some (.int x5), w6, w7, w8] [.int ((g.1.getD j0 0) &&& 63)] h rfl rfl rfl ?_
  exact tr_s (.tableswitch 2917 0 53 #[232, 330, 400, 413, 469, 525, 581, 649, 719, 775, 831, 887, 943, 999, 1055, 1123, 1191, 1247, 1317, 1375, 1447, 1505, 1549, 1593, 1637, 1709, 1781, 1825, 1890, 1948, 1961, 2005, 2049, 2062, 2075, 2131, 2144, 2157, 2170, 2226, 2291, 2357, 2370, 2426, 2482, 2538, 2596, 2640, 2684, 2728, 2772, 2816, 2860, 2873]) 232 2640 [some (.ref 0), some (.ref 1000), some (.ref 1099), some (.ref 1109), some (.ref 1110), some (.int x5), w6, w7, w8] [] h rfl rfl (by rw [e]; rfl) k
theorem sg_law_37_t47 {g : tr_g} {d : Nat} {h : ev_AH} {r : ev_O × ev_AH} {x5 : Int32} {w6 w7 w8 : Option Value} {j0 : Nat} (hL : hh_L h) (e0 : x5 = Int32.ofNat j0) (b0 : j0 < g.1.length) (z0 : g.1.length < 2147483648) (e : (g.1.getD j0 0) &&& 63 = 47) (k : tr_L g d m_law 2684 [some (.ref 0), some (.ref 1000), some (.ref 1099), some (.ref 1109), some (.ref 1110), some (.int x5), w6, w7, w8] [] h r) : tr_L g d m_law 37 [some (.ref 0), some (.ref 1000), some (.ref 1099), some (.ref 1109), some (.ref 1110), some (.int x5), w6, w7, w8] [] h r := by
  refine tr_s (.aload_n 0) 1 38 [some (.ref 0), some (.ref 1000), some (.ref 1099), some (.ref 1109), some (.ref 1110), some (.int x5), w6, w7, w8] [.ref 0] h rfl rfl rfl ?_
  refine tr_s (.iload 5) 2 40 [some (.ref 0), some (.ref 1000), some (.ref 1099), some (.ref 1109), some (.ref 1110), some (.int x5), w6, w7, w8] [.int x5, .ref 0] h rfl rfl rfl ?_
  refine tr_ald .iaload 0 0 j0 x5 g.1 (Or.inl ⟨rfl, rfl⟩) rfl rfl e0 b0 z0 ?_
  refine tr_bi 63 63 (by decide) rfl ?_
  refine tr_s .iand 1 44 [some (.ref 0), some (.ref 1000), some (.ref 1099), some (.ref 1109), some (.ref 1110), some (.int x5), w6, w7, w8] [.int ((g.1.getD j0 0) &&& 63)] h rfl rfl rfl ?_
  exact tr_s (.tableswitch 2917 0 53 #[232, 330, 400, 413, 469, 525, 581, 649, 719, 775, 831, 887, 943, 999, 1055, 1123, 1191, 1247, 1317, 1375, 1447, 1505, 1549, 1593, 1637, 1709, 1781, 1825, 1890, 1948, 1961, 2005, 2049, 2062, 2075, 2131, 2144, 2157, 2170, 2226, 2291, 2357, 2370, 2426, 2482, 2538, 2596, 2640, 2684, 2728, 2772, 2816, 2860, 2873]) 232 2684 [some (.ref 0), some (.ref 1000), some (.ref 1099), some (.ref 1109), some (.ref 1110), some (.int x5), w6, w7, w8] [] h rfl rfl (by rw [e]; rfl) k
theorem sg_law_37_t48 {g : tr_g} {d : Nat} {h : ev_AH} {r : ev_O × ev_AH} {x5 : Int32} {w6 w7 w8 : Option Value} {j0 : Nat} (hL : hh_L h) (e0 : x5 = Int32.ofNat j0) (b0 : j0 < g.1.length) (z0 : g.1.length < 2147483648) (e : (g.1.getD j0 0) &&& 63 = 48) (k : tr_L g d m_law 2728 [some (.ref 0), some (.ref 1000), some (.ref 1099), some (.ref 1109), some (.ref 1110), some (.int x5), w6, w7, w8] [] h r) : tr_L g d m_law 37 [some (.ref 0), some (.ref 1000), some (.ref 1099), some (.ref 1109), some (.ref 1110), some (.int x5), w6, w7, w8] [] h r := by
  refine tr_s (.aload_n 0) 1 38 [some (.ref 0), some (.ref 1000), some (.ref 1099), some (.ref 1109), some (.ref 1110), some (.int x5), w6, w7, w8] [.ref 0] h rfl rfl rfl ?_
  refine tr_s (.iload 5) 2 40 [some (.ref 0), some (.ref 1000), some (.ref 1099), some (.ref 1109), some (.ref 1110), some (.int x5), w6, w7, w8] [.int x5, .ref 0] h rfl rfl rfl ?_
  refine tr_ald .iaload 0 0 j0 x5 g.1 (Or.inl ⟨rfl, rfl⟩) rfl rfl e0 b0 z0 ?_
  refine tr_bi 63 63 (by decide) rfl ?_
  refine tr_s .iand 1 44 [some (.ref 0), some (.ref 1000), some (.ref 1099), some (.ref 1109), some (.ref 1110), some (.int x5), w6, w7, w8] [.int ((g.1.getD j0 0) &&& 63)] h rfl rfl rfl ?_
  exact tr_s (.tableswitch 2917 0 53 #[232, 330, 400, 413, 469, 525, 581, 649, 719, 775, 831, 887, 943, 999, 1055, 1123, 1191, 1247, 1317, 1375, 1447, 1505, 1549, 1593, 1637, 1709, 1781, 1825, 1890, 1948, 1961, 2005, 2049, 2062, 2075, 2131, 2144, 2157, 2170, 2226, 2291, 2357, 2370, 2426, 2482, 2538, 2596, 2640, 2684, 2728, 2772, 2816, 2860, 2873]) 232 2728 [some (.ref 0), some (.ref 1000), some (.ref 1099), some (.ref 1109), some (.ref 1110), some (.int x5), w6, w7, w8] [] h rfl rfl (by rw [e]; rfl) k
theorem sg_law_37_t49 {g : tr_g} {d : Nat} {h : ev_AH} {r : ev_O × ev_AH} {x5 : Int32} {w6 w7 w8 : Option Value} {j0 : Nat} (hL : hh_L h) (e0 : x5 = Int32.ofNat j0) (b0 : j0 < g.1.length) (z0 : g.1.length < 2147483648) (e : (g.1.getD j0 0) &&& 63 = 49) (k : tr_L g d m_law 2772 [some (.ref 0), some (.ref 1000), some (.ref 1099), some (.ref 1109), some (.ref 1110), some (.int x5), w6, w7, w8] [] h r) : tr_L g d m_law 37 [some (.ref 0), some (.ref 1000), some (.ref 1099), some (.ref 1109), some (.ref 1110), some (.int x5), w6, w7, w8] [] h r := by
  refine tr_s (.aload_n 0) 1 38 [some (.ref 0), some (.ref 1000), some (.ref 1099), some (.ref 1109), some (.ref 1110), some (.int x5), w6, w7, w8] [.ref 0] h rfl rfl rfl ?_
  refine tr_s (.iload 5) 2 40 [some (.ref 0), some (.ref 1000), some (.ref 1099), some (.ref 1109), some (.ref 1110), some (.int x5), w6, w7, w8] [.int x5, .ref 0] h rfl rfl rfl ?_
  refine tr_ald .iaload 0 0 j0 x5 g.1 (Or.inl ⟨rfl, rfl⟩) rfl rfl e0 b0 z0 ?_
  refine tr_bi 63 63 (by decide) rfl ?_
  refine tr_s .iand 1 44 [some (.ref 0), some (.ref 1000), some (.ref 1099), some (.ref 1109), some (.ref 1110), some (.int x5), w6, w7, w8] [.int ((g.1.getD j0 0) &&& 63)] h rfl rfl rfl ?_
  exact tr_s (.tableswitch 2917 0 53 #[232, 330, 400, 413, 469, 525, 581, 649, 719, 775, 831, 887, 943, 999, 1055, 1123, 1191, 1247, 1317, 1375, 1447, 1505, 1549, 1593, 1637, 1709, 1781, 1825, 1890, 1948, 1961, 2005, 2049, 2062, 2075, 2131, 2144, 2157, 2170, 2226, 2291, 2357, 2370, 2426, 2482, 2538, 2596, 2640, 2684, 2728, 2772, 2816, 2860, 2873]) 232 2772 [some (.ref 0), some (.ref 1000), some (.ref 1099), some (.ref 1109), some (.ref 1110), some (.int x5), w6, w7, w8] [] h rfl rfl (by rw [e]; rfl) k
theorem sg_law_37_t50 {g : tr_g} {d : Nat} {h : ev_AH} {r : ev_O × ev_AH} {x5 : Int32} {w6 w7 w8 : Option Value} {j0 : Nat} (hL : hh_L h) (e0 : x5 = Int32.ofNat j0) (b0 : j0 < g.1.length) (z0 : g.1.length < 2147483648) (e : (g.1.getD j0 0) &&& 63 = 50) (k : tr_L g d m_law 2816 [some (.ref 0), some (.ref 1000), some (.ref 1099), some (.ref 1109), some (.ref 1110), some (.int x5), w6, w7, w8] [] h r) : tr_L g d m_law 37 [some (.ref 0), some (.ref 1000), some (.ref 1099), some (.ref 1109), some (.ref 1110), some (.int x5), w6, w7, w8] [] h r := by
  refine tr_s (.aload_n 0) 1 38 [some (.ref 0), some (.ref 1000), some (.ref 1099), some (.ref 1109), some (.ref 1110), some (.int x5), w6, w7, w8] [.ref 0] h rfl rfl rfl ?_
  refine tr_s (.iload 5) 2 40 [some (.ref 0), some (.ref 1000), some (.ref 1099), some (.ref 1109), some (.ref 1110), some (.int x5), w6, w7, w8] [.int x5, .ref 0] h rfl rfl rfl ?_
  refine tr_ald .iaload 0 0 j0 x5 g.1 (Or.inl ⟨rfl, rfl⟩) rfl rfl e0 b0 z0 ?_
  refine tr_bi 63 63 (by decide) rfl ?_
  refine tr_s .iand 1 44 [some (.ref 0), some (.ref 1000), some (.ref 1099), some (.ref 1109), some (.ref 1110), some (.int x5), w6, w7, w8] [.int ((g.1.getD j0 0) &&& 63)] h rfl rfl rfl ?_
  exact tr_s (.tableswitch 2917 0 53 #[232, 330, 400, 413, 469, 525, 581, 649, 719, 775, 831, 887, 943, 999, 1055, 1123, 1191, 1247, 1317, 1375, 1447, 1505, 1549, 1593, 1637, 1709, 1781, 1825, 1890, 1948, 1961, 2005, 2049, 2062, 2075, 2131, 2144, 2157, 2170, 2226, 2291, 2357, 2370, 2426, 2482, 2538, 2596, 2640, 2684, 2728, 2772, 2816, 2860, 2873]) 232 2816 [some (.ref 0), some (.ref 1000), some (.ref 1099), some (.ref 1109), some (.ref 1110), some (.int x5), w6, w7, w8] [] h rfl rfl (by rw [e]; rfl) k
theorem sg_law_37_t51 {g : tr_g} {d : Nat} {h : ev_AH} {r : ev_O × ev_AH} {x5 : Int32} {w6 w7 w8 : Option Value} {j0 : Nat} (hL : hh_L h) (e0 : x5 = Int32.ofNat j0) (b0 : j0 < g.1.length) (z0 : g.1.length < 2147483648) (e : (g.1.getD j0 0) &&& 63 = 51) (k : tr_L g d m_law 2860 [some (.ref 0), some (.ref 1000), some (.ref 1099), some (.ref 1109), some (.ref 1110), some (.int x5), w6, w7, w8] [] h r) : tr_L g d m_law 37 [some (.ref 0), some (.ref 1000), some (.ref 1099), some (.ref 1109), some (.ref 1110), some (.int x5), w6, w7, w8] [] h r := by
  refine tr_s (.aload_n 0) 1 38 [some (.ref 0), some (.ref 1000), some (.ref 1099), some (.ref 1109), some (.ref 1110), some (.int x5), w6, w7, w8] [.ref 0] h rfl rfl rfl ?_
  refine tr_s (.iload 5) 2 40 [some (.ref 0), some (.ref 1000), some (.ref 1099), some (.ref 1109), some (.ref 1110), some (.int x5), w6, w7, w8] [.int x5, .ref 0] h rfl rfl rfl ?_
  refine tr_ald .iaload 0 0 j0 x5 g.1 (Or.inl ⟨rfl, rfl⟩) rfl rfl e0 b0 z0 ?_
  refine tr_bi 63 63 (by decide) rfl ?_
  refine tr_s .iand 1 44 [some (.ref 0), some (.ref 1000), some (.ref 1099), some (.ref 1109), some (.ref 1110), some (.int x5), w6, w7, w8] [.int ((g.1.getD j0 0) &&& 63)] h rfl rfl rfl ?_
  exact tr_s (.tableswitch 2917 0 53 #[232, 330, 400, 413, 469, 525, 581, 649, 719, 775, 831, 887, 943, 999, 1055, 1123, 1191, 1247, 1317, 1375, 1447, 1505, 1549, 1593, 1637, 1709, 1781, 1825, 1890, 1948, 1961, 2005, 2049, 2062, 2075, 2131, 2144, 2157, 2170, 2226, 2291, 2357, 2370, 2426, 2482, 2538, 2596, 2640, 2684, 2728, 2772, 2816, 2860, 2873]) 232 2860 [some (.ref 0), some (.ref 1000), some (.ref 1099), some (.ref 1109), some (.ref 1110), some (.int x5), w6, w7, w8] [] h rfl rfl (by rw [e]; rfl) k
theorem sg_law_37_t52 {g : tr_g} {d : Nat} {h : ev_AH} {r : ev_O × ev_AH} {x5 : Int32} {w6 w7 w8 : Option Value} {j0 : Nat} (hL : hh_L h) (e0 : x5 = Int32.ofNat j0) (b0 : j0 < g.1.length) (z0 : g.1.length < 2147483648) (e : (g.1.getD j0 0) &&& 63 = 52) (k : tr_L g d m_law 2904 [some (.ref 0), some (.ref 1000), some (.ref 1099), some (.ref 1109), some (.ref 1110), some (.int x5), w6, w7, w8] [] h r) : tr_L g d m_law 37 [some (.ref 0), some (.ref 1000), some (.ref 1099), some (.ref 1109), some (.ref 1110), some (.int x5), w6, w7, w8] [] h r := by
  refine tr_s (.aload_n 0) 1 38 [some (.ref 0), some (.ref 1000), some (.ref 1099), some (.ref 1109), some (.ref 1110), some (.int x5), w6, w7, w8] [.ref 0] h rfl rfl rfl ?_
  refine tr_s (.iload 5) 2 40 [some (.ref 0), some (.ref 1000), some (.ref 1099), some (.ref 1109), some (.ref 1110), some (.int x5), w6, w7, w8] [.int x5, .ref 0] h rfl rfl rfl ?_
  refine tr_ald .iaload 0 0 j0 x5 g.1 (Or.inl ⟨rfl, rfl⟩) rfl rfl e0 b0 z0 ?_
  refine tr_bi 63 63 (by decide) rfl ?_
  refine tr_s .iand 1 44 [some (.ref 0), some (.ref 1000), some (.ref 1099), some (.ref 1109), some (.ref 1110), some (.int x5), w6, w7, w8] [.int ((g.1.getD j0 0) &&& 63)] h rfl rfl rfl ?_
  exact tr_s (.tableswitch 2917 0 53 #[232, 330, 400, 413, 469, 525, 581, 649, 719, 775, 831, 887, 943, 999, 1055, 1123, 1191, 1247, 1317, 1375, 1447, 1505, 1549, 1593, 1637, 1709, 1781, 1825, 1890, 1948, 1961, 2005, 2049, 2062, 2075, 2131, 2144, 2157, 2170, 2226, 2291, 2357, 2370, 2426, 2482, 2538, 2596, 2640, 2684, 2728, 2772, 2816, 2860, 2873]) 232 2904 [some (.ref 0), some (.ref 1000), some (.ref 1099), some (.ref 1109), some (.ref 1110), some (.int x5), w6, w7, w8] [] h rfl rfl (by rw [e]; rfl) k
theorem sg_law_37_t53 {g : tr_g} {d : Nat} {h : ev_AH} {r : ev_O × ev_AH} {x5 : Int32} {w6 w7 w8 : Option Value} {j0 : Nat} (hL : hh_L h) (e0 : x5 = Int32.ofNat j0) (b0 : j0 < g.1.length) (z0 : g.1.length < 2147483648) (e : (g.1.getD j0 0) &&& 63 = 53) (k : tr_L g d m_law 2917 [some (.ref 0), some (.ref 1000), some (.ref 1099), some (.ref 1109), some (.ref 1110), some (.int x5), w6, w7, w8] [] h r) : tr_L g d m_law 37 [some (.ref 0), some (.ref 1000), some (.ref 1099), some (.ref 1109), some (.ref 1110), some (.int x5), w6, w7, w8] [] h r := by
  refine tr_s (.aload_n 0) 1 38 [some (.ref 0), some (.ref 1000), some (.ref 1099), some (.ref 1109), some (.ref 1110), some (.int x5), w6, w7, w8] [.ref 0] h rfl rfl rfl ?_
  refine tr_s (.iload 5) 2 40 [some (.ref 0), some (.ref 1000), some (.ref 1099), some (.ref 1109), some (.ref 1110), some (.int x5), w6, w7, w8] [.int x5, .ref 0] h rfl rfl rfl ?_
  refine tr_ald .iaload 0 0 j0 x5 g.1 (Or.inl ⟨rfl, rfl⟩) rfl rfl e0 b0 z0 ?_
  refine tr_bi 63 63 (by decide) rfl ?_
  refine tr_s .iand 1 44 [some (.ref 0), some (.ref 1000), some (.ref 1099), some (.ref 1109), some (.ref 1110), some (.int x5), w6, w7, w8] [.int ((g.1.getD j0 0) &&& 63)] h rfl rfl rfl ?_
  exact tr_s (.tableswitch 2917 0 53 #[232, 330, 400, 413, 469, 525, 581, 649, 719, 775, 831, 887, 943, 999, 1055, 1123, 1191, 1247, 1317, 1375, 1447, 1505, 1549, 1593, 1637, 1709, 1781, 1825, 1890, 1948, 1961, 2005, 2049, 2062, 2075, 2131, 2144, 2157, 2170, 2226, 2291, 2357, 2370, 2426, 2482, 2538, 2596, 2640, 2684, 2728, 2772, 2816, 2860, 2873]) 232 2917 [some (.ref 0), some (.ref 1000), some (.ref 1099), some (.ref 1109), some (.ref 1110), some (.int x5), w6, w7, w8] [] h rfl rfl (by rw [e]; rfl) k
theorem sg_law_37_td {g : tr_g} {d : Nat} {h : ev_AH} {r : ev_O × ev_AH} {x5 : Int32} {w6 w7 w8 : Option Value} {j0 : Nat} (hL : hh_L h) (e0 : x5 = Int32.ofNat j0) (b0 : j0 < g.1.length) (z0 : g.1.length < 2147483648) (e : ((g.1.getD j0 0) &&& 63).toInt < 0 ∨ 53 < ((g.1.getD j0 0) &&& 63).toInt) (k : tr_L g d m_law 2961 [some (.ref 0), some (.ref 1000), some (.ref 1099), some (.ref 1109), some (.ref 1110), some (.int x5), w6, w7, w8] [] h r) : tr_L g d m_law 37 [some (.ref 0), some (.ref 1000), some (.ref 1099), some (.ref 1109), some (.ref 1110), some (.int x5), w6, w7, w8] [] h r := by
  refine tr_s (.aload_n 0) 1 38 [some (.ref 0), some (.ref 1000), some (.ref 1099), some (.ref 1109), some (.ref 1110), some (.int x5), w6, w7, w8] [.ref 0] h rfl rfl rfl ?_
  refine tr_s (.iload 5) 2 40 [some (.ref 0), some (.ref 1000), some (.ref 1099), some (.ref 1109), some (.ref 1110), some (.int x5), w6, w7, w8] [.int x5, .ref 0] h rfl rfl rfl ?_
  refine tr_ald .iaload 0 0 j0 x5 g.1 (Or.inl ⟨rfl, rfl⟩) rfl rfl e0 b0 z0 ?_
  refine tr_bi 63 63 (by decide) rfl ?_
  refine tr_s .iand 1 44 [some (.ref 0), some (.ref 1000), some (.ref 1099), some (.ref 1109), some (.ref 1110), some (.int x5), w6, w7, w8] [.int ((g.1.getD j0 0) &&& 63)] h rfl rfl rfl ?_
  exact tr_s (.tableswitch 2917 0 53 #[232, 330, 400, 413, 469, 525, 581, 649, 719, 775, 831, 887, 943, 999, 1055, 1123, 1191, 1247, 1317, 1375, 1447, 1505, 1549, 1593, 1637, 1709, 1781, 1825, 1890, 1948, 1961, 2005, 2049, 2062, 2075, 2131, 2144, 2157, 2170, 2226, 2291, 2357, 2370, 2426, 2482, 2538, 2596, 2640, 2684, 2728, 2772, 2816, 2860, 2873]) 232 2961 [some (.ref 0), some (.ref 1000), some (.ref 1099), some (.ref 1109), some (.ref 1110), some (.int x5), w6, w7, w8] [] h rfl rfl (tr_tsd rfl e) k
theorem sg_law_276 {g : tr_g} {d : Nat} {h : ev_AH} {r : ev_O × ev_AH} {x5 v0 v1 v2 : Int32} {w6 w7 w8 : Option Value} {j0 j1 j2 j3 j4 j5 j6 j7 : Nat} {h1 h2 h3 : ev_AH} (hL : hh_L h) (e0 : x5 + 1 = Int32.ofNat j0) (b0 : j0 < g.1.length) (z0 : g.1.length < 2147483648) (e1 : x5 + 2 = Int32.ofNat j1) (b1 : j1 < g.1.length) (z1 : g.1.length < 2147483648) (e2 : x5 + 3 = Int32.ofNat j2) (b2 : j2 < g.1.length) (z2 : g.1.length < 2147483648) (e3 : x5 + 4 = Int32.ofNat j3) (b3 : j3 < g.1.length) (z3 : g.1.length < 2147483648) (c_0 : tr_L g d m_L_addCat 0 [some (.ref 1000), some (.int (g.1.getD j0 0)), some (.int (((g.1.getD j1 0).toUInt32 % 65536).toInt32)), some (.int (((g.1.getD j2 0).toUInt32 % 65536).toInt32)), some (.int (((g.1.getD j3 0).toUInt32 % 65536).toInt32)), some (.ref 1109), none] [] h (.inl (some (.int v0)), h1)) (e4 : x5 + 1 = Int32.ofNat j4) (b4 : j4 < g.1.length) (z4 : g.1.length < 2147483648) (e5 : x5 + 2 = Int32.ofNat j5) (b5 : j5 < g.1.length) (z5 : g.1.length < 2147483648) (e6 : x5 + 3 = Int32.ofNat j6) (b6 : j6 < g.1.length) (z6 : g.1.length < 2147483648) (e7 : x5 + 4 = Int32.ofNat j7) (b7 : j7 < g.1.length) (z7 : g.1.length < 2147483648) (c_1 : tr_L g d m_X9_addCat 0 [some (.ref 1099), some (.int (g.1.getD j4 0)), some (.int (((g.1.getD j5 0).toUInt32 % 65536).toInt32)), some (.int (((g.1.getD j6 0).toUInt32 % 65536).toInt32)), some (.int (((g.1.getD j7 0).toUInt32 % 65536).toInt32))] [] h1 (.inl (some (.int v1)), h2)) (c_2 : tr_L g d m_X9_thrown 0 [some (.ref 1099)] [] h2 (.inl (some (.int v2)), h3)) (t : v2 = v0 → tr_L g (d + 1) m_law 354 [some (.ref 0), some (.ref 1000), some (.ref 1099), some (.ref 1109), some (.ref 1110), some (.int x5), some (.int v0), some (.int v1), w8] [] h3 r) (f : v2 ≠ v0 → tr_L g (d + 1) m_law 352 [some (.ref 0), some (.ref 1000), some (.ref 1099), some (.ref 1109), some (.ref 1110), some (.int x5), some (.int v0), some (.int v1), w8] [] h3 r) : tr_L g (d + 1) m_law 276 [some (.ref 0), some (.ref 1000), some (.ref 1099), some (.ref 1109), some (.ref 1110), some (.int x5), w6, w7, w8] [] h r := by
  refine tr_s (.aload_n 1) 1 277 [some (.ref 0), some (.ref 1000), some (.ref 1099), some (.ref 1109), some (.ref 1110), some (.int x5), w6, w7, w8] [.ref 1000] h rfl rfl rfl ?_
  refine tr_s (.aload_n 0) 1 278 [some (.ref 0), some (.ref 1000), some (.ref 1099), some (.ref 1109), some (.ref 1110), some (.int x5), w6, w7, w8] [.ref 0, .ref 1000] h rfl rfl rfl ?_
  refine tr_s (.iload 5) 2 280 [some (.ref 0), some (.ref 1000), some (.ref 1099), some (.ref 1109), some (.ref 1110), some (.int x5), w6, w7, w8] [.int x5, .ref 0, .ref 1000] h rfl rfl rfl ?_
  refine tr_ic 1 1 (by decide) rfl ?_
  refine tr_s .iadd 1 282 [some (.ref 0), some (.ref 1000), some (.ref 1099), some (.ref 1109), some (.ref 1110), some (.int x5), w6, w7, w8] [.int (x5 + 1), .ref 0, .ref 1000] h rfl rfl rfl ?_
  refine tr_ald .iaload 0 0 j0 (x5 + 1) g.1 (Or.inl ⟨rfl, rfl⟩) rfl rfl e0 b0 z0 ?_
  refine tr_s (.aload_n 0) 1 284 [some (.ref 0), some (.ref 1000), some (.ref 1099), some (.ref 1109), some (.ref 1110), some (.int x5), w6, w7, w8] [.ref 0, .int (g.1.getD j0 0), .ref 1000] h rfl rfl rfl ?_
  refine tr_s (.iload 5) 2 286 [some (.ref 0), some (.ref 1000), some (.ref 1099), some (.ref 1109), some (.ref 1110), some (.int x5), w6, w7, w8] [.int x5, .ref 0, .int (g.1.getD j0 0), .ref 1000] h rfl rfl rfl ?_
  refine tr_ic 2 2 (by decide) rfl ?_
  refine tr_s .iadd 1 288 [some (.ref 0), some (.ref 1000), some (.ref 1099), some (.ref 1109), some (.ref 1110), some (.int x5), w6, w7, w8] [.int (x5 + 2), .ref 0, .int (g.1.getD j0 0), .ref 1000] h rfl rfl rfl ?_
  refine tr_ald .iaload 0 0 j1 (x5 + 2) g.1 (Or.inl ⟨rfl, rfl⟩) rfl rfl e1 b1 z1 ?_
  refine tr_s .i2c 1 290 [some (.ref 0), some (.ref 1000), some (.ref 1099), some (.ref 1109), some (.ref 1110), some (.int x5), w6, w7, w8] [.int (((g.1.getD j1 0).toUInt32 % 65536).toInt32), .int (g.1.getD j0 0), .ref 1000] h rfl rfl rfl ?_
  refine tr_s (.aload_n 0) 1 291 [some (.ref 0), some (.ref 1000), some (.ref 1099), some (.ref 1109), some (.ref 1110), some (.int x5), w6, w7, w8] [.ref 0, .int (((g.1.getD j1 0).toUInt32 % 65536).toInt32), .int (g.1.getD j0 0), .ref 1000] h rfl rfl rfl ?_
  refine tr_s (.iload 5) 2 293 [some (.ref 0), some (.ref 1000), some (.ref 1099), some (.ref 1109), some (.ref 1110), some (.int x5), w6, w7, w8] [.int x5, .ref 0, .int (((g.1.getD j1 0).toUInt32 % 65536).toInt32), .int (g.1.getD j0 0), .ref 1000] h rfl rfl rfl ?_
  refine tr_ic 3 3 (by decide) rfl ?_
  refine tr_s .iadd 1 295 [some (.ref 0), some (.ref 1000), some (.ref 1099), some (.ref 1109), some (.ref 1110), some (.int x5), w6, w7, w8] [.int (x5 + 3), .ref 0, .int (((g.1.getD j1 0).toUInt32 % 65536).toInt32), .int (g.1.getD j0 0), .ref 1000] h rfl rfl rfl ?_
  refine tr_ald .iaload 0 0 j2 (x5 + 3) g.1 (Or.inl ⟨rfl, rfl⟩) rfl rfl e2 b2 z2 ?_
  refine tr_s .i2c 1 297 [some (.ref 0), some (.ref 1000), some (.ref 1099), some (.ref 1109), some (.ref 1110), some (.int x5), w6, w7, w8] [.int (((g.1.getD j2 0).toUInt32 % 65536).toInt32), .int (((g.1.getD j1 0).toUInt32 % 65536).toInt32), .int (g.1.getD j0 0), .ref 1000] h rfl rfl rfl ?_
  refine tr_s (.aload_n 0) 1 298 [some (.ref 0), some (.ref 1000), some (.ref 1099), some (.ref 1109), some (.ref 1110), some (.int x5), w6, w7, w8] [.ref 0, .int (((g.1.getD j2 0).toUInt32 % 65536).toInt32), .int (((g.1.getD j1 0).toUInt32 % 65536).toInt32), .int (g.1.getD j0 0), .ref 1000] h rfl rfl rfl ?_
  refine tr_s (.iload 5) 2 300 [some (.ref 0), some (.ref 1000), some (.ref 1099), some (.ref 1109), some (.ref 1110), some (.int x5), w6, w7, w8] [.int x5, .ref 0, .int (((g.1.getD j2 0).toUInt32 % 65536).toInt32), .int (((g.1.getD j1 0).toUInt32 % 65536).toInt32), .int (g.1.getD j0 0), .ref 1000] h rfl rfl rfl ?_
  refine tr_ic 4 4 (by decide) rfl ?_
  refine tr_s .iadd 1 302 [some (.ref 0), some (.ref 1000), some (.ref 1099), some (.ref 1109), some (.ref 1110), some (.int x5), w6, w7, w8] [.int (x5 + 4), .ref 0, .int (((g.1.getD j2 0).toUInt32 % 65536).toInt32), .int (((g.1.getD j1 0).toUInt32 % 65536).toInt32), .int (g.1.getD j0 0), .ref 1000] h rfl rfl rfl ?_
  refine tr_ald .iaload 0 0 j3 (x5 + 4) g.1 (Or.inl ⟨rfl, rfl⟩) rfl rfl e3 b3 z3 ?_
  refine tr_s .i2c 1 304 [some (.ref 0), some (.ref 1000), some (.ref 1099), some (.ref 1109), some (.ref 1110), some (.int x5), w6, w7, w8] [.int (((g.1.getD j3 0).toUInt32 % 65536).toInt32), .int (((g.1.getD j2 0).toUInt32 % 65536).toInt32), .int (((g.1.getD j1 0).toUInt32 % 65536).toInt32), .int (g.1.getD j0 0), .ref 1000] h rfl rfl rfl ?_
  refine tr_s (.aload_n 3) 1 305 [some (.ref 0), some (.ref 1000), some (.ref 1099), some (.ref 1109), some (.ref 1110), some (.int x5), w6, w7, w8] [.ref 1109, .int (((g.1.getD j3 0).toUInt32 % 65536).toInt32), .int (((g.1.getD j2 0).toUInt32 % 65536).toInt32), .int (((g.1.getD j1 0).toUInt32 % 65536).toInt32), .int (g.1.getD j0 0), .ref 1000] h rfl rfl rfl ?_
  refine tr_call (.invokestatic 174) 174 8 6 0 m_L_addCat [.ref 1000, .int (g.1.getD j0 0), .int (((g.1.getD j1 0).toUInt32 % 65536).toInt32), .int (((g.1.getD j2 0).toUInt32 % 65536).toInt32), .int (((g.1.getD j3 0).toUInt32 % 65536).toInt32), .ref 1109] [] (some (.int v0)) h1 rfl rfl rfl rfl rfl rfl rfl rfl rfl (tr_cok rfl (Or.inl rfl)) c_0 ?_
  have hL0 := c_0.2
  refine tr_st (.istore 6) 2 6 0 (.int v0) rfl rfl rfl rfl rfl rfl rfl ?_
  refine tr_s (.aload_n 2) 1 311 [some (.ref 0), some (.ref 1000), some (.ref 1099), some (.ref 1109), some (.ref 1110), some (.int x5), some (.int v0), w7, w8] [.ref 1099] h1 rfl rfl rfl ?_
  refine tr_s (.aload_n 0) 1 312 [some (.ref 0), some (.ref 1000), some (.ref 1099), some (.ref 1109), some (.ref 1110), some (.int x5), some (.int v0), w7, w8] [.ref 0, .ref 1099] h1 rfl rfl rfl ?_
  refine tr_s (.iload 5) 2 314 [some (.ref 0), some (.ref 1000), some (.ref 1099), some (.ref 1109), some (.ref 1110), some (.int x5), some (.int v0), w7, w8] [.int x5, .ref 0, .ref 1099] h1 rfl rfl rfl ?_
  refine tr_ic 1 1 (by decide) rfl ?_
  refine tr_s .iadd 1 316 [some (.ref 0), some (.ref 1000), some (.ref 1099), some (.ref 1109), some (.ref 1110), some (.int x5), some (.int v0), w7, w8] [.int (x5 + 1), .ref 0, .ref 1099] h1 rfl rfl rfl ?_
  refine tr_ald .iaload 0 0 j4 (x5 + 1) g.1 (Or.inl ⟨rfl, rfl⟩) rfl rfl e4 b4 z4 ?_
  refine tr_s (.aload_n 0) 1 318 [some (.ref 0), some (.ref 1000), some (.ref 1099), some (.ref 1109), some (.ref 1110), some (.int x5), some (.int v0), w7, w8] [.ref 0, .int (g.1.getD j4 0), .ref 1099] h1 rfl rfl rfl ?_
  refine tr_s (.iload 5) 2 320 [some (.ref 0), some (.ref 1000), some (.ref 1099), some (.ref 1109), some (.ref 1110), some (.int x5), some (.int v0), w7, w8] [.int x5, .ref 0, .int (g.1.getD j4 0), .ref 1099] h1 rfl rfl rfl ?_
  refine tr_ic 2 2 (by decide) rfl ?_
  refine tr_s .iadd 1 322 [some (.ref 0), some (.ref 1000), some (.ref 1099), some (.ref 1109), some (.ref 1110), some (.int x5), some (.int v0), w7, w8] [.int (x5 + 2), .ref 0, .int (g.1.getD j4 0), .ref 1099] h1 rfl rfl rfl ?_
  refine tr_ald .iaload 0 0 j5 (x5 + 2) g.1 (Or.inl ⟨rfl, rfl⟩) rfl rfl e5 b5 z5 ?_
  refine tr_s .i2c 1 324 [some (.ref 0), some (.ref 1000), some (.ref 1099), some (.ref 1109), some (.ref 1110), some (.int x5), some (.int v0), w7, w8] [.int (((g.1.getD j5 0).toUInt32 % 65536).toInt32), .int (g.1.getD j4 0), .ref 1099] h1 rfl rfl rfl ?_
  refine tr_s (.aload_n 0) 1 325 [some (.ref 0), some (.ref 1000), some (.ref 1099), some (.ref 1109), some (.ref 1110), some (.int x5), some (.int v0), w7, w8] [.ref 0, .int (((g.1.getD j5 0).toUInt32 % 65536).toInt32), .int (g.1.getD j4 0), .ref 1099] h1 rfl rfl rfl ?_
  refine tr_s (.iload 5) 2 327 [some (.ref 0), some (.ref 1000), some (.ref 1099), some (.ref 1109), some (.ref 1110), some (.int x5), some (.int v0), w7, w8] [.int x5, .ref 0, .int (((g.1.getD j5 0).toUInt32 % 65536).toInt32), .int (g.1.getD j4 0), .ref 1099] h1 rfl rfl rfl ?_
  refine tr_ic 3 3 (by decide) rfl ?_
  refine tr_s .iadd 1 329 [some (.ref 0), some (.ref 1000), some (.ref 1099), some (.ref 1109), some (.ref 1110), some (.int x5), some (.int v0), w7, w8] [.int (x5 + 3), .ref 0, .int (((g.1.getD j5 0).toUInt32 % 65536).toInt32), .int (g.1.getD j4 0), .ref 1099] h1 rfl rfl rfl ?_
  refine tr_ald .iaload 0 0 j6 (x5 + 3) g.1 (Or.inl ⟨rfl, rfl⟩) rfl rfl e6 b6 z6 ?_
  refine tr_s .i2c 1 331 [some (.ref 0), some (.ref 1000), some (.ref 1099), some (.ref 1109), some (.ref 1110), some (.int x5), some (.int v0), w7, w8] [.int (((g.1.getD j6 0).toUInt32 % 65536).toInt32), .int (((g.1.getD j5 0).toUInt32 % 65536).toInt32), .int (g.1.getD j4 0), .ref 1099] h1 rfl rfl rfl ?_
  refine tr_s (.aload_n 0) 1 332 [some (.ref 0), some (.ref 1000), some (.ref 1099), some (.ref 1109), some (.ref 1110), some (.int x5), some (.int v0), w7, w8] [.ref 0, .int (((g.1.getD j6 0).toUInt32 % 65536).toInt32), .int (((g.1.getD j5 0).toUInt32 % 65536).toInt32), .int (g.1.getD j4 0), .ref 1099] h1 rfl rfl rfl ?_
  refine tr_s (.iload 5) 2 334 [some (.ref 0), some (.ref 1000), some (.ref 1099), some (.ref 1109), some (.ref 1110), some (.int x5), some (.int v0), w7, w8] [.int x5, .ref 0, .int (((g.1.getD j6 0).toUInt32 % 65536).toInt32), .int (((g.1.getD j5 0).toUInt32 % 65536).toInt32), .int (g.1.getD j4 0), .ref 1099] h1 rfl rfl rfl ?_
  refine tr_ic 4 4 (by decide) rfl ?_
  refine tr_s .iadd 1 336 [some (.ref 0), some (.ref 1000), some (.ref 1099), some (.ref 1109), some (.ref 1110), some (.int x5), some (.int v0), w7, w8] [.int (x5 + 4), .ref 0, .int (((g.1.getD j6 0).toUInt32 % 65536).toInt32), .int (((g.1.getD j5 0).toUInt32 % 65536).toInt32), .int (g.1.getD j4 0), .ref 1099] h1 rfl rfl rfl ?_
  refine tr_ald .iaload 0 0 j7 (x5 + 4) g.1 (Or.inl ⟨rfl, rfl⟩) rfl rfl e7 b7 z7 ?_
  refine tr_s .i2c 1 338 [some (.ref 0), some (.ref 1000), some (.ref 1099), some (.ref 1109), some (.ref 1110), some (.int x5), some (.int v0), w7, w8] [.int (((g.1.getD j7 0).toUInt32 % 65536).toInt32), .int (((g.1.getD j6 0).toUInt32 % 65536).toInt32), .int (((g.1.getD j5 0).toUInt32 % 65536).toInt32), .int (g.1.getD j4 0), .ref 1099] h1 rfl rfl rfl ?_
  refine tr_call (.invokevirtual 179) 179 0 4 8 m_X9_addCat [.ref 1099, .int (g.1.getD j4 0), .int (((g.1.getD j5 0).toUInt32 % 65536).toInt32), .int (((g.1.getD j6 0).toUInt32 % 65536).toInt32), .int (((g.1.getD j7 0).toUInt32 % 65536).toInt32)] [] (some (.int v1)) h2 rfl rfl rfl rfl rfl rfl rfl rfl rfl (tr_cok rfl (Or.inr ⟨_, _, rfl, tr_rc (hh_rd (hh_obj hL0 (k := 99) rfl).1) (by decide)⟩)) c_1 ?_
  have hL1 := c_1.2
  refine tr_st (.istore 7) 2 7 0 (.int v1) rfl rfl rfl rfl rfl rfl rfl ?_
  refine tr_s (.aload_n 2) 1 344 [some (.ref 0), some (.ref 1000), some (.ref 1099), some (.ref 1109), some (.ref 1110), some (.int x5), some (.int v0), some (.int v1), w8] [.ref 1099] h2 rfl rfl rfl ?_
  refine tr_call (.invokevirtual 180) 180 0 0 8 m_X9_thrown [.ref 1099] [] (some (.int v2)) h3 rfl rfl rfl rfl rfl rfl rfl rfl rfl (tr_cok rfl (Or.inr ⟨_, _, rfl, tr_rc (hh_rd (hh_obj hL1 (k := 99) rfl).1) (by decide)⟩)) c_2 ?_
  have hL2 := c_2.2
  refine tr_s (.iload 6) 2 349 [some (.ref 0), some (.ref 1000), some (.ref 1099), some (.ref 1109), some (.ref 1110), some (.int x5), some (.int v0), some (.int v1), w8] [.int v0, .int v2] h3 rfl rfl rfl ?_
  exact tr_if2 .eq 5 354 v2 v0 rfl rfl rfl (fun hc => t ((tr_eq hc).1 rfl)) (fun hc => f ((tr_eq hc).2 rfl))
theorem sg_law_352 {g : tr_g} {d : Nat} {h : ev_AH} {r : ev_O × ev_AH} {w0 w1 w2 w3 w4 w5 w6 w7 w8 : Option Value} (hL : hh_L h) (hr : r = (.inl (some (.int 0)), h)) : tr_L g d m_law 352 [w0, w1, w2, w3, w4, w5, w6, w7, w8] [] h r := by
  refine tr_ic 0 0 (by decide) rfl ?_
  exact tl_ret hL .ireturn 1 (some (.int 0)) rfl rfl rfl rfl hr
theorem sg_law_354 {g : tr_g} {d : Nat} {h : ev_AH} {r : ev_O × ev_AH} {x5 x6 x7 : Int32} {w8 : Option Value} (hL : hh_L h) (t : x6 ≠ 0 → tr_L g d m_law 371 [some (.ref 0), some (.ref 1000), some (.ref 1099), some (.ref 1109), some (.ref 1110), some (.int x5), some (.int x6), some (.int x7), w8] [] h r) (f : x6 = 0 → tr_L g d m_law 359 [some (.ref 0), some (.ref 1000), some (.ref 1099), some (.ref 1109), some (.ref 1110), some (.int x5), some (.int x6), some (.int x7), w8] [] h r) : tr_L g d m_law 354 [some (.ref 0), some (.ref 1000), some (.ref 1099), some (.ref 1109), some (.ref 1110), some (.int x5), some (.int x6), some (.int x7), w8] [] h r := by
  refine tr_s (.iload 6) 2 356 [some (.ref 0), some (.ref 1000), some (.ref 1099), some (.ref 1109), some (.ref 1110), some (.int x5), some (.int x6), some (.int x7), w8] [.int x6] h rfl rfl rfl ?_
  exact tr_if1 .ne 15 371 x6 rfl rfl rfl (fun hc => t ((tr_ne hc).1 rfl)) (fun hc => f ((tr_ne hc).2 rfl))
theorem sg_law_359 {g : tr_g} {d : Nat} {h : ev_AH} {r : ev_O × ev_AH} {x5 x7 : Int32} {w6 w8 : Option Value} {u0 : Int64} (hL : hh_L h) (p0 : (hh_v h 109)[0]? = some (.long u0)) (t : (lg_cmp u0 x7.toInt64) = 0 → tr_L g d m_law 371 [some (.ref 0), some (.ref 1000), some (.ref 1099), some (.ref 1109), some (.ref 1110), some (.int x5), w6, some (.int x7), w8] [] h r) (f : (lg_cmp u0 x7.toInt64) ≠ 0 → tr_L g d m_law 369 [some (.ref 0), some (.ref 1000), some (.ref 1099), some (.ref 1109), some (.ref 1110), some (.int x5), w6, some (.int x7), w8] [] h r) : tr_L g d m_law 359 [some (.ref 0), some (.ref 1000), some (.ref 1099), some (.ref 1109), some (.ref 1110), some (.int x5), w6, some (.int x7), w8] [] h r := by
  refine tr_s (.aload_n 3) 1 360 [some (.ref 0), some (.ref 1000), some (.ref 1099), some (.ref 1109), some (.ref 1110), some (.int x5), w6, some (.int x7), w8] [.ref 1109] h rfl rfl rfl ?_
  refine tr_ic 0 0 (by decide) rfl ?_
  refine tr_lald 1109 u0 _ rfl (by decide) (hh_rd (hh_obj hL (k := 109) rfl).1) (hh_obj hL (k := 109) rfl).2 p0 ?_
  refine tr_s (.iload 7) 2 364 [some (.ref 0), some (.ref 1000), some (.ref 1099), some (.ref 1109), some (.ref 1110), some (.int x5), w6, some (.int x7), w8] [.int x7, .long u0] h rfl rfl rfl ?_
  refine tr_s .i2l 1 365 [some (.ref 0), some (.ref 1000), some (.ref 1099), some (.ref 1109), some (.ref 1110), some (.int x5), w6, some (.int x7), w8] [.long x7.toInt64, .long u0] h rfl rfl rfl ?_
  refine tr_s .lcmp 1 366 [some (.ref 0), some (.ref 1000), some (.ref 1099), some (.ref 1109), some (.ref 1110), some (.int x5), w6, some (.int x7), w8] [.int (lg_cmp u0 x7.toInt64)] h rfl rfl rfl ?_
  exact tr_if1 .eq 5 371 (lg_cmp u0 x7.toInt64) rfl rfl rfl (fun hc => t ((tr_eq hc).1 rfl)) (fun hc => f ((tr_eq hc).2 rfl))
theorem sg_law_369 {g : tr_g} {d : Nat} {h : ev_AH} {r : ev_O × ev_AH} {w0 w1 w2 w3 w4 w5 w6 w7 w8 : Option Value} (hL : hh_L h) (hr : r = (.inl (some (.int 0)), h)) : tr_L g d m_law 369 [w0, w1, w2, w3, w4, w5, w6, w7, w8] [] h r := by
  refine tr_ic 0 0 (by decide) rfl ?_
  exact tl_ret hL .ireturn 1 (some (.int 0)) rfl rfl rfl rfl hr
theorem sg_law_371 {g : tr_g} {d : Nat} {h : ev_AH} {r : ev_O × ev_AH} {x5 : Int32} {w6 w7 w8 : Option Value} (hL : hh_L h) (k : tr_L g d m_law 28 [some (.ref 0), some (.ref 1000), some (.ref 1099), some (.ref 1109), some (.ref 1110), some (.int (x5 + 5)), w6, w7, w8] [] h r) : tr_L g d m_law 371 [some (.ref 0), some (.ref 1000), some (.ref 1099), some (.ref 1109), some (.ref 1110), some (.int x5), w6, w7, w8] [] h r := by
  refine tr_goto 2590 2961 rfl rfl rfl ?_
  refine tr_inc 5 5 x5 5 (by decide) rfl rfl rfl ?_
  refine tr_goto (-2936) 28 rfl rfl rfl ?_
  exact k
theorem sg_law_374 {g : tr_g} {d : Nat} {h : ev_AH} {r : ev_O × ev_AH} {x5 v0 v1 v2 : Int32} {w6 w7 w8 : Option Value} {j0 j1 j2 j3 : Nat} {h1 h2 h3 : ev_AH} (hL : hh_L h) (e0 : x5 + 1 = Int32.ofNat j0) (b0 : j0 < g.1.length) (z0 : g.1.length < 2147483648) (e1 : x5 + 2 = Int32.ofNat j1) (b1 : j1 < g.1.length) (z1 : g.1.length < 2147483648) (c_0 : tr_L g d m_L_setMirror 0 [some (.ref 1000), some (.int (g.1.getD j0 0)), some (.int (((g.1.getD j1 0).toUInt32 % 65536).toInt32)), some (.ref 1109), none] [] h (.inl (some (.int v0)), h1)) (e2 : x5 + 1 = Int32.ofNat j2) (b2 : j2 < g.1.length) (z2 : g.1.length < 2147483648) (e3 : x5 + 2 = Int32.ofNat j3) (b3 : j3 < g.1.length) (z3 : g.1.length < 2147483648) (c_1 : tr_L g d m_X9_setMirror 0 [some (.ref 1099), some (.int (g.1.getD j2 0)), some (.int (((g.1.getD j3 0).toUInt32 % 65536).toInt32))] [] h1 (.inl (some (.int v1)), h2)) (c_2 : tr_L g d m_X9_thrown 0 [some (.ref 1099)] [] h2 (.inl (some (.int v2)), h3)) (t : v2 = v0 → tr_L g (d + 1) m_law 424 [some (.ref 0), some (.ref 1000), some (.ref 1099), some (.ref 1109), some (.ref 1110), some (.int x5), some (.int v0), some (.int v1), w8] [] h3 r) (f : v2 ≠ v0 → tr_L g (d + 1) m_law 422 [some (.ref 0), some (.ref 1000), some (.ref 1099), some (.ref 1109), some (.ref 1110), some (.int x5), some (.int v0), some (.int v1), w8] [] h3 r) : tr_L g (d + 1) m_law 374 [some (.ref 0), some (.ref 1000), some (.ref 1099), some (.ref 1109), some (.ref 1110), some (.int x5), w6, w7, w8] [] h r := by
  refine tr_s (.aload_n 1) 1 375 [some (.ref 0), some (.ref 1000), some (.ref 1099), some (.ref 1109), some (.ref 1110), some (.int x5), w6, w7, w8] [.ref 1000] h rfl rfl rfl ?_
  refine tr_s (.aload_n 0) 1 376 [some (.ref 0), some (.ref 1000), some (.ref 1099), some (.ref 1109), some (.ref 1110), some (.int x5), w6, w7, w8] [.ref 0, .ref 1000] h rfl rfl rfl ?_
  refine tr_s (.iload 5) 2 378 [some (.ref 0), some (.ref 1000), some (.ref 1099), some (.ref 1109), some (.ref 1110), some (.int x5), w6, w7, w8] [.int x5, .ref 0, .ref 1000] h rfl rfl rfl ?_
  refine tr_ic 1 1 (by decide) rfl ?_
  refine tr_s .iadd 1 380 [some (.ref 0), some (.ref 1000), some (.ref 1099), some (.ref 1109), some (.ref 1110), some (.int x5), w6, w7, w8] [.int (x5 + 1), .ref 0, .ref 1000] h rfl rfl rfl ?_
  refine tr_ald .iaload 0 0 j0 (x5 + 1) g.1 (Or.inl ⟨rfl, rfl⟩) rfl rfl e0 b0 z0 ?_
  refine tr_s (.aload_n 0) 1 382 [some (.ref 0), some (.ref 1000), some (.ref 1099), some (.ref 1109), some (.ref 1110), some (.int x5), w6, w7, w8] [.ref 0, .int (g.1.getD j0 0), .ref 1000] h rfl rfl rfl ?_
  refine tr_s (.iload 5) 2 384 [some (.ref 0), some (.ref 1000), some (.ref 1099), some (.ref 1109), some (.ref 1110), some (.int x5), w6, w7, w8] [.int x5, .ref 0, .int (g.1.getD j0 0), .ref 1000] h rfl rfl rfl ?_
  refine tr_ic 2 2 (by decide) rfl ?_
  refine tr_s .iadd 1 386 [some (.ref 0), some (.ref 1000), some (.ref 1099), some (.ref 1109), some (.ref 1110), some (.int x5), w6, w7, w8] [.int (x5 + 2), .ref 0, .int (g.1.getD j0 0), .ref 1000] h rfl rfl rfl ?_
  refine tr_ald .iaload 0 0 j1 (x5 + 2) g.1 (Or.inl ⟨rfl, rfl⟩) rfl rfl e1 b1 z1 ?_
  refine tr_s .i2c 1 388 [some (.ref 0), some (.ref 1000), some (.ref 1099), some (.ref 1109), some (.ref 1110), some (.int x5), w6, w7, w8] [.int (((g.1.getD j1 0).toUInt32 % 65536).toInt32), .int (g.1.getD j0 0), .ref 1000] h rfl rfl rfl ?_
  refine tr_s (.aload_n 3) 1 389 [some (.ref 0), some (.ref 1000), some (.ref 1099), some (.ref 1109), some (.ref 1110), some (.int x5), w6, w7, w8] [.ref 1109, .int (((g.1.getD j1 0).toUInt32 % 65536).toInt32), .int (g.1.getD j0 0), .ref 1000] h rfl rfl rfl ?_
  refine tr_call (.invokestatic 183) 183 8 4 0 m_L_setMirror [.ref 1000, .int (g.1.getD j0 0), .int (((g.1.getD j1 0).toUInt32 % 65536).toInt32), .ref 1109] [] (some (.int v0)) h1 rfl rfl rfl rfl rfl rfl rfl rfl rfl (tr_cok rfl (Or.inl rfl)) c_0 ?_
  have hL0 := c_0.2
  refine tr_st (.istore 6) 2 6 0 (.int v0) rfl rfl rfl rfl rfl rfl rfl ?_
  refine tr_s (.aload_n 2) 1 395 [some (.ref 0), some (.ref 1000), some (.ref 1099), some (.ref 1109), some (.ref 1110), some (.int x5), some (.int v0), w7, w8] [.ref 1099] h1 rfl rfl rfl ?_
  refine tr_s (.aload_n 0) 1 396 [some (.ref 0), some (.ref 1000), some (.ref 1099), some (.ref 1109), some (.ref 1110), some (.int x5), some (.int v0), w7, w8] [.ref 0, .ref 1099] h1 rfl rfl rfl ?_
  refine tr_s (.iload 5) 2 398 [some (.ref 0), some (.ref 1000), some (.ref 1099), some (.ref 1109), some (.ref 1110), some (.int x5), some (.int v0), w7, w8] [.int x5, .ref 0, .ref 1099] h1 rfl rfl rfl ?_
  refine tr_ic 1 1 (by decide) rfl ?_
  refine tr_s .iadd 1 400 [some (.ref 0), some (.ref 1000), some (.ref 1099), some (.ref 1109), some (.ref 1110), some (.int x5), some (.int v0), w7, w8] [.int (x5 + 1), .ref 0, .ref 1099] h1 rfl rfl rfl ?_
  refine tr_ald .iaload 0 0 j2 (x5 + 1) g.1 (Or.inl ⟨rfl, rfl⟩) rfl rfl e2 b2 z2 ?_
  refine tr_s (.aload_n 0) 1 402 [some (.ref 0), some (.ref 1000), some (.ref 1099), some (.ref 1109), some (.ref 1110), some (.int x5), some (.int v0), w7, w8] [.ref 0, .int (g.1.getD j2 0), .ref 1099] h1 rfl rfl rfl ?_
  refine tr_s (.iload 5) 2 404 [some (.ref 0), some (.ref 1000), some (.ref 1099), some (.ref 1109), some (.ref 1110), some (.int x5), some (.int v0), w7, w8] [.int x5, .ref 0, .int (g.1.getD j2 0), .ref 1099] h1 rfl rfl rfl ?_
  refine tr_ic 2 2 (by decide) rfl ?_
  refine tr_s .iadd 1 406 [some (.ref 0), some (.ref 1000), some (.ref 1099), some (.ref 1109), some (.ref 1110), some (.int x5), some (.int v0), w7, w8] [.int (x5 + 2), .ref 0, .int (g.1.getD j2 0), .ref 1099] h1 rfl rfl rfl ?_
  refine tr_ald .iaload 0 0 j3 (x5 + 2) g.1 (Or.inl ⟨rfl, rfl⟩) rfl rfl e3 b3 z3 ?_
  refine tr_s .i2c 1 408 [some (.ref 0), some (.ref 1000), some (.ref 1099), some (.ref 1109), some (.ref 1110), some (.int x5), some (.int v0), w7, w8] [.int (((g.1.getD j3 0).toUInt32 % 65536).toInt32), .int (g.1.getD j2 0), .ref 1099] h1 rfl rfl rfl ?_
  refine tr_call (.invokevirtual 186) 186 0 2 8 m_X9_setMirror [.ref 1099, .int (g.1.getD j2 0), .int (((g.1.getD j3 0).toUInt32 % 65536).toInt32)] [] (some (.int v1)) h2 rfl rfl rfl rfl rfl rfl rfl rfl rfl (tr_cok rfl (Or.inr ⟨_, _, rfl, tr_rc (hh_rd (hh_obj hL0 (k := 99) rfl).1) (by decide)⟩)) c_1 ?_
  have hL1 := c_1.2
  refine tr_st (.istore 7) 2 7 0 (.int v1) rfl rfl rfl rfl rfl rfl rfl ?_
  refine tr_s (.aload_n 2) 1 414 [some (.ref 0), some (.ref 1000), some (.ref 1099), some (.ref 1109), some (.ref 1110), some (.int x5), some (.int v0), some (.int v1), w8] [.ref 1099] h2 rfl rfl rfl ?_
  refine tr_call (.invokevirtual 180) 180 0 0 8 m_X9_thrown [.ref 1099] [] (some (.int v2)) h3 rfl rfl rfl rfl rfl rfl rfl rfl rfl (tr_cok rfl (Or.inr ⟨_, _, rfl, tr_rc (hh_rd (hh_obj hL1 (k := 99) rfl).1) (by decide)⟩)) c_2 ?_
  have hL2 := c_2.2
  refine tr_s (.iload 6) 2 419 [some (.ref 0), some (.ref 1000), some (.ref 1099), some (.ref 1109), some (.ref 1110), some (.int x5), some (.int v0), some (.int v1), w8] [.int v0, .int v2] h3 rfl rfl rfl ?_
  exact tr_if2 .eq 5 424 v2 v0 rfl rfl rfl (fun hc => t ((tr_eq hc).1 rfl)) (fun hc => f ((tr_eq hc).2 rfl))
theorem sg_law_422 {g : tr_g} {d : Nat} {h : ev_AH} {r : ev_O × ev_AH} {w0 w1 w2 w3 w4 w5 w6 w7 w8 : Option Value} (hL : hh_L h) (hr : r = (.inl (some (.int 0)), h)) : tr_L g d m_law 422 [w0, w1, w2, w3, w4, w5, w6, w7, w8] [] h r := by
  refine tr_ic 0 0 (by decide) rfl ?_
  exact tl_ret hL .ireturn 1 (some (.int 0)) rfl rfl rfl rfl hr
theorem sg_law_424 {g : tr_g} {d : Nat} {h : ev_AH} {r : ev_O × ev_AH} {x5 x6 x7 : Int32} {w8 : Option Value} (hL : hh_L h) (t : x6 ≠ 0 → tr_L g d m_law 441 [some (.ref 0), some (.ref 1000), some (.ref 1099), some (.ref 1109), some (.ref 1110), some (.int x5), some (.int x6), some (.int x7), w8] [] h r) (f : x6 = 0 → tr_L g d m_law 429 [some (.ref 0), some (.ref 1000), some (.ref 1099), some (.ref 1109), some (.ref 1110), some (.int x5), some (.int x6), some (.int x7), w8] [] h r) : tr_L g d m_law 424 [some (.ref 0), some (.ref 1000), some (.ref 1099), some (.ref 1109), some (.ref 1110), some (.int x5), some (.int x6), some (.int x7), w8] [] h r := by
  refine tr_s (.iload 6) 2 426 [some (.ref 0), some (.ref 1000), some (.ref 1099), some (.ref 1109), some (.ref 1110), some (.int x5), some (.int x6), some (.int x7), w8] [.int x6] h rfl rfl rfl ?_
  exact tr_if1 .ne 15 441 x6 rfl rfl rfl (fun hc => t ((tr_ne hc).1 rfl)) (fun hc => f ((tr_ne hc).2 rfl))
theorem sg_law_429 {g : tr_g} {d : Nat} {h : ev_AH} {r : ev_O × ev_AH} {x5 x7 : Int32} {w6 w8 : Option Value} {u0 : Int64} (hL : hh_L h) (p0 : (hh_v h 109)[0]? = some (.long u0)) (t : (lg_cmp u0 x7.toInt64) = 0 → tr_L g d m_law 441 [some (.ref 0), some (.ref 1000), some (.ref 1099), some (.ref 1109), some (.ref 1110), some (.int x5), w6, some (.int x7), w8] [] h r) (f : (lg_cmp u0 x7.toInt64) ≠ 0 → tr_L g d m_law 439 [some (.ref 0), some (.ref 1000), some (.ref 1099), some (.ref 1109), some (.ref 1110), some (.int x5), w6, some (.int x7), w8] [] h r) : tr_L g d m_law 429 [some (.ref 0), some (.ref 1000), some (.ref 1099), some (.ref 1109), some (.ref 1110), some (.int x5), w6, some (.int x7), w8] [] h r := by
  refine tr_s (.aload_n 3) 1 430 [some (.ref 0), some (.ref 1000), some (.ref 1099), some (.ref 1109), some (.ref 1110), some (.int x5), w6, some (.int x7), w8] [.ref 1109] h rfl rfl rfl ?_
  refine tr_ic 0 0 (by decide) rfl ?_
  refine tr_lald 1109 u0 _ rfl (by decide) (hh_rd (hh_obj hL (k := 109) rfl).1) (hh_obj hL (k := 109) rfl).2 p0 ?_
  refine tr_s (.iload 7) 2 434 [some (.ref 0), some (.ref 1000), some (.ref 1099), some (.ref 1109), some (.ref 1110), some (.int x5), w6, some (.int x7), w8] [.int x7, .long u0] h rfl rfl rfl ?_
  refine tr_s .i2l 1 435 [some (.ref 0), some (.ref 1000), some (.ref 1099), some (.ref 1109), some (.ref 1110), some (.int x5), w6, some (.int x7), w8] [.long x7.toInt64, .long u0] h rfl rfl rfl ?_
  refine tr_s .lcmp 1 436 [some (.ref 0), some (.ref 1000), some (.ref 1099), some (.ref 1109), some (.ref 1110), some (.int x5), w6, some (.int x7), w8] [.int (lg_cmp u0 x7.toInt64)] h rfl rfl rfl ?_
  exact tr_if1 .eq 5 441 (lg_cmp u0 x7.toInt64) rfl rfl rfl (fun hc => t ((tr_eq hc).1 rfl)) (fun hc => f ((tr_eq hc).2 rfl))
theorem sg_law_439 {g : tr_g} {d : Nat} {h : ev_AH} {r : ev_O × ev_AH} {w0 w1 w2 w3 w4 w5 w6 w7 w8 : Option Value} (hL : hh_L h) (hr : r = (.inl (some (.int 0)), h)) : tr_L g d m_law 439 [w0, w1, w2, w3, w4, w5, w6, w7, w8] [] h r := by
  refine tr_ic 0 0 (by decide) rfl ?_
  exact tl_ret hL .ireturn 1 (some (.int 0)) rfl rfl rfl rfl hr
theorem sg_law_441 {g : tr_g} {d : Nat} {h : ev_AH} {r : ev_O × ev_AH} {x5 : Int32} {w6 w7 w8 : Option Value} (hL : hh_L h) (k : tr_L g d m_law 28 [some (.ref 0), some (.ref 1000), some (.ref 1099), some (.ref 1109), some (.ref 1110), some (.int (x5 + 5)), w6, w7, w8] [] h r) : tr_L g d m_law 441 [some (.ref 0), some (.ref 1000), some (.ref 1099), some (.ref 1109), some (.ref 1110), some (.int x5), w6, w7, w8] [] h r := by
  refine tr_goto 2520 2961 rfl rfl rfl ?_
  refine tr_inc 5 5 x5 5 (by decide) rfl rfl rfl ?_
  refine tr_goto (-2936) 28 rfl rfl rfl ?_
  exact k
theorem sx_law_444_445 {g : tr_g} {d : Nat} {h : ev_AH} {r : ev_O × ev_AH} {x5 v0 : Int32} {w6 w7 w8 : Option Value} {h1 hx : ev_AH} {E : Nat} (hL : hh_L h) (cx : tr_L g d m_X8_catCount 0 [some (.ref 1000)] [] h (.inr E, hx)) (hr : r = (.inr E, hx)) : tr_L g (d + 1) m_law 444 [some (.ref 0), some (.ref 1000), some (.ref 1099), some (.ref 1109), some (.ref 1110), some (.int x5), w6, w7, w8] [] h r := by
  refine tr_s (.aload_n 1) 1 445 [some (.ref 0), some (.ref 1000), some (.ref 1099), some (.ref 1109), some (.ref 1110), some (.int x5), w6, w7, w8] [.ref 1000] h rfl rfl rfl ?_
  exact tr_callx (.invokevirtual 187) 187 0 0 0 m_X8_catCount [.ref 1000] [] E hx rfl rfl rfl rfl rfl rfl rfl rfl rfl (tr_cok rfl (Or.inr ⟨_, _, rfl, tr_rc (hh_rd (hh_obj hL (k := 0) rfl).1) (by decide)⟩)) rfl cx hr
theorem sg_law_444 {g : tr_g} {d : Nat} {h : ev_AH} {r : ev_O × ev_AH} {x5 v0 v1 : Int32} {w6 w7 w8 : Option Value} {h1 h2 : ev_AH} (hL : hh_L h) (c_0 : tr_L g d m_X8_catCount 0 [some (.ref 1000)] [] h (.inl (some (.int v0)), h1)) (c_1 : tr_L g d m_X9_catCount 0 [some (.ref 1099)] [] h1 (.inl (some (.int v1)), h2)) (t : v0 = v1 → tr_L g (d + 1) m_law 2961 [some (.ref 0), some (.ref 1000), some (.ref 1099), some (.ref 1109), some (.ref 1110), some (.int x5), w6, w7, w8] [] h2 r) (f : v0 ≠ v1 → tr_L g (d + 1) m_law 455 [some (.ref 0), some (.ref 1000), some (.ref 1099), some (.ref 1109), some (.ref 1110), some (.int x5), w6, w7, w8] [] h2 r) : tr_L g (d + 1) m_law 444 [some (.ref 0), some (.ref 1000), some (.ref 1099), some (.ref 1109), some (.ref 1110), some (.int x5), w6, w7, w8] [] h r := by
  refine tr_s (.aload_n 1) 1 445 [some (.ref 0), some (.ref 1000), some (.ref 1099), some (.ref 1109), some (.ref 1110), some (.int x5), w6, w7, w8] [.ref 1000] h rfl rfl rfl ?_
  refine tr_call (.invokevirtual 187) 187 0 0 0 m_X8_catCount [.ref 1000] [] (some (.int v0)) h1 rfl rfl rfl rfl rfl rfl rfl rfl rfl (tr_cok rfl (Or.inr ⟨_, _, rfl, tr_rc (hh_rd (hh_obj hL (k := 0) rfl).1) (by decide)⟩)) c_0 ?_
  have hL0 := c_0.2
  refine tr_s (.aload_n 2) 1 449 [some (.ref 0), some (.ref 1000), some (.ref 1099), some (.ref 1109), some (.ref 1110), some (.int x5), w6, w7, w8] [.ref 1099, .int v0] h1 rfl rfl rfl ?_
  refine tr_call (.invokevirtual 190) 190 0 0 8 m_X9_catCount [.ref 1099] [.int v0] (some (.int v1)) h2 rfl rfl rfl rfl rfl rfl rfl rfl rfl (tr_cok rfl (Or.inr ⟨_, _, rfl, tr_rc (hh_rd (hh_obj hL0 (k := 99) rfl).1) (by decide)⟩)) c_1 ?_
  have hL1 := c_1.2
  exact tr_if2 .eq 2509 2961 v0 v1 rfl rfl rfl (fun hc => t ((tr_eq hc).1 rfl)) (fun hc => f ((tr_eq hc).2 rfl))
theorem sg_law_455 {g : tr_g} {d : Nat} {h : ev_AH} {r : ev_O × ev_AH} {w0 w1 w2 w3 w4 w5 w6 w7 w8 : Option Value} (hL : hh_L h) (hr : r = (.inl (some (.int 0)), h)) : tr_L g d m_law 455 [w0, w1, w2, w3, w4, w5, w6, w7, w8] [] h r := by
  refine tr_ic 0 0 (by decide) rfl ?_
  exact tl_ret hL .ireturn 1 (some (.int 0)) rfl rfl rfl rfl hr
theorem sg_law_457 {g : tr_g} {d : Nat} {h : ev_AH} {r : ev_O × ev_AH} {x5 v0 v1 v2 : Int32} {w6 w7 w8 : Option Value} {j0 j1 : Nat} {h1 h2 h3 : ev_AH} (hL : hh_L h) (e0 : x5 + 1 = Int32.ofNat j0) (b0 : j0 < g.1.length) (z0 : g.1.length < 2147483648) (c_0 : tr_L g d m_L_cellOf 0 [some (.ref 1000), some (.int (g.1.getD j0 0)), some (.ref 1109), none] [] h (.inl (some (.int v0)), h1)) (e1 : x5 + 1 = Int32.ofNat j1) (b1 : j1 < g.1.length) (z1 : g.1.length < 2147483648) (c_1 : tr_L g d m_X9_cellOf 0 [some (.ref 1099), some (.int (g.1.getD j1 0))] [] h1 (.inl (some (.int v1)), h2)) (c_2 : tr_L g d m_X9_thrown 0 [some (.ref 1099)] [] h2 (.inl (some (.int v2)), h3)) (t : v2 = v0 → tr_L g (d + 1) m_law 493 [some (.ref 0), some (.ref 1000), some (.ref 1099), some (.ref 1109), some (.ref 1110), some (.int x5), some (.int v0), some (.int v1), w8] [] h3 r) (f : v2 ≠ v0 → tr_L g (d + 1) m_law 491 [some (.ref 0), some (.ref 1000), some (.ref 1099), some (.ref 1109), some (.ref 1110), some (.int x5), some (.int v0), some (.int v1), w8] [] h3 r) : tr_L g (d + 1) m_law 457 [some (.ref 0), some (.ref 1000), some (.ref 1099), some (.ref 1109), some (.ref 1110), some (.int x5), w6, w7, w8] [] h r := by
  refine tr_s (.aload_n 1) 1 458 [some (.ref 0), some (.ref 1000), some (.ref 1099), some (.ref 1109), some (.ref 1110), some (.int x5), w6, w7, w8] [.ref 1000] h rfl rfl rfl ?_
  refine tr_s (.aload_n 0) 1 459 [some (.ref 0), some (.ref 1000), some (.ref 1099), some (.ref 1109), some (.ref 1110), some (.int x5), w6, w7, w8] [.ref 0, .ref 1000] h rfl rfl rfl ?_
  refine tr_s (.iload 5) 2 461 [some (.ref 0), some (.ref 1000), some (.ref 1099), some (.ref 1109), some (.ref 1110), some (.int x5), w6, w7, w8] [.int x5, .ref 0, .ref 1000] h rfl rfl rfl ?_
  refine tr_ic 1 1 (by decide) rfl ?_
  refine tr_s .iadd 1 463 [some (.ref 0), some (.ref 1000), some (.ref 1099), some (.ref 1109), some (.ref 1110), some (.int x5), w6, w7, w8] [.int (x5 + 1), .ref 0, .ref 1000] h rfl rfl rfl ?_
  refine tr_ald .iaload 0 0 j0 (x5 + 1) g.1 (Or.inl ⟨rfl, rfl⟩) rfl rfl e0 b0 z0 ?_
  refine tr_s (.aload_n 3) 1 465 [some (.ref 0), some (.ref 1000), some (.ref 1099), some (.ref 1109), some (.ref 1110), some (.int x5), w6, w7, w8] [.ref 1109, .int (g.1.getD j0 0), .ref 1000] h rfl rfl rfl ?_
  refine tr_call (.invokestatic 191) 191 8 3 0 m_L_cellOf [.ref 1000, .int (g.1.getD j0 0), .ref 1109] [] (some (.int v0)) h1 rfl rfl rfl rfl rfl rfl rfl rfl rfl (tr_cok rfl (Or.inl rfl)) c_0 ?_
  have hL0 := c_0.2
  refine tr_st (.istore 6) 2 6 0 (.int v0) rfl rfl rfl rfl rfl rfl rfl ?_
  refine tr_s (.aload_n 2) 1 471 [some (.ref 0), some (.ref 1000), some (.ref 1099), some (.ref 1109), some (.ref 1110), some (.int x5), some (.int v0), w7, w8] [.ref 1099] h1 rfl rfl rfl ?_
  refine tr_s (.aload_n 0) 1 472 [some (.ref 0), some (.ref 1000), some (.ref 1099), some (.ref 1109), some (.ref 1110), some (.int x5), some (.int v0), w7, w8] [.ref 0, .ref 1099] h1 rfl rfl rfl ?_
  refine tr_s (.iload 5) 2 474 [some (.ref 0), some (.ref 1000), some (.ref 1099), some (.ref 1109), some (.ref 1110), some (.int x5), some (.int v0), w7, w8] [.int x5, .ref 0, .ref 1099] h1 rfl rfl rfl ?_
  refine tr_ic 1 1 (by decide) rfl ?_
  refine tr_s .iadd 1 476 [some (.ref 0), some (.ref 1000), some (.ref 1099), some (.ref 1109), some (.ref 1110), some (.int x5), some (.int v0), w7, w8] [.int (x5 + 1), .ref 0, .ref 1099] h1 rfl rfl rfl ?_
  refine tr_ald .iaload 0 0 j1 (x5 + 1) g.1 (Or.inl ⟨rfl, rfl⟩) rfl rfl e1 b1 z1 ?_
  refine tr_call (.invokevirtual 194) 194 0 1 8 m_X9_cellOf [.ref 1099, .int (g.1.getD j1 0)] [] (some (.int v1)) h2 rfl rfl rfl rfl rfl rfl rfl rfl rfl (tr_cok rfl (Or.inr ⟨_, _, rfl, tr_rc (hh_rd (hh_obj hL0 (k := 99) rfl).1) (by decide)⟩)) c_1 ?_
  have hL1 := c_1.2
  refine tr_st (.istore 7) 2 7 0 (.int v1) rfl rfl rfl rfl rfl rfl rfl ?_
  refine tr_s (.aload_n 2) 1 483 [some (.ref 0), some (.ref 1000), some (.ref 1099), some (.ref 1109), some (.ref 1110), some (.int x5), some (.int v0), some (.int v1), w8] [.ref 1099] h2 rfl rfl rfl ?_
  refine tr_call (.invokevirtual 180) 180 0 0 8 m_X9_thrown [.ref 1099] [] (some (.int v2)) h3 rfl rfl rfl rfl rfl rfl rfl rfl rfl (tr_cok rfl (Or.inr ⟨_, _, rfl, tr_rc (hh_rd (hh_obj hL1 (k := 99) rfl).1) (by decide)⟩)) c_2 ?_
  have hL2 := c_2.2
  refine tr_s (.iload 6) 2 488 [some (.ref 0), some (.ref 1000), some (.ref 1099), some (.ref 1109), some (.ref 1110), some (.int x5), some (.int v0), some (.int v1), w8] [.int v0, .int v2] h3 rfl rfl rfl ?_
  exact tr_if2 .eq 5 493 v2 v0 rfl rfl rfl (fun hc => t ((tr_eq hc).1 rfl)) (fun hc => f ((tr_eq hc).2 rfl))
theorem sg_law_491 {g : tr_g} {d : Nat} {h : ev_AH} {r : ev_O × ev_AH} {w0 w1 w2 w3 w4 w5 w6 w7 w8 : Option Value} (hL : hh_L h) (hr : r = (.inl (some (.int 0)), h)) : tr_L g d m_law 491 [w0, w1, w2, w3, w4, w5, w6, w7, w8] [] h r := by
  refine tr_ic 0 0 (by decide) rfl ?_
  exact tl_ret hL .ireturn 1 (some (.int 0)) rfl rfl rfl rfl hr
theorem sg_law_493 {g : tr_g} {d : Nat} {h : ev_AH} {r : ev_O × ev_AH} {x5 x6 x7 : Int32} {w8 : Option Value} (hL : hh_L h) (t : x6 ≠ 0 → tr_L g d m_law 510 [some (.ref 0), some (.ref 1000), some (.ref 1099), some (.ref 1109), some (.ref 1110), some (.int x5), some (.int x6), some (.int x7), w8] [] h r) (f : x6 = 0 → tr_L g d m_law 498 [some (.ref 0), some (.ref 1000), some (.ref 1099), some (.ref 1109), some (.ref 1110), some (.int x5), some (.int x6), some (.int x7), w8] [] h r) : tr_L g d m_law 493 [some (.ref 0), some (.ref 1000), some (.ref 1099), some (.ref 1109), some (.ref 1110), some (.int x5), some (.int x6), some (.int x7), w8] [] h r := by
  refine tr_s (.iload 6) 2 495 [some (.ref 0), some (.ref 1000), some (.ref 1099), some (.ref 1109), some (.ref 1110), some (.int x5), some (.int x6), some (.int x7), w8] [.int x6] h rfl rfl rfl ?_
  exact tr_if1 .ne 15 510 x6 rfl rfl rfl (fun hc => t ((tr_ne hc).1 rfl)) (fun hc => f ((tr_ne hc).2 rfl))
theorem sg_law_498 {g : tr_g} {d : Nat} {h : ev_AH} {r : ev_O × ev_AH} {x5 x7 : Int32} {w6 w8 : Option Value} {u0 : Int64} (hL : hh_L h) (p0 : (hh_v h 109)[0]? = some (.long u0)) (t : (lg_cmp u0 x7.toInt64) = 0 → tr_L g d m_law 510 [some (.ref 0), some (.ref 1000), some (.ref 1099), some (.ref 1109), some (.ref 1110), some (.int x5), w6, some (.int x7), w8] [] h r) (f : (lg_cmp u0 x7.toInt64) ≠ 0 → tr_L g d m_law 508 [some (.ref 0), some (.ref 1000), some (.ref 1099), some (.ref 1109), some (.ref 1110), some (.int x5), w6, some (.int x7), w8] [] h r) : tr_L g d m_law 498 [some (.ref 0), some (.ref 1000), some (.ref 1099), some (.ref 1109), some (.ref 1110), some (.int x5), w6, some (.int x7), w8] [] h r := by
  refine tr_s (.aload_n 3) 1 499 [some (.ref 0), some (.ref 1000), some (.ref 1099), some (.ref 1109), some (.ref 1110), some (.int x5), w6, some (.int x7), w8] [.ref 1109] h rfl rfl rfl ?_
  refine tr_ic 0 0 (by decide) rfl ?_
  refine tr_lald 1109 u0 _ rfl (by decide) (hh_rd (hh_obj hL (k := 109) rfl).1) (hh_obj hL (k := 109) rfl).2 p0 ?_
  refine tr_s (.iload 7) 2 503 [some (.ref 0), some (.ref 1000), some (.ref 1099), some (.ref 1109), some (.ref 1110), some (.int x5), w6, some (.int x7), w8] [.int x7, .long u0] h rfl rfl rfl ?_
  refine tr_s .i2l 1 504 [some (.ref 0), some (.ref 1000), some (.ref 1099), some (.ref 1109), some (.ref 1110), some (.int x5), w6, some (.int x7), w8] [.long x7.toInt64, .long u0] h rfl rfl rfl ?_
  refine tr_s .lcmp 1 505 [some (.ref 0), some (.ref 1000), some (.ref 1099), some (.ref 1109), some (.ref 1110), some (.int x5), w6, some (.int x7), w8] [.int (lg_cmp u0 x7.toInt64)] h rfl rfl rfl ?_
  exact tr_if1 .eq 5 510 (lg_cmp u0 x7.toInt64) rfl rfl rfl (fun hc => t ((tr_eq hc).1 rfl)) (fun hc => f ((tr_eq hc).2 rfl))
theorem sg_law_508 {g : tr_g} {d : Nat} {h : ev_AH} {r : ev_O × ev_AH} {w0 w1 w2 w3 w4 w5 w6 w7 w8 : Option Value} (hL : hh_L h) (hr : r = (.inl (some (.int 0)), h)) : tr_L g d m_law 508 [w0, w1, w2, w3, w4, w5, w6, w7, w8] [] h r := by
  refine tr_ic 0 0 (by decide) rfl ?_
  exact tl_ret hL .ireturn 1 (some (.int 0)) rfl rfl rfl rfl hr
theorem sg_law_510 {g : tr_g} {d : Nat} {h : ev_AH} {r : ev_O × ev_AH} {x5 : Int32} {w6 w7 w8 : Option Value} (hL : hh_L h) (k : tr_L g d m_law 28 [some (.ref 0), some (.ref 1000), some (.ref 1099), some (.ref 1109), some (.ref 1110), some (.int (x5 + 5)), w6, w7, w8] [] h r) : tr_L g d m_law 510 [some (.ref 0), some (.ref 1000), some (.ref 1099), some (.ref 1109), some (.ref 1110), some (.int x5), w6, w7, w8] [] h r := by
  refine tr_goto 2451 2961 rfl rfl rfl ?_
  refine tr_inc 5 5 x5 5 (by decide) rfl rfl rfl ?_
  refine tr_goto (-2936) 28 rfl rfl rfl ?_
  exact k
theorem sg_law_513 {g : tr_g} {d : Nat} {h : ev_AH} {r : ev_O × ev_AH} {x5 v0 v1 v2 : Int32} {w6 w7 w8 : Option Value} {j0 j1 : Nat} {h1 h2 h3 : ev_AH} (hL : hh_L h) (e0 : x5 + 1 = Int32.ofNat j0) (b0 : j0 < g.1.length) (z0 : g.1.length < 2147483648) (c_0 : tr_L g d m_L_catIn 0 [some (.ref 1000), some (.int (g.1.getD j0 0)), some (.ref 1109), none] [] h (.inl (some (.int v0)), h1)) (e1 : x5 + 1 = Int32.ofNat j1) (b1 : j1 < g.1.length) (z1 : g.1.length < 2147483648) (c_1 : tr_L g d m_X9_catIn 0 [some (.ref 1099), some (.int (g.1.getD j1 0))] [] h1 (.inl (some (.int v1)), h2)) (c_2 : tr_L g d m_X9_thrown 0 [some (.ref 1099)] [] h2 (.inl (some (.int v2)), h3)) (t : v2 = v0 → tr_L g (d + 1) m_law 549 [some (.ref 0), some (.ref 1000), some (.ref 1099), some (.ref 1109), some (.ref 1110), some (.int x5), some (.int v0), some (.int v1), w8] [] h3 r) (f : v2 ≠ v0 → tr_L g (d + 1) m_law 547 [some (.ref 0), some (.ref 1000), some (.ref 1099), some (.ref 1109), some (.ref 1110), some (.int x5), some (.int v0), some (.int v1), w8] [] h3 r) : tr_L g (d + 1) m_law 513 [some (.ref 0), some (.ref 1000), some (.ref 1099), some (.ref 1109), some (.ref 1110), some (.int x5), w6, w7, w8] [] h r := by
  refine tr_s (.aload_n 1) 1 514 [some (.ref 0), some (.ref 1000), some (.ref 1099), some (.ref 1109), some (.ref 1110), some (.int x5), w6, w7, w8] [.ref 1000] h rfl rfl rfl ?_
  refine tr_s (.aload_n 0) 1 515 [some (.ref 0), some (.ref 1000), some (.ref 1099), some (.ref 1109), some (.ref 1110), some (.int x5), w6, w7, w8] [.ref 0, .ref 1000] h rfl rfl rfl ?_
  refine tr_s (.iload 5) 2 517 [some (.ref 0), some (.ref 1000), some (.ref 1099), some (.ref 1109), some (.ref 1110), some (.int x5), w6, w7, w8] [.int x5, .ref 0, .ref 1000] h rfl rfl rfl ?_
  refine tr_ic 1 1 (by decide) rfl ?_
  refine tr_s .iadd 1 519 [some (.ref 0), some (.ref 1000), some (.ref 1099), some (.ref 1109), some (.ref 1110), some (.int x5), w6, w7, w8] [.int (x5 + 1), .ref 0, .ref 1000] h rfl rfl rfl ?_
  refine tr_ald .iaload 0 0 j0 (x5 + 1) g.1 (Or.inl ⟨rfl, rfl⟩) rfl rfl e0 b0 z0 ?_
  refine tr_s (.aload_n 3) 1 521 [some (.ref 0), some (.ref 1000), some (.ref 1099), some (.ref 1109), some (.ref 1110), some (.int x5), w6, w7, w8] [.ref 1109, .int (g.1.getD j0 0), .ref 1000] h rfl rfl rfl ?_
  refine tr_call (.invokestatic 195) 195 8 3 0 m_L_catIn [.ref 1000, .int (g.1.getD j0 0), .ref 1109] [] (some (.int v0)) h1 rfl rfl rfl rfl rfl rfl rfl rfl rfl (tr_cok rfl (Or.inl rfl)) c_0 ?_
  have hL0 := c_0.2
  refine tr_st (.istore 6) 2 6 0 (.int v0) rfl rfl rfl rfl rfl rfl rfl ?_
  refine tr_s (.aload_n 2) 1 527 [some (.ref 0), some (.ref 1000), some (.ref 1099), some (.ref 1109), some (.ref 1110), some (.int x5), some (.int v0), w7, w8] [.ref 1099] h1 rfl rfl rfl ?_
  refine tr_s (.aload_n 0) 1 528 [some (.ref 0), some (.ref 1000), some (.ref 1099), some (.ref 1109), some (.ref 1110), some (.int x5), some (.int v0), w7, w8] [.ref 0, .ref 1099] h1 rfl rfl rfl ?_
  refine tr_s (.iload 5) 2 530 [some (.ref 0), some (.ref 1000), some (.ref 1099), some (.ref 1109), some (.ref 1110), some (.int x5), some (.int v0), w7, w8] [.int x5, .ref 0, .ref 1099] h1 rfl rfl rfl ?_
  refine tr_ic 1 1 (by decide) rfl ?_
  refine tr_s .iadd 1 532 [some (.ref 0), some (.ref 1000), some (.ref 1099), some (.ref 1109), some (.ref 1110), some (.int x5), some (.int v0), w7, w8] [.int (x5 + 1), .ref 0, .ref 1099] h1 rfl rfl rfl ?_
  refine tr_ald .iaload 0 0 j1 (x5 + 1) g.1 (Or.inl ⟨rfl, rfl⟩) rfl rfl e1 b1 z1 ?_
  refine tr_call (.invokevirtual 197) 197 0 1 8 m_X9_catIn [.ref 1099, .int (g.1.getD j1 0)] [] (some (.int v1)) h2 rfl rfl rfl rfl rfl rfl rfl rfl rfl (tr_cok rfl (Or.inr ⟨_, _, rfl, tr_rc (hh_rd (hh_obj hL0 (k := 99) rfl).1) (by decide)⟩)) c_1 ?_
  have hL1 := c_1.2
  refine tr_st (.istore 7) 2 7 0 (.int v1) rfl rfl rfl rfl rfl rfl rfl ?_
  refine tr_s (.aload_n 2) 1 539 [some (.ref 0), some (.ref 1000), some (.ref 1099), some (.ref 1109), some (.ref 1110), some (.int x5), some (.int v0), some (.int v1), w8] [.ref 1099] h2 rfl rfl rfl ?_
  refine tr_call (.invokevirtual 180) 180 0 0 8 m_X9_thrown [.ref 1099] [] (some (.int v2)) h3 rfl rfl rfl rfl rfl rfl rfl rfl rfl (tr_cok rfl (Or.inr ⟨_, _, rfl, tr_rc (hh_rd (hh_obj hL1 (k := 99) rfl).1) (by decide)⟩)) c_2 ?_
  have hL2 := c_2.2
  refine tr_s (.iload 6) 2 544 [some (.ref 0), some (.ref 1000), some (.ref 1099), some (.ref 1109), some (.ref 1110), some (.int x5), some (.int v0), some (.int v1), w8] [.int v0, .int v2] h3 rfl rfl rfl ?_
  exact tr_if2 .eq 5 549 v2 v0 rfl rfl rfl (fun hc => t ((tr_eq hc).1 rfl)) (fun hc => f ((tr_eq hc).2 rfl))
theorem sg_law_547 {g : tr_g} {d : Nat} {h : ev_AH} {r : ev_O × ev_AH} {w0 w1 w2 w3 w4 w5 w6 w7 w8 : Option Value} (hL : hh_L h) (hr : r = (.inl (some (.int 0)), h)) : tr_L g d m_law 547 [w0, w1, w2, w3, w4, w5, w6, w7, w8] [] h r := by
  refine tr_ic 0 0 (by decide) rfl ?_
  exact tl_ret hL .ireturn 1 (some (.int 0)) rfl rfl rfl rfl hr
theorem sg_law_549 {g : tr_g} {d : Nat} {h : ev_AH} {r : ev_O × ev_AH} {x5 x6 x7 : Int32} {w8 : Option Value} (hL : hh_L h) (t : x6 ≠ 0 → tr_L g d m_law 566 [some (.ref 0), some (.ref 1000), some (.ref 1099), some (.ref 1109), some (.ref 1110), some (.int x5), some (.int x6), some (.int x7), w8] [] h r) (f : x6 = 0 → tr_L g d m_law 554 [some (.ref 0), some (.ref 1000), some (.ref 1099), some (.ref 1109), some (.ref 1110), some (.int x5), some (.int x6), some (.int x7), w8] [] h r) : tr_L g d m_law 549 [some (.ref 0), some (.ref 1000), some (.ref 1099), some (.ref 1109), some (.ref 1110), some (.int x5), some (.int x6), some (.int x7), w8] [] h r := by
  refine tr_s (.iload 6) 2 551 [some (.ref 0), some (.ref 1000), some (.ref 1099), some (.ref 1109), some (.ref 1110), some (.int x5), some (.int x6), some (.int x7), w8] [.int x6] h rfl rfl rfl ?_
  exact tr_if1 .ne 15 566 x6 rfl rfl rfl (fun hc => t ((tr_ne hc).1 rfl)) (fun hc => f ((tr_ne hc).2 rfl))
theorem sg_law_554 {g : tr_g} {d : Nat} {h : ev_AH} {r : ev_O × ev_AH} {x5 x7 : Int32} {w6 w8 : Option Value} {u0 : Int64} (hL : hh_L h) (p0 : (hh_v h 109)[0]? = some (.long u0)) (t : (lg_cmp u0 x7.toInt64) = 0 → tr_L g d m_law 566 [some (.ref 0), some (.ref 1000), some (.ref 1099), some (.ref 1109), some (.ref 1110), some (.int x5), w6, some (.int x7), w8] [] h r) (f : (lg_cmp u0 x7.toInt64) ≠ 0 → tr_L g d m_law 564 [some (.ref 0), some (.ref 1000), some (.ref 1099), some (.ref 1109), some (.ref 1110), some (.int x5), w6, some (.int x7), w8] [] h r) : tr_L g d m_law 554 [some (.ref 0), some (.ref 1000), some (.ref 1099), some (.ref 1109), some (.ref 1110), some (.int x5), w6, some (.int x7), w8] [] h r := by
  refine tr_s (.aload_n 3) 1 555 [some (.ref 0), some (.ref 1000), some (.ref 1099), some (.ref 1109), some (.ref 1110), some (.int x5), w6, some (.int x7), w8] [.ref 1109] h rfl rfl rfl ?_
  refine tr_ic 0 0 (by decide) rfl ?_
  refine tr_lald 1109 u0 _ rfl (by decide) (hh_rd (hh_obj hL (k := 109) rfl).1) (hh_obj hL (k := 109) rfl).2 p0 ?_
  refine tr_s (.iload 7) 2 559 [some (.ref 0), some (.ref 1000), some (.ref 1099), some (.ref 1109), some (.ref 1110), some (.int x5), w6, some (.int x7), w8] [.int x7, .long u0] h rfl rfl rfl ?_
  refine tr_s .i2l 1 560 [some (.ref 0), some (.ref 1000), some (.ref 1099), some (.ref 1109), some (.ref 1110), some (.int x5), w6, some (.int x7), w8] [.long x7.toInt64, .long u0] h rfl rfl rfl ?_
  refine tr_s .lcmp 1 561 [some (.ref 0), some (.ref 1000), some (.ref 1099), some (.ref 1109), some (.ref 1110), some (.int x5), w6, some (.int x7), w8] [.int (lg_cmp u0 x7.toInt64)] h rfl rfl rfl ?_
  exact tr_if1 .eq 5 566 (lg_cmp u0 x7.toInt64) rfl rfl rfl (fun hc => t ((tr_eq hc).1 rfl)) (fun hc => f ((tr_eq hc).2 rfl))
theorem sg_law_564 {g : tr_g} {d : Nat} {h : ev_AH} {r : ev_O × ev_AH} {w0 w1 w2 w3 w4 w5 w6 w7 w8 : Option Value} (hL : hh_L h) (hr : r = (.inl (some (.int 0)), h)) : tr_L g d m_law 564 [w0, w1, w2, w3, w4, w5, w6, w7, w8] [] h r := by
  refine tr_ic 0 0 (by decide) rfl ?_
  exact tl_ret hL .ireturn 1 (some (.int 0)) rfl rfl rfl rfl hr
theorem sg_law_566 {g : tr_g} {d : Nat} {h : ev_AH} {r : ev_O × ev_AH} {x5 : Int32} {w6 w7 w8 : Option Value} (hL : hh_L h) (k : tr_L g d m_law 28 [some (.ref 0), some (.ref 1000), some (.ref 1099), some (.ref 1109), some (.ref 1110), some (.int (x5 + 5)), w6, w7, w8] [] h r) : tr_L g d m_law 566 [some (.ref 0), some (.ref 1000), some (.ref 1099), some (.ref 1109), some (.ref 1110), some (.int x5), w6, w7, w8] [] h r := by
  refine tr_goto 2395 2961 rfl rfl rfl ?_
  refine tr_inc 5 5 x5 5 (by decide) rfl rfl rfl ?_
  refine tr_goto (-2936) 28 rfl rfl rfl ?_
  exact k
theorem sg_law_569 {g : tr_g} {d : Nat} {h : ev_AH} {r : ev_O × ev_AH} {x5 v0 v1 v2 : Int32} {w6 w7 w8 : Option Value} {j0 j1 : Nat} {h1 h2 h3 : ev_AH} (hL : hh_L h) (e0 : x5 + 1 = Int32.ofNat j0) (b0 : j0 < g.1.length) (z0 : g.1.length < 2147483648) (c_0 : tr_L g d m_L_contentOf 0 [some (.ref 1000), some (.int (g.1.getD j0 0)), some (.ref 1109), none] [] h (.inl (some (.int v0)), h1)) (e1 : x5 + 1 = Int32.ofNat j1) (b1 : j1 < g.1.length) (z1 : g.1.length < 2147483648) (c_1 : tr_L g d m_X9_contentOf 0 [some (.ref 1099), some (.int (g.1.getD j1 0))] [] h1 (.inl (some (.int v1)), h2)) (c_2 : tr_L g d m_X9_thrown 0 [some (.ref 1099)] [] h2 (.inl (some (.int v2)), h3)) (t : v2 = v0 → tr_L g (d + 1) m_law 605 [some (.ref 0), some (.ref 1000), some (.ref 1099), some (.ref 1109), some (.ref 1110), some (.int x5), some (.int v0), some (.int v1), w8] [] h3 r) (f : v2 ≠ v0 → tr_L g (d + 1) m_law 603 [some (.ref 0), some (.ref 1000), some (.ref 1099), some (.ref 1109), some (.ref 1110), some (.int x5), some (.int v0), some (.int v1), w8] [] h3 r) : tr_L g (d + 1) m_law 569 [some (.ref 0), some (.ref 1000), some (.ref 1099), some (.ref 1109), some (.ref 1110), some (.int x5), w6, w7, w8] [] h r := by
  refine tr_s (.aload_n 1) 1 570 [some (.ref 0), some (.ref 1000), some (.ref 1099), some (.ref 1109), some (.ref 1110), some (.int x5), w6, w7, w8] [.ref 1000] h rfl rfl rfl ?_
  refine tr_s (.aload_n 0) 1 571 [some (.ref 0), some (.ref 1000), some (.ref 1099), some (.ref 1109), some (.ref 1110), some (.int x5), w6, w7, w8] [.ref 0, .ref 1000] h rfl rfl rfl ?_
  refine tr_s (.iload 5) 2 573 [some (.ref 0), some (.ref 1000), some (.ref 1099), some (.ref 1109), some (.ref 1110), some (.int x5), w6, w7, w8] [.int x5, .ref 0, .ref 1000] h rfl rfl rfl ?_
  refine tr_ic 1 1 (by decide) rfl ?_
  refine tr_s .iadd 1 575 [some (.ref 0), some (.ref 1000), some (.ref 1099), some (.ref 1109), some (.ref 1110), some (.int x5), w6, w7, w8] [.int (x5 + 1), .ref 0, .ref 1000] h rfl rfl rfl ?_
  refine tr_ald .iaload 0 0 j0 (x5 + 1) g.1 (Or.inl ⟨rfl, rfl⟩) rfl rfl e0 b0 z0 ?_
  refine tr_s (.aload_n 3) 1 577 [some (.ref 0), some (.ref 1000), some (.ref 1099), some (.ref 1109), some (.ref 1110), some (.int x5), w6, w7, w8] [.ref 1109, .int (g.1.getD j0 0), .ref 1000] h rfl rfl rfl ?_
  refine tr_call (.invokestatic 198) 198 8 3 0 m_L_contentOf [.ref 1000, .int (g.1.getD j0 0), .ref 1109] [] (some (.int v0)) h1 rfl rfl rfl rfl rfl rfl rfl rfl rfl (tr_cok rfl (Or.inl rfl)) c_0 ?_
  have hL0 := c_0.2
  refine tr_st (.istore 6) 2 6 0 (.int v0) rfl rfl rfl rfl rfl rfl rfl ?_
  refine tr_s (.aload_n 2) 1 583 [some (.ref 0), some (.ref 1000), some (.ref 1099), some (.ref 1109), some (.ref 1110), some (.int x5), some (.int v0), w7, w8] [.ref 1099] h1 rfl rfl rfl ?_
  refine tr_s (.aload_n 0) 1 584 [some (.ref 0), some (.ref 1000), some (.ref 1099), some (.ref 1109), some (.ref 1110), some (.int x5), some (.int v0), w7, w8] [.ref 0, .ref 1099] h1 rfl rfl rfl ?_
  refine tr_s (.iload 5) 2 586 [some (.ref 0), some (.ref 1000), some (.ref 1099), some (.ref 1109), some (.ref 1110), some (.int x5), some (.int v0), w7, w8] [.int x5, .ref 0, .ref 1099] h1 rfl rfl rfl ?_
  refine tr_ic 1 1 (by decide) rfl ?_
  refine tr_s .iadd 1 588 [some (.ref 0), some (.ref 1000), some (.ref 1099), some (.ref 1109), some (.ref 1110), some (.int x5), some (.int v0), w7, w8] [.int (x5 + 1), .ref 0, .ref 1099] h1 rfl rfl rfl ?_
  refine tr_ald .iaload 0 0 j1 (x5 + 1) g.1 (Or.inl ⟨rfl, rfl⟩) rfl rfl e1 b1 z1 ?_
  refine tr_call (.invokevirtual 200) 200 0 1 8 m_X9_contentOf [.ref 1099, .int (g.1.getD j1 0)] [] (some (.int v1)) h2 rfl rfl rfl rfl rfl rfl rfl rfl rfl (tr_cok rfl (Or.inr ⟨_, _, rfl, tr_rc (hh_rd (hh_obj hL0 (k := 99) rfl).1) (by decide)⟩)) c_1 ?_
  have hL1 := c_1.2
  refine tr_st (.istore 7) 2 7 0 (.int v1) rfl rfl rfl rfl rfl rfl rfl ?_
  refine tr_s (.aload_n 2) 1 595 [some (.ref 0), some (.ref 1000), some (.ref 1099), some (.ref 1109), some (.ref 1110), some (.int x5), some (.int v0), some (.int v1), w8] [.ref 1099] h2 rfl rfl rfl ?_
  refine tr_call (.invokevirtual 180) 180 0 0 8 m_X9_thrown [.ref 1099] [] (some (.int v2)) h3 rfl rfl rfl rfl rfl rfl rfl rfl rfl (tr_cok rfl (Or.inr ⟨_, _, rfl, tr_rc (hh_rd (hh_obj hL1 (k := 99) rfl).1) (by decide)⟩)) c_2 ?_
  have hL2 := c_2.2
  refine tr_s (.iload 6) 2 600 [some (.ref 0), some (.ref 1000), some (.ref 1099), some (.ref 1109), some (.ref 1110), some (.int x5), some (.int v0), some (.int v1), w8] [.int v0, .int v2] h3 rfl rfl rfl ?_
  exact tr_if2 .eq 5 605 v2 v0 rfl rfl rfl (fun hc => t ((tr_eq hc).1 rfl)) (fun hc => f ((tr_eq hc).2 rfl))
theorem sg_law_603 {g : tr_g} {d : Nat} {h : ev_AH} {r : ev_O × ev_AH} {w0 w1 w2 w3 w4 w5 w6 w7 w8 : Option Value} (hL : hh_L h) (hr : r = (.inl (some (.int 0)), h)) : tr_L g d m_law 603 [w0, w1, w2, w3, w4, w5, w6, w7, w8] [] h r := by
  refine tr_ic 0 0 (by decide) rfl ?_
  exact tl_ret hL .ireturn 1 (some (.int 0)) rfl rfl rfl rfl hr
theorem sg_law_605 {g : tr_g} {d : Nat} {h : ev_AH} {r : ev_O × ev_AH} {x5 x6 x7 : Int32} {w8 : Option Value} (hL : hh_L h) (t : x6 ≠ 0 → tr_L g d m_law 622 [some (.ref 0), some (.ref 1000), some (.ref 1099), some (.ref 1109), some (.ref 1110), some (.int x5), some (.int x6), some (.int x7), w8] [] h r) (f : x6 = 0 → tr_L g d m_law 610 [some (.ref 0), some (.ref 1000), some (.ref 1099), some (.ref 1109), some (.ref 1110), some (.int x5), some (.int x6), some (.int x7), w8] [] h r) : tr_L g d m_law 605 [some (.ref 0), some (.ref 1000), some (.ref 1099), some (.ref 1109), some (.ref 1110), some (.int x5), some (.int x6), some (.int x7), w8] [] h r := by
  refine tr_s (.iload 6) 2 607 [some (.ref 0), some (.ref 1000), some (.ref 1099), some (.ref 1109), some (.ref 1110), some (.int x5), some (.int x6), some (.int x7), w8] [.int x6] h rfl rfl rfl ?_
  exact tr_if1 .ne 15 622 x6 rfl rfl rfl (fun hc => t ((tr_ne hc).1 rfl)) (fun hc => f ((tr_ne hc).2 rfl))
theorem sg_law_610 {g : tr_g} {d : Nat} {h : ev_AH} {r : ev_O × ev_AH} {x5 x7 : Int32} {w6 w8 : Option Value} {u0 : Int64} (hL : hh_L h) (p0 : (hh_v h 109)[0]? = some (.long u0)) (t : (lg_cmp u0 x7.toInt64) = 0 → tr_L g d m_law 622 [some (.ref 0), some (.ref 1000), some (.ref 1099), some (.ref 1109), some (.ref 1110), some (.int x5), w6, some (.int x7), w8] [] h r) (f : (lg_cmp u0 x7.toInt64) ≠ 0 → tr_L g d m_law 620 [some (.ref 0), some (.ref 1000), some (.ref 1099), some (.ref 1109), some (.ref 1110), some (.int x5), w6, some (.int x7), w8] [] h r) : tr_L g d m_law 610 [some (.ref 0), some (.ref 1000), some (.ref 1099), some (.ref 1109), some (.ref 1110), some (.int x5), w6, some (.int x7), w8] [] h r := by
  refine tr_s (.aload_n 3) 1 611 [some (.ref 0), some (.ref 1000), some (.ref 1099), some (.ref 1109), some (.ref 1110), some (.int x5), w6, some (.int x7), w8] [.ref 1109] h rfl rfl rfl ?_
  refine tr_ic 0 0 (by decide) rfl ?_
  refine tr_lald 1109 u0 _ rfl (by decide) (hh_rd (hh_obj hL (k := 109) rfl).1) (hh_obj hL (k := 109) rfl).2 p0 ?_
  refine tr_s (.iload 7) 2 615 [some (.ref 0), some (.ref 1000), some (.ref 1099), some (.ref 1109), some (.ref 1110), some (.int x5), w6, some (.int x7), w8] [.int x7, .long u0] h rfl rfl rfl ?_
  refine tr_s .i2l 1 616 [some (.ref 0), some (.ref 1000), some (.ref 1099), some (.ref 1109), some (.ref 1110), some (.int x5), w6, some (.int x7), w8] [.long x7.toInt64, .long u0] h rfl rfl rfl ?_
  refine tr_s .lcmp 1 617 [some (.ref 0), some (.ref 1000), some (.ref 1099), some (.ref 1109), some (.ref 1110), some (.int x5), w6, some (.int x7), w8] [.int (lg_cmp u0 x7.toInt64)] h rfl rfl rfl ?_
  exact tr_if1 .eq 5 622 (lg_cmp u0 x7.toInt64) rfl rfl rfl (fun hc => t ((tr_eq hc).1 rfl)) (fun hc => f ((tr_eq hc).2 rfl))
theorem sg_law_620 {g : tr_g} {d : Nat} {h : ev_AH} {r : ev_O × ev_AH} {w0 w1 w2 w3 w4 w5 w6 w7 w8 : Option Value} (hL : hh_L h) (hr : r = (.inl (some (.int 0)), h)) : tr_L g d m_law 620 [w0, w1, w2, w3, w4, w5, w6, w7, w8] [] h r := by
  refine tr_ic 0 0 (by decide) rfl ?_
  exact tl_ret hL .ireturn 1 (some (.int 0)) rfl rfl rfl rfl hr
theorem sg_law_622 {g : tr_g} {d : Nat} {h : ev_AH} {r : ev_O × ev_AH} {x5 : Int32} {w6 w7 w8 : Option Value} (hL : hh_L h) (k : tr_L g d m_law 28 [some (.ref 0), some (.ref 1000), some (.ref 1099), some (.ref 1109), some (.ref 1110), some (.int (x5 + 5)), w6, w7, w8] [] h r) : tr_L g d m_law 622 [some (.ref 0), some (.ref 1000), some (.ref 1099), some (.ref 1109), some (.ref 1110), some (.int x5), w6, w7, w8] [] h r := by
  refine tr_goto 2339 2961 rfl rfl rfl ?_
  refine tr_inc 5 5 x5 5 (by decide) rfl rfl rfl ?_
  refine tr_goto (-2936) 28 rfl rfl rfl ?_
  exact k
theorem sg_law_625 {g : tr_g} {d : Nat} {h : ev_AH} {r : ev_O × ev_AH} {x5 v0 v1 v2 : Int32} {w6 w7 w8 : Option Value} {j0 j1 j2 j3 : Nat} {h1 h2 h3 : ev_AH} (hL : hh_L h) (e0 : x5 + 1 = Int32.ofNat j0) (b0 : j0 < g.1.length) (z0 : g.1.length < 2147483648) (e1 : x5 + 2 = Int32.ofNat j1) (b1 : j1 < g.1.length) (z1 : g.1.length < 2147483648) (c_0 : tr_L g d m_L_optionAt 0 [some (.ref 1000), some (.int (g.1.getD j0 0)), some (.int (g.1.getD j1 0)), some (.ref 1109), none] [] h (.inl (some (.int v0)), h1)) (e2 : x5 + 1 = Int32.ofNat j2) (b2 : j2 < g.1.length) (z2 : g.1.length < 2147483648) (e3 : x5 + 2 = Int32.ofNat j3) (b3 : j3 < g.1.length) (z3 : g.1.length < 2147483648) (c_1 : tr_L g d m_X9_optionAt 0 [some (.ref 1099), some (.int (g.1.getD j2 0)), some (.int (g.1.getD j3 0))] [] h1 (.inl (some (.int v1)), h2)) (c_2 : tr_L g d m_X9_thrown 0 [some (.ref 1099)] [] h2 (.inl (some (.int v2)), h3)) (t : v2 = v0 → tr_L g (d + 1) m_law 673 [some (.ref 0), some (.ref 1000), some (.ref 1099), some (.ref 1109), some (.ref 1110), some (.int x5), some (.int v0), some (.int v1), w8] [] h3 r) (f : v2 ≠ v0 → tr_L g (d + 1) m_law 671 [some (.ref 0), some (.ref 1000), some (.ref 1099), some (.ref 1109), some (.ref 1110), some (.int x5), some (.int v0), some (.int v1), w8] [] h3 r) : tr_L g (d + 1) m_law 625 [some (.ref 0), some (.ref 1000), some (.ref 1099), some (.ref 1109), some (.ref 1110), some (.int x5), w6, w7, w8] [] h r := by
  refine tr_s (.aload_n 1) 1 626 [some (.ref 0), some (.ref 1000), some (.ref 1099), some (.ref 1109), some (.ref 1110), some (.int x5), w6, w7, w8] [.ref 1000] h rfl rfl rfl ?_
  refine tr_s (.aload_n 0) 1 627 [some (.ref 0), some (.ref 1000), some (.ref 1099), some (.ref 1109), some (.ref 1110), some (.int x5), w6, w7, w8] [.ref 0, .ref 1000] h rfl rfl rfl ?_
  refine tr_s (.iload 5) 2 629 [some (.ref 0), some (.ref 1000), some (.ref 1099), some (.ref 1109), some (.ref 1110), some (.int x5), w6, w7, w8] [.int x5, .ref 0, .ref 1000] h rfl rfl rfl ?_
  refine tr_ic 1 1 (by decide) rfl ?_
  refine tr_s .iadd 1 631 [some (.ref 0), some (.ref 1000), some (.ref 1099), some (.ref 1109), some (.ref 1110), some (.int x5), w6, w7, w8] [.int (x5 + 1), .ref 0, .ref 1000] h rfl rfl rfl ?_
  refine tr_ald .iaload 0 0 j0 (x5 + 1) g.1 (Or.inl ⟨rfl, rfl⟩) rfl rfl e0 b0 z0 ?_
  refine tr_s (.aload_n 0) 1 633 [some (.ref 0), some (.ref 1000), some (.ref 1099), some (.ref 1109), some (.ref 1110), some (.int x5), w6, w7, w8] [.ref 0, .int (g.1.getD j0 0), .ref 1000] h rfl rfl rfl ?_
  refine tr_s (.iload 5) 2 635 [some (.ref 0), some (.ref 1000), some (.ref 1099), some (.ref 1109), some (.ref 1110), some (.int x5), w6, w7, w8] [.int x5, .ref 0, .int (g.1.getD j0 0), .ref 1000] h rfl rfl rfl ?_
  refine tr_ic 2 2 (by decide) rfl ?_
  refine tr_s .iadd 1 637 [some (.ref 0), some (.ref 1000), some (.ref 1099), some (.ref 1109), some (.ref 1110), some (.int x5), w6, w7, w8] [.int (x5 + 2), .ref 0, .int (g.1.getD j0 0), .ref 1000] h rfl rfl rfl ?_
  refine tr_ald .iaload 0 0 j1 (x5 + 2) g.1 (Or.inl ⟨rfl, rfl⟩) rfl rfl e1 b1 z1 ?_
  refine tr_s (.aload_n 3) 1 639 [some (.ref 0), some (.ref 1000), some (.ref 1099), some (.ref 1109), some (.ref 1110), some (.int x5), w6, w7, w8] [.ref 1109, .int (g.1.getD j1 0), .int (g.1.getD j0 0), .ref 1000] h rfl rfl rfl ?_
  refine tr_call (.invokestatic 201) 201 8 4 0 m_L_optionAt [.ref 1000, .int (g.1.getD j0 0), .int (g.1.getD j1 0), .ref 1109] [] (some (.int v0)) h1 rfl rfl rfl rfl rfl rfl rfl rfl rfl (tr_cok rfl (Or.inl rfl)) c_0 ?_
  have hL0 := c_0.2
  refine tr_st (.istore 6) 2 6 0 (.int v0) rfl rfl rfl rfl rfl rfl rfl ?_
  refine tr_s (.aload_n 2) 1 645 [some (.ref 0), some (.ref 1000), some (.ref 1099), some (.ref 1109), some (.ref 1110), some (.int x5), some (.int v0), w7, w8] [.ref 1099] h1 rfl rfl rfl ?_
  refine tr_s (.aload_n 0) 1 646 [some (.ref 0), some (.ref 1000), some (.ref 1099), some (.ref 1109), some (.ref 1110), some (.int x5), some (.int v0), w7, w8] [.ref 0, .ref 1099] h1 rfl rfl rfl ?_
  refine tr_s (.iload 5) 2 648 [some (.ref 0), some (.ref 1000), some (.ref 1099), some (.ref 1109), some (.ref 1110), some (.int x5), some (.int v0), w7, w8] [.int x5, .ref 0, .ref 1099] h1 rfl rfl rfl ?_
  refine tr_ic 1 1 (by decide) rfl ?_
  refine tr_s .iadd 1 650 [some (.ref 0), some (.ref 1000), some (.ref 1099), some (.ref 1109), some (.ref 1110), some (.int x5), some (.int v0), w7, w8] [.int (x5 + 1), .ref 0, .ref 1099] h1 rfl rfl rfl ?_
  refine tr_ald .iaload 0 0 j2 (x5 + 1) g.1 (Or.inl ⟨rfl, rfl⟩) rfl rfl e2 b2 z2 ?_
  refine tr_s (.aload_n 0) 1 652 [some (.ref 0), some (.ref 1000), some (.ref 1099), some (.ref 1109), some (.ref 1110), some (.int x5), some (.int v0), w7, w8] [.ref 0, .int (g.1.getD j2 0), .ref 1099] h1 rfl rfl rfl ?_
  refine tr_s (.iload 5) 2 654 [some (.ref 0), some (.ref 1000), some (.ref 1099), some (.ref 1109), some (.ref 1110), some (.int x5), some (.int v0), w7, w8] [.int x5, .ref 0, .int (g.1.getD j2 0), .ref 1099] h1 rfl rfl rfl ?_
  refine tr_ic 2 2 (by decide) rfl ?_
  refine tr_s .iadd 1 656 [some (.ref 0), some (.ref 1000), some (.ref 1099), some (.ref 1109), some (.ref 1110), some (.int x5), some (.int v0), w7, w8] [.int (x5 + 2), .ref 0, .int (g.1.getD j2 0), .ref 1099] h1 rfl rfl rfl ?_
  refine tr_ald .iaload 0 0 j3 (x5 + 2) g.1 (Or.inl ⟨rfl, rfl⟩) rfl rfl e3 b3 z3 ?_
  refine tr_call (.invokevirtual 204) 204 0 2 8 m_X9_optionAt [.ref 1099, .int (g.1.getD j2 0), .int (g.1.getD j3 0)] [] (some (.int v1)) h2 rfl rfl rfl rfl rfl rfl rfl rfl rfl (tr_cok rfl (Or.inr ⟨_, _, rfl, tr_rc (hh_rd (hh_obj hL0 (k := 99) rfl).1) (by decide)⟩)) c_1 ?_
  have hL1 := c_1.2
  refine tr_st (.istore 7) 2 7 0 (.int v1) rfl rfl rfl rfl rfl rfl rfl ?_
  refine tr_s (.aload_n 2) 1 663 [some (.ref 0), some (.ref 1000), some (.ref 1099), some (.ref 1109), some (.ref 1110), some (.int x5), some (.int v0), some (.int v1), w8] [.ref 1099] h2 rfl rfl rfl ?_
  refine tr_call (.invokevirtual 180) 180 0 0 8 m_X9_thrown [.ref 1099] [] (some (.int v2)) h3 rfl rfl rfl rfl rfl rfl rfl rfl rfl (tr_cok rfl (Or.inr ⟨_, _, rfl, tr_rc (hh_rd (hh_obj hL1 (k := 99) rfl).1) (by decide)⟩)) c_2 ?_
  have hL2 := c_2.2
  refine tr_s (.iload 6) 2 668 [some (.ref 0), some (.ref 1000), some (.ref 1099), some (.ref 1109), some (.ref 1110), some (.int x5), some (.int v0), some (.int v1), w8] [.int v0, .int v2] h3 rfl rfl rfl ?_
  exact tr_if2 .eq 5 673 v2 v0 rfl rfl rfl (fun hc => t ((tr_eq hc).1 rfl)) (fun hc => f ((tr_eq hc).2 rfl))
theorem sg_law_671 {g : tr_g} {d : Nat} {h : ev_AH} {r : ev_O × ev_AH} {w0 w1 w2 w3 w4 w5 w6 w7 w8 : Option Value} (hL : hh_L h) (hr : r = (.inl (some (.int 0)), h)) : tr_L g d m_law 671 [w0, w1, w2, w3, w4, w5, w6, w7, w8] [] h r := by
  refine tr_ic 0 0 (by decide) rfl ?_
  exact tl_ret hL .ireturn 1 (some (.int 0)) rfl rfl rfl rfl hr
theorem sg_law_673 {g : tr_g} {d : Nat} {h : ev_AH} {r : ev_O × ev_AH} {x5 x6 x7 : Int32} {w8 : Option Value} (hL : hh_L h) (t : x6 ≠ 0 → tr_L g d m_law 690 [some (.ref 0), some (.ref 1000), some (.ref 1099), some (.ref 1109), some (.ref 1110), some (.int x5), some (.int x6), some (.int x7), w8] [] h r) (f : x6 = 0 → tr_L g d m_law 678 [some (.ref 0), some (.ref 1000), some (.ref 1099), some (.ref 1109), some (.ref 1110), some (.int x5), some (.int x6), some (.int x7), w8] [] h r) : tr_L g d m_law 673 [some (.ref 0), some (.ref 1000), some (.ref 1099), some (.ref 1109), some (.ref 1110), some (.int x5), some (.int x6), some (.int x7), w8] [] h r := by
  refine tr_s (.iload 6) 2 675 [some (.ref 0), some (.ref 1000), some (.ref 1099), some (.ref 1109), some (.ref 1110), some (.int x5), some (.int x6), some (.int x7), w8] [.int x6] h rfl rfl rfl ?_
  exact tr_if1 .ne 15 690 x6 rfl rfl rfl (fun hc => t ((tr_ne hc).1 rfl)) (fun hc => f ((tr_ne hc).2 rfl))
theorem sg_law_678 {g : tr_g} {d : Nat} {h : ev_AH} {r : ev_O × ev_AH} {x5 x7 : Int32} {w6 w8 : Option Value} {u0 : Int64} (hL : hh_L h) (p0 : (hh_v h 109)[0]? = some (.long u0)) (t : (lg_cmp u0 x7.toInt64) = 0 → tr_L g d m_law 690 [some (.ref 0), some (.ref 1000), some (.ref 1099), some (.ref 1109), some (.ref 1110), some (.int x5), w6, some (.int x7), w8] [] h r) (f : (lg_cmp u0 x7.toInt64) ≠ 0 → tr_L g d m_law 688 [some (.ref 0), some (.ref 1000), some (.ref 1099), some (.ref 1109), some (.ref 1110), some (.int x5), w6, some (.int x7), w8] [] h r) : tr_L g d m_law 678 [some (.ref 0), some (.ref 1000), some (.ref 1099), some (.ref 1109), some (.ref 1110), some (.int x5), w6, some (.int x7), w8] [] h r := by
  refine tr_s (.aload_n 3) 1 679 [some (.ref 0), some (.ref 1000), some (.ref 1099), some (.ref 1109), some (.ref 1110), some (.int x5), w6, some (.int x7), w8] [.ref 1109] h rfl rfl rfl ?_
  refine tr_ic 0 0 (by decide) rfl ?_
  refine tr_lald 1109 u0 _ rfl (by decide) (hh_rd (hh_obj hL (k := 109) rfl).1) (hh_obj hL (k := 109) rfl).2 p0 ?_
  refine tr_s (.iload 7) 2 683 [some (.ref 0), some (.ref 1000), some (.ref 1099), some (.ref 1109), some (.ref 1110), some (.int x5), w6, some (.int x7), w8] [.int x7, .long u0] h rfl rfl rfl ?_
  refine tr_s .i2l 1 684 [some (.ref 0), some (.ref 1000), some (.ref 1099), some (.ref 1109), some (.ref 1110), some (.int x5), w6, some (.int x7), w8] [.long x7.toInt64, .long u0] h rfl rfl rfl ?_
  refine tr_s .lcmp 1 685 [some (.ref 0), some (.ref 1000), some (.ref 1099), some (.ref 1109), some (.ref 1110), some (.int x5), w6, some (.int x7), w8] [.int (lg_cmp u0 x7.toInt64)] h rfl rfl rfl ?_
  exact tr_if1 .eq 5 690 (lg_cmp u0 x7.toInt64) rfl rfl rfl (fun hc => t ((tr_eq hc).1 rfl)) (fun hc => f ((tr_eq hc).2 rfl))
theorem sg_law_688 {g : tr_g} {d : Nat} {h : ev_AH} {r : ev_O × ev_AH} {w0 w1 w2 w3 w4 w5 w6 w7 w8 : Option Value} (hL : hh_L h) (hr : r = (.inl (some (.int 0)), h)) : tr_L g d m_law 688 [w0, w1, w2, w3, w4, w5, w6, w7, w8] [] h r := by
  refine tr_ic 0 0 (by decide) rfl ?_
  exact tl_ret hL .ireturn 1 (some (.int 0)) rfl rfl rfl rfl hr
theorem sg_law_690 {g : tr_g} {d : Nat} {h : ev_AH} {r : ev_O × ev_AH} {x5 : Int32} {w6 w7 w8 : Option Value} (hL : hh_L h) (k : tr_L g d m_law 28 [some (.ref 0), some (.ref 1000), some (.ref 1099), some (.ref 1109), some (.ref 1110), some (.int (x5 + 5)), w6, w7, w8] [] h r) : tr_L g d m_law 690 [some (.ref 0), some (.ref 1000), some (.ref 1099), some (.ref 1109), some (.ref 1110), some (.int x5), w6, w7, w8] [] h r := by
  refine tr_goto 2271 2961 rfl rfl rfl ?_
  refine tr_inc 5 5 x5 5 (by decide) rfl rfl rfl ?_
  refine tr_goto (-2936) 28 rfl rfl rfl ?_
  exact k
theorem sg_law_693 {g : tr_g} {d : Nat} {h : ev_AH} {r : ev_O × ev_AH} {x5 v0 v1 v2 : Int32} {w6 w7 w8 : Option Value} {j0 j1 j2 j3 : Nat} {h1 h2 h3 : ev_AH} (hL : hh_L h) (e0 : x5 + 1 = Int32.ofNat j0) (b0 : j0 < g.1.length) (z0 : g.1.length < 2147483648) (e1 : x5 + 2 = Int32.ofNat j1) (b1 : j1 < g.1.length) (z1 : g.1.length < 2147483648) (c_0 : tr_L g d m_L_placeOf 0 [some (.ref 1000), some (.int (g.1.getD j0 0)), some (.int (((g.1.getD j1 0).toUInt32 % 65536).toInt32)), some (.ref 1109), none] [] h (.inl (some (.int v0)), h1)) (e2 : x5 + 1 = Int32.ofNat j2) (b2 : j2 < g.1.length) (z2 : g.1.length < 2147483648) (e3 : x5 + 2 = Int32.ofNat j3) (b3 : j3 < g.1.length) (z3 : g.1.length < 2147483648) (c_1 : tr_L g d m_X9_placeOf 0 [some (.ref 1099), some (.int (g.1.getD j2 0)), some (.int (((g.1.getD j3 0).toUInt32 % 65536).toInt32))] [] h1 (.inl (some (.int v1)), h2)) (c_2 : tr_L g d m_X9_thrown 0 [some (.ref 1099)] [] h2 (.inl (some (.int v2)), h3)) (t : v2 = v0 → tr_L g (d + 1) m_law 743 [some (.ref 0), some (.ref 1000), some (.ref 1099), some (.ref 1109), some (.ref 1110), some (.int x5), some (.int v0), some (.int v1), w8] [] h3 r) (f : v2 ≠ v0 → tr_L g (d + 1) m_law 741 [some (.ref 0), some (.ref 1000), some (.ref 1099), some (.ref 1109), some (.ref 1110), some (.int x5), some (.int v0), some (.int v1), w8] [] h3 r) : tr_L g (d + 1) m_law 693 [some (.ref 0), some (.ref 1000), some (.ref 1099), some (.ref 1109), some (.ref 1110), some (.int x5), w6, w7, w8] [] h r := by
  refine tr_s (.aload_n 1) 1 694 [some (.ref 0), some (.ref 1000), some (.ref 1099), some (.ref 1109), some (.ref 1110), some (.int x5), w6, w7, w8] [.ref 1000] h rfl rfl rfl ?_
  refine tr_s (.aload_n 0) 1 695 [some (.ref 0), some (.ref 1000), some (.ref 1099), some (.ref 1109), some (.ref 1110), some (.int x5), w6, w7, w8] [.ref 0, .ref 1000] h rfl rfl rfl ?_
  refine tr_s (.iload 5) 2 697 [some (.ref 0), some (.ref 1000), some (.ref 1099), some (.ref 1109), some (.ref 1110), some (.int x5), w6, w7, w8] [.int x5, .ref 0, .ref 1000] h rfl rfl rfl ?_
  refine tr_ic 1 1 (by decide) rfl ?_
  refine tr_s .iadd 1 699 [some (.ref 0), some (.ref 1000), some (.ref 1099), some (.ref 1109), some (.ref 1110), some (.int x5), w6, w7, w8] [.int (x5 + 1), .ref 0, .ref 1000] h rfl rfl rfl ?_
  refine tr_ald .iaload 0 0 j0 (x5 + 1) g.1 (Or.inl ⟨rfl, rfl⟩) rfl rfl e0 b0 z0 ?_
  refine tr_s (.aload_n 0) 1 701 [some (.ref 0), some (.ref 1000), some (.ref 1099), some (.ref 1109), some (.ref 1110), some (.int x5), w6, w7, w8] [.ref 0, .int (g.1.getD j0 0), .ref 1000] h rfl rfl rfl ?_
  refine tr_s (.iload 5) 2 703 [some (.ref 0), some (.ref 1000), some (.ref 1099), some (.ref 1109), some (.ref 1110), some (.int x5), w6, w7, w8] [.int x5, .ref 0, .int (g.1.getD j0 0), .ref 1000] h rfl rfl rfl ?_
  refine tr_ic 2 2 (by decide) rfl ?_
  refine tr_s .iadd 1 705 [some (.ref 0), some (.ref 1000), some (.ref 1099), some (.ref 1109), some (.ref 1110), some (.int x5), w6, w7, w8] [.int (x5 + 2), .ref 0, .int (g.1.getD j0 0), .ref 1000] h rfl rfl rfl ?_
  refine tr_ald .iaload 0 0 j1 (x5 + 2) g.1 (Or.inl ⟨rfl, rfl⟩) rfl rfl e1 b1 z1 ?_
  refine tr_s .i2c 1 707 [some (.ref 0), some (.ref 1000), some (.ref 1099), some (.ref 1109), some (.ref 1110), some (.int x5), w6, w7, w8] [.int (((g.1.getD j1 0).toUInt32 % 65536).toInt32), .int (g.1.getD j0 0), .ref 1000] h rfl rfl rfl ?_
  refine tr_s (.aload_n 3) 1 708 [some (.ref 0), some (.ref 1000), some (.ref 1099), some (.ref 1109), some (.ref 1110), some (.int x5), w6, w7, w8] [.ref 1109, .int (((g.1.getD j1 0).toUInt32 % 65536).toInt32), .int (g.1.getD j0 0), .ref 1000] h rfl rfl rfl ?_
  refine tr_call (.invokestatic 205) 205 8 4 0 m_L_placeOf [.ref 1000, .int (g.1.getD j0 0), .int (((g.1.getD j1 0).toUInt32 % 65536).toInt32), .ref 1109] [] (some (.int v0)) h1 rfl rfl rfl rfl rfl rfl rfl rfl rfl (tr_cok rfl (Or.inl rfl)) c_0 ?_
  have hL0 := c_0.2
  refine tr_st (.istore 6) 2 6 0 (.int v0) rfl rfl rfl rfl rfl rfl rfl ?_
  refine tr_s (.aload_n 2) 1 714 [some (.ref 0), some (.ref 1000), some (.ref 1099), some (.ref 1109), some (.ref 1110), some (.int x5), some (.int v0), w7, w8] [.ref 1099] h1 rfl rfl rfl ?_
  refine tr_s (.aload_n 0) 1 715 [some (.ref 0), some (.ref 1000), some (.ref 1099), some (.ref 1109), some (.ref 1110), some (.int x5), some (.int v0), w7, w8] [.ref 0, .ref 1099] h1 rfl rfl rfl ?_
  refine tr_s (.iload 5) 2 717 [some (.ref 0), some (.ref 1000), some (.ref 1099), some (.ref 1109), some (.ref 1110), some (.int x5), some (.int v0), w7, w8] [.int x5, .ref 0, .ref 1099] h1 rfl rfl rfl ?_
  refine tr_ic 1 1 (by decide) rfl ?_
  refine tr_s .iadd 1 719 [some (.ref 0), some (.ref 1000), some (.ref 1099), some (.ref 1109), some (.ref 1110), some (.int x5), some (.int v0), w7, w8] [.int (x5 + 1), .ref 0, .ref 1099] h1 rfl rfl rfl ?_
  refine tr_ald .iaload 0 0 j2 (x5 + 1) g.1 (Or.inl ⟨rfl, rfl⟩) rfl rfl e2 b2 z2 ?_
  refine tr_s (.aload_n 0) 1 721 [some (.ref 0), some (.ref 1000), some (.ref 1099), some (.ref 1109), some (.ref 1110), some (.int x5), some (.int v0), w7, w8] [.ref 0, .int (g.1.getD j2 0), .ref 1099] h1 rfl rfl rfl ?_
  refine tr_s (.iload 5) 2 723 [some (.ref 0), some (.ref 1000), some (.ref 1099), some (.ref 1109), some (.ref 1110), some (.int x5), some (.int v0), w7, w8] [.int x5, .ref 0, .int (g.1.getD j2 0), .ref 1099] h1 rfl rfl rfl ?_
  refine tr_ic 2 2 (by decide) rfl ?_
  refine tr_s .iadd 1 725 [some (.ref 0), some (.ref 1000), some (.ref 1099), some (.ref 1109), some (.ref 1110), some (.int x5), some (.int v0), w7, w8] [.int (x5 + 2), .ref 0, .int (g.1.getD j2 0), .ref 1099] h1 rfl rfl rfl ?_
  refine tr_ald .iaload 0 0 j3 (x5 + 2) g.1 (Or.inl ⟨rfl, rfl⟩) rfl rfl e3 b3 z3 ?_
  refine tr_s .i2c 1 727 [some (.ref 0), some (.ref 1000), some (.ref 1099), some (.ref 1109), some (.ref 1110), some (.int x5), some (.int v0), w7, w8] [.int (((g.1.getD j3 0).toUInt32 % 65536).toInt32), .int (g.1.getD j2 0), .ref 1099] h1 rfl rfl rfl ?_
  refine tr_call (.invokevirtual 207) 207 0 2 8 m_X9_placeOf [.ref 1099, .int (g.1.getD j2 0), .int (((g.1.getD j3 0).toUInt32 % 65536).toInt32)] [] (some (.int v1)) h2 rfl rfl rfl rfl rfl rfl rfl rfl rfl (tr_cok rfl (Or.inr ⟨_, _, rfl, tr_rc (hh_rd (hh_obj hL0 (k := 99) rfl).1) (by decide)⟩)) c_1 ?_
  have hL1 := c_1.2
  refine tr_st (.istore 7) 2 7 0 (.int v1) rfl rfl rfl rfl rfl rfl rfl ?_
  refine tr_s (.aload_n 2) 1 733 [some (.ref 0), some (.ref 1000), some (.ref 1099), some (.ref 1109), some (.ref 1110), some (.int x5), some (.int v0), some (.int v1), w8] [.ref 1099] h2 rfl rfl rfl ?_
  refine tr_call (.invokevirtual 180) 180 0 0 8 m_X9_thrown [.ref 1099] [] (some (.int v2)) h3 rfl rfl rfl rfl rfl rfl rfl rfl rfl (tr_cok rfl (Or.inr ⟨_, _, rfl, tr_rc (hh_rd (hh_obj hL1 (k := 99) rfl).1) (by decide)⟩)) c_2 ?_
  have hL2 := c_2.2
  refine tr_s (.iload 6) 2 738 [some (.ref 0), some (.ref 1000), some (.ref 1099), some (.ref 1109), some (.ref 1110), some (.int x5), some (.int v0), some (.int v1), w8] [.int v0, .int v2] h3 rfl rfl rfl ?_
  exact tr_if2 .eq 5 743 v2 v0 rfl rfl rfl (fun hc => t ((tr_eq hc).1 rfl)) (fun hc => f ((tr_eq hc).2 rfl))
theorem sg_law_741 {g : tr_g} {d : Nat} {h : ev_AH} {r : ev_O × ev_AH} {w0 w1 w2 w3 w4 w5 w6 w7 w8 : Option Value} (hL : hh_L h) (hr : r = (.inl (some (.int 0)), h)) : tr_L g d m_law 741 [w0, w1, w2, w3, w4, w5, w6, w7, w8] [] h r := by
  refine tr_ic 0 0 (by decide) rfl ?_
  exact tl_ret hL .ireturn 1 (some (.int 0)) rfl rfl rfl rfl hr
theorem sg_law_743 {g : tr_g} {d : Nat} {h : ev_AH} {r : ev_O × ev_AH} {x5 x6 x7 : Int32} {w8 : Option Value} (hL : hh_L h) (t : x6 ≠ 0 → tr_L g d m_law 760 [some (.ref 0), some (.ref 1000), some (.ref 1099), some (.ref 1109), some (.ref 1110), some (.int x5), some (.int x6), some (.int x7), w8] [] h r) (f : x6 = 0 → tr_L g d m_law 748 [some (.ref 0), some (.ref 1000), some (.ref 1099), some (.ref 1109), some (.ref 1110), some (.int x5), some (.int x6), some (.int x7), w8] [] h r) : tr_L g d m_law 743 [some (.ref 0), some (.ref 1000), some (.ref 1099), some (.ref 1109), some (.ref 1110), some (.int x5), some (.int x6), some (.int x7), w8] [] h r := by
  refine tr_s (.iload 6) 2 745 [some (.ref 0), some (.ref 1000), some (.ref 1099), some (.ref 1109), some (.ref 1110), some (.int x5), some (.int x6), some (.int x7), w8] [.int x6] h rfl rfl rfl ?_
  exact tr_if1 .ne 15 760 x6 rfl rfl rfl (fun hc => t ((tr_ne hc).1 rfl)) (fun hc => f ((tr_ne hc).2 rfl))
theorem sg_law_748 {g : tr_g} {d : Nat} {h : ev_AH} {r : ev_O × ev_AH} {x5 x7 : Int32} {w6 w8 : Option Value} {u0 : Int64} (hL : hh_L h) (p0 : (hh_v h 109)[0]? = some (.long u0)) (t : (lg_cmp u0 x7.toInt64) = 0 → tr_L g d m_law 760 [some (.ref 0), some (.ref 1000), some (.ref 1099), some (.ref 1109), some (.ref 1110), some (.int x5), w6, some (.int x7), w8] [] h r) (f : (lg_cmp u0 x7.toInt64) ≠ 0 → tr_L g d m_law 758 [some (.ref 0), some (.ref 1000), some (.ref 1099), some (.ref 1109), some (.ref 1110), some (.int x5), w6, some (.int x7), w8] [] h r) : tr_L g d m_law 748 [some (.ref 0), some (.ref 1000), some (.ref 1099), some (.ref 1109), some (.ref 1110), some (.int x5), w6, some (.int x7), w8] [] h r := by
  refine tr_s (.aload_n 3) 1 749 [some (.ref 0), some (.ref 1000), some (.ref 1099), some (.ref 1109), some (.ref 1110), some (.int x5), w6, some (.int x7), w8] [.ref 1109] h rfl rfl rfl ?_
  refine tr_ic 0 0 (by decide) rfl ?_
  refine tr_lald 1109 u0 _ rfl (by decide) (hh_rd (hh_obj hL (k := 109) rfl).1) (hh_obj hL (k := 109) rfl).2 p0 ?_
  refine tr_s (.iload 7) 2 753 [some (.ref 0), some (.ref 1000), some (.ref 1099), some (.ref 1109), some (.ref 1110), some (.int x5), w6, some (.int x7), w8] [.int x7, .long u0] h rfl rfl rfl ?_
  refine tr_s .i2l 1 754 [some (.ref 0), some (.ref 1000), some (.ref 1099), some (.ref 1109), some (.ref 1110), some (.int x5), w6, some (.int x7), w8] [.long x7.toInt64, .long u0] h rfl rfl rfl ?_
  refine tr_s .lcmp 1 755 [some (.ref 0), some (.ref 1000), some (.ref 1099), some (.ref 1109), some (.ref 1110), some (.int x5), w6, some (.int x7), w8] [.int (lg_cmp u0 x7.toInt64)] h rfl rfl rfl ?_
  exact tr_if1 .eq 5 760 (lg_cmp u0 x7.toInt64) rfl rfl rfl (fun hc => t ((tr_eq hc).1 rfl)) (fun hc => f ((tr_eq hc).2 rfl))
theorem sg_law_758 {g : tr_g} {d : Nat} {h : ev_AH} {r : ev_O × ev_AH} {w0 w1 w2 w3 w4 w5 w6 w7 w8 : Option Value} (hL : hh_L h) (hr : r = (.inl (some (.int 0)), h)) : tr_L g d m_law 758 [w0, w1, w2, w3, w4, w5, w6, w7, w8] [] h r := by
  refine tr_ic 0 0 (by decide) rfl ?_
  exact tl_ret hL .ireturn 1 (some (.int 0)) rfl rfl rfl rfl hr
theorem sg_law_760 {g : tr_g} {d : Nat} {h : ev_AH} {r : ev_O × ev_AH} {x5 : Int32} {w6 w7 w8 : Option Value} (hL : hh_L h) (k : tr_L g d m_law 28 [some (.ref 0), some (.ref 1000), some (.ref 1099), some (.ref 1109), some (.ref 1110), some (.int (x5 + 5)), w6, w7, w8] [] h r) : tr_L g d m_law 760 [some (.ref 0), some (.ref 1000), some (.ref 1099), some (.ref 1109), some (.ref 1110), some (.int x5), w6, w7, w8] [] h r := by
  refine tr_goto 2201 2961 rfl rfl rfl ?_
  refine tr_inc 5 5 x5 5 (by decide) rfl rfl rfl ?_
  refine tr_goto (-2936) 28 rfl rfl rfl ?_
  exact k
theorem sg_law_763 {g : tr_g} {d : Nat} {h : ev_AH} {r : ev_O × ev_AH} {x5 v0 v1 v2 : Int32} {w6 w7 w8 : Option Value} {j0 j1 : Nat} {h1 h2 h3 : ev_AH} (hL : hh_L h) (e0 : x5 + 1 = Int32.ofNat j0) (b0 : j0 < g.1.length) (z0 : g.1.length < 2147483648) (c_0 : tr_L g d m_L_heardBy 0 [some (.ref 1000), some (.int (g.1.getD j0 0)), some (.ref 1109), none] [] h (.inl (some (.int v0)), h1)) (e1 : x5 + 1 = Int32.ofNat j1) (b1 : j1 < g.1.length) (z1 : g.1.length < 2147483648) (c_1 : tr_L g d m_X9_heardBy 0 [some (.ref 1099), some (.int (g.1.getD j1 0))] [] h1 (.inl (some (.int v1)), h2)) (c_2 : tr_L g d m_X9_thrown 0 [some (.ref 1099)] [] h2 (.inl (some (.int v2)), h3)) (t : v2 = v0 → tr_L g (d + 1) m_law 799 [some (.ref 0), some (.ref 1000), some (.ref 1099), some (.ref 1109), some (.ref 1110), some (.int x5), some (.int v0), some (.int v1), w8] [] h3 r) (f : v2 ≠ v0 → tr_L g (d + 1) m_law 797 [some (.ref 0), some (.ref 1000), some (.ref 1099), some (.ref 1109), some (.ref 1110), some (.int x5), some (.int v0), some (.int v1), w8] [] h3 r) : tr_L g (d + 1) m_law 763 [some (.ref 0), some (.ref 1000), some (.ref 1099), some (.ref 1109), some (.ref 1110), some (.int x5), w6, w7, w8] [] h r := by
  refine tr_s (.aload_n 1) 1 764 [some (.ref 0), some (.ref 1000), some (.ref 1099), some (.ref 1109), some (.ref 1110), some (.int x5), w6, w7, w8] [.ref 1000] h rfl rfl rfl ?_
  refine tr_s (.aload_n 0) 1 765 [some (.ref 0), some (.ref 1000), some (.ref 1099), some (.ref 1109), some (.ref 1110), some (.int x5), w6, w7, w8] [.ref 0, .ref 1000] h rfl rfl rfl ?_
  refine tr_s (.iload 5) 2 767 [some (.ref 0), some (.ref 1000), some (.ref 1099), some (.ref 1109), some (.ref 1110), some (.int x5), w6, w7, w8] [.int x5, .ref 0, .ref 1000] h rfl rfl rfl ?_
  refine tr_ic 1 1 (by decide) rfl ?_
  refine tr_s .iadd 1 769 [some (.ref 0), some (.ref 1000), some (.ref 1099), some (.ref 1109), some (.ref 1110), some (.int x5), w6, w7, w8] [.int (x5 + 1), .ref 0, .ref 1000] h rfl rfl rfl ?_
  refine tr_ald .iaload 0 0 j0 (x5 + 1) g.1 (Or.inl ⟨rfl, rfl⟩) rfl rfl e0 b0 z0 ?_
  refine tr_s (.aload_n 3) 1 771 [some (.ref 0), some (.ref 1000), some (.ref 1099), some (.ref 1109), some (.ref 1110), some (.int x5), w6, w7, w8] [.ref 1109, .int (g.1.getD j0 0), .ref 1000] h rfl rfl rfl ?_
  refine tr_call (.invokestatic 208) 208 8 3 0 m_L_heardBy [.ref 1000, .int (g.1.getD j0 0), .ref 1109] [] (some (.int v0)) h1 rfl rfl rfl rfl rfl rfl rfl rfl rfl (tr_cok rfl (Or.inl rfl)) c_0 ?_
  have hL0 := c_0.2
  refine tr_st (.istore 6) 2 6 0 (.int v0) rfl rfl rfl rfl rfl rfl rfl ?_
  refine tr_s (.aload_n 2) 1 777 [some (.ref 0), some (.ref 1000), some (.ref 1099), some (.ref 1109), some (.ref 1110), some (.int x5), some (.int v0), w7, w8] [.ref 1099] h1 rfl rfl rfl ?_
  refine tr_s (.aload_n 0) 1 778 [some (.ref 0), some (.ref 1000), some (.ref 1099), some (.ref 1109), some (.ref 1110), some (.int x5), some (.int v0), w7, w8] [.ref 0, .ref 1099] h1 rfl rfl rfl ?_
  refine tr_s (.iload 5) 2 780 [some (.ref 0), some (.ref 1000), some (.ref 1099), some (.ref 1109), some (.ref 1110), some (.int x5), some (.int v0), w7, w8] [.int x5, .ref 0, .ref 1099] h1 rfl rfl rfl ?_
  refine tr_ic 1 1 (by decide) rfl ?_
  refine tr_s .iadd 1 782 [some (.ref 0), some (.ref 1000), some (.ref 1099), some (.ref 1109), some (.ref 1110), some (.int x5), some (.int v0), w7, w8] [.int (x5 + 1), .ref 0, .ref 1099] h1 rfl rfl rfl ?_
  refine tr_ald .iaload 0 0 j1 (x5 + 1) g.1 (Or.inl ⟨rfl, rfl⟩) rfl rfl e1 b1 z1 ?_
  refine tr_call (.invokevirtual 210) 210 0 1 8 m_X9_heardBy [.ref 1099, .int (g.1.getD j1 0)] [] (some (.int v1)) h2 rfl rfl rfl rfl rfl rfl rfl rfl rfl (tr_cok rfl (Or.inr ⟨_, _, rfl, tr_rc (hh_rd (hh_obj hL0 (k := 99) rfl).1) (by decide)⟩)) c_1 ?_
  have hL1 := c_1.2
  refine tr_st (.istore 7) 2 7 0 (.int v1) rfl rfl rfl rfl rfl rfl rfl ?_
  refine tr_s (.aload_n 2) 1 789 [some (.ref 0), some (.ref 1000), some (.ref 1099), some (.ref 1109), some (.ref 1110), some (.int x5), some (.int v0), some (.int v1), w8] [.ref 1099] h2 rfl rfl rfl ?_
  refine tr_call (.invokevirtual 180) 180 0 0 8 m_X9_thrown [.ref 1099] [] (some (.int v2)) h3 rfl rfl rfl rfl rfl rfl rfl rfl rfl (tr_cok rfl (Or.inr ⟨_, _, rfl, tr_rc (hh_rd (hh_obj hL1 (k := 99) rfl).1) (by decide)⟩)) c_2 ?_
  have hL2 := c_2.2
  refine tr_s (.iload 6) 2 794 [some (.ref 0), some (.ref 1000), some (.ref 1099), some (.ref 1109), some (.ref 1110), some (.int x5), some (.int v0), some (.int v1), w8] [.int v0, .int v2] h3 rfl rfl rfl ?_
  exact tr_if2 .eq 5 799 v2 v0 rfl rfl rfl (fun hc => t ((tr_eq hc).1 rfl)) (fun hc => f ((tr_eq hc).2 rfl))
theorem sg_law_797 {g : tr_g} {d : Nat} {h : ev_AH} {r : ev_O × ev_AH} {w0 w1 w2 w3 w4 w5 w6 w7 w8 : Option Value} (hL : hh_L h) (hr : r = (.inl (some (.int 0)), h)) : tr_L g d m_law 797 [w0, w1, w2, w3, w4, w5, w6, w7, w8] [] h r := by
  refine tr_ic 0 0 (by decide) rfl ?_
  exact tl_ret hL .ireturn 1 (some (.int 0)) rfl rfl rfl rfl hr
theorem sg_law_799 {g : tr_g} {d : Nat} {h : ev_AH} {r : ev_O × ev_AH} {x5 x6 x7 : Int32} {w8 : Option Value} (hL : hh_L h) (t : x6 ≠ 0 → tr_L g d m_law 816 [some (.ref 0), some (.ref 1000), some (.ref 1099), some (.ref 1109), some (.ref 1110), some (.int x5), some (.int x6), some (.int x7), w8] [] h r) (f : x6 = 0 → tr_L g d m_law 804 [some (.ref 0), some (.ref 1000), some (.ref 1099), some (.ref 1109), some (.ref 1110), some (.int x5), some (.int x6), some (.int x7), w8] [] h r) : tr_L g d m_law 799 [some (.ref 0), some (.ref 1000), some (.ref 1099), some (.ref 1109), some (.ref 1110), some (.int x5), some (.int x6), some (.int x7), w8] [] h r := by
  refine tr_s (.iload 6) 2 801 [some (.ref 0), some (.ref 1000), some (.ref 1099), some (.ref 1109), some (.ref 1110), some (.int x5), some (.int x6), some (.int x7), w8] [.int x6] h rfl rfl rfl ?_
  exact tr_if1 .ne 15 816 x6 rfl rfl rfl (fun hc => t ((tr_ne hc).1 rfl)) (fun hc => f ((tr_ne hc).2 rfl))
theorem sg_law_804 {g : tr_g} {d : Nat} {h : ev_AH} {r : ev_O × ev_AH} {x5 x7 : Int32} {w6 w8 : Option Value} {u0 : Int64} (hL : hh_L h) (p0 : (hh_v h 109)[0]? = some (.long u0)) (t : (lg_cmp u0 x7.toInt64) = 0 → tr_L g d m_law 816 [some (.ref 0), some (.ref 1000), some (.ref 1099), some (.ref 1109), some (.ref 1110), some (.int x5), w6, some (.int x7), w8] [] h r) (f : (lg_cmp u0 x7.toInt64) ≠ 0 → tr_L g d m_law 814 [some (.ref 0), some (.ref 1000), some (.ref 1099), some (.ref 1109), some (.ref 1110), some (.int x5), w6, some (.int x7), w8] [] h r) : tr_L g d m_law 804 [some (.ref 0), some (.ref 1000), some (.ref 1099), some (.ref 1109), some (.ref 1110), some (.int x5), w6, some (.int x7), w8] [] h r := by
  refine tr_s (.aload_n 3) 1 805 [some (.ref 0), some (.ref 1000), some (.ref 1099), some (.ref 1109), some (.ref 1110), some (.int x5), w6, some (.int x7), w8] [.ref 1109] h rfl rfl rfl ?_
  refine tr_ic 0 0 (by decide) rfl ?_
  refine tr_lald 1109 u0 _ rfl (by decide) (hh_rd (hh_obj hL (k := 109) rfl).1) (hh_obj hL (k := 109) rfl).2 p0 ?_
  refine tr_s (.iload 7) 2 809 [some (.ref 0), some (.ref 1000), some (.ref 1099), some (.ref 1109), some (.ref 1110), some (.int x5), w6, some (.int x7), w8] [.int x7, .long u0] h rfl rfl rfl ?_
  refine tr_s .i2l 1 810 [some (.ref 0), some (.ref 1000), some (.ref 1099), some (.ref 1109), some (.ref 1110), some (.int x5), w6, some (.int x7), w8] [.long x7.toInt64, .long u0] h rfl rfl rfl ?_
  refine tr_s .lcmp 1 811 [some (.ref 0), some (.ref 1000), some (.ref 1099), some (.ref 1109), some (.ref 1110), some (.int x5), w6, some (.int x7), w8] [.int (lg_cmp u0 x7.toInt64)] h rfl rfl rfl ?_
  exact tr_if1 .eq 5 816 (lg_cmp u0 x7.toInt64) rfl rfl rfl (fun hc => t ((tr_eq hc).1 rfl)) (fun hc => f ((tr_eq hc).2 rfl))
theorem sg_law_814 {g : tr_g} {d : Nat} {h : ev_AH} {r : ev_O × ev_AH} {w0 w1 w2 w3 w4 w5 w6 w7 w8 : Option Value} (hL : hh_L h) (hr : r = (.inl (some (.int 0)), h)) : tr_L g d m_law 814 [w0, w1, w2, w3, w4, w5, w6, w7, w8] [] h r := by
  refine tr_ic 0 0 (by decide) rfl ?_
  exact tl_ret hL .ireturn 1 (some (.int 0)) rfl rfl rfl rfl hr
theorem sg_law_816 {g : tr_g} {d : Nat} {h : ev_AH} {r : ev_O × ev_AH} {x5 : Int32} {w6 w7 w8 : Option Value} (hL : hh_L h) (k : tr_L g d m_law 28 [some (.ref 0), some (.ref 1000), some (.ref 1099), some (.ref 1109), some (.ref 1110), some (.int (x5 + 5)), w6, w7, w8] [] h r) : tr_L g d m_law 816 [some (.ref 0), some (.ref 1000), some (.ref 1099), some (.ref 1109), some (.ref 1110), some (.int x5), w6, w7, w8] [] h r := by
  refine tr_goto 2145 2961 rfl rfl rfl ?_
  refine tr_inc 5 5 x5 5 (by decide) rfl rfl rfl ?_
  refine tr_goto (-2936) 28 rfl rfl rfl ?_
  exact k
theorem sg_law_819 {g : tr_g} {d : Nat} {h : ev_AH} {r : ev_O × ev_AH} {x5 v0 v1 v2 : Int32} {w6 w7 w8 : Option Value} {j0 j1 : Nat} {h1 h2 h3 : ev_AH} (hL : hh_L h) (e0 : x5 + 1 = Int32.ofNat j0) (b0 : j0 < g.1.length) (z0 : g.1.length < 2147483648) (c_0 : tr_L g d m_L_rayEnd 0 [some (.ref 1000), some (.int (g.1.getD j0 0)), some (.ref 1109), none] [] h (.inl (some (.int v0)), h1)) (e1 : x5 + 1 = Int32.ofNat j1) (b1 : j1 < g.1.length) (z1 : g.1.length < 2147483648) (c_1 : tr_L g d m_X9_rayEnd 0 [some (.ref 1099), some (.int (g.1.getD j1 0))] [] h1 (.inl (some (.int v1)), h2)) (c_2 : tr_L g d m_X9_thrown 0 [some (.ref 1099)] [] h2 (.inl (some (.int v2)), h3)) (t : v2 = v0 → tr_L g (d + 1) m_law 855 [some (.ref 0), some (.ref 1000), some (.ref 1099), some (.ref 1109), some (.ref 1110), some (.int x5), some (.int v0), some (.int v1), w8] [] h3 r) (f : v2 ≠ v0 → tr_L g (d + 1) m_law 853 [some (.ref 0), some (.ref 1000), some (.ref 1099), some (.ref 1109), some (.ref 1110), some (.int x5), some (.int v0), some (.int v1), w8] [] h3 r) : tr_L g (d + 1) m_law 819 [some (.ref 0), some (.ref 1000), some (.ref 1099), some (.ref 1109), some (.ref 1110), some (.int x5), w6, w7, w8] [] h r := by
  refine tr_s (.aload_n 1) 1 820 [some (.ref 0), some (.ref 1000), some (.ref 1099), some (.ref 1109), some (.ref 1110), some (.int x5), w6, w7, w8] [.ref 1000] h rfl rfl rfl ?_
  refine tr_s (.aload_n 0) 1 821 [some (.ref 0), some (.ref 1000), some (.ref 1099), some (.ref 1109), some (.ref 1110), some (.int x5), w6, w7, w8] [.ref 0, .ref 1000] h rfl rfl rfl ?_
  refine tr_s (.iload 5) 2 823 [some (.ref 0), some (.ref 1000), some (.ref 1099), some (.ref 1109), some (.ref 1110), some (.int x5), w6, w7, w8] [.int x5, .ref 0, .ref 1000] h rfl rfl rfl ?_
  refine tr_ic 1 1 (by decide) rfl ?_
  refine tr_s .iadd 1 825 [some (.ref 0), some (.ref 1000), some (.ref 1099), some (.ref 1109), some (.ref 1110), some (.int x5), w6, w7, w8] [.int (x5 + 1), .ref 0, .ref 1000] h rfl rfl rfl ?_
  refine tr_ald .iaload 0 0 j0 (x5 + 1) g.1 (Or.inl ⟨rfl, rfl⟩) rfl rfl e0 b0 z0 ?_
  refine tr_s (.aload_n 3) 1 827 [some (.ref 0), some (.ref 1000), some (.ref 1099), some (.ref 1109), some (.ref 1110), some (.int x5), w6, w7, w8] [.ref 1109, .int (g.1.getD j0 0), .ref 1000] h rfl rfl rfl ?_
  refine tr_call (.invokestatic 211) 211 8 3 0 m_L_rayEnd [.ref 1000, .int (g.1.getD j0 0), .ref 1109] [] (some (.int v0)) h1 rfl rfl rfl rfl rfl rfl rfl rfl rfl (tr_cok rfl (Or.inl rfl)) c_0 ?_
  have hL0 := c_0.2
  refine tr_st (.istore 6) 2 6 0 (.int v0) rfl rfl rfl rfl rfl rfl rfl ?_
  refine tr_s (.aload_n 2) 1 833 [some (.ref 0), some (.ref 1000), some (.ref 1099), some (.ref 1109), some (.ref 1110), some (.int x5), some (.int v0), w7, w8] [.ref 1099] h1 rfl rfl rfl ?_
  refine tr_s (.aload_n 0) 1 834 [some (.ref 0), some (.ref 1000), some (.ref 1099), some (.ref 1109), some (.ref 1110), some (.int x5), some (.int v0), w7, w8] [.ref 0, .ref 1099] h1 rfl rfl rfl ?_
  refine tr_s (.iload 5) 2 836 [some (.ref 0), some (.ref 1000), some (.ref 1099), some (.ref 1109), some (.ref 1110), some (.int x5), some (.int v0), w7, w8] [.int x5, .ref 0, .ref 1099] h1 rfl rfl rfl ?_
  refine tr_ic 1 1 (by decide) rfl ?_
  refine tr_s .iadd 1 838 [some (.ref 0), some (.ref 1000), some (.ref 1099), some (.ref 1109), some (.ref 1110), some (.int x5), some (.int v0), w7, w8] [.int (x5 + 1), .ref 0, .ref 1099] h1 rfl rfl rfl ?_
  refine tr_ald .iaload 0 0 j1 (x5 + 1) g.1 (Or.inl ⟨rfl, rfl⟩) rfl rfl e1 b1 z1 ?_
  refine tr_call (.invokevirtual 213) 213 0 1 8 m_X9_rayEnd [.ref 1099, .int (g.1.getD j1 0)] [] (some (.int v1)) h2 rfl rfl rfl rfl rfl rfl rfl rfl rfl (tr_cok rfl (Or.inr ⟨_, _, rfl, tr_rc (hh_rd (hh_obj hL0 (k := 99) rfl).1) (by decide)⟩)) c_1 ?_
  have hL1 := c_1.2
  refine tr_st (.istore 7) 2 7 0 (.int v1) rfl rfl rfl rfl rfl rfl rfl ?_
  refine tr_s (.aload_n 2) 1 845 [some (.ref 0), some (.ref 1000), some (.ref 1099), some (.ref 1109), some (.ref 1110), some (.int x5), some (.int v0), some (.int v1), w8] [.ref 1099] h2 rfl rfl rfl ?_
  refine tr_call (.invokevirtual 180) 180 0 0 8 m_X9_thrown [.ref 1099] [] (some (.int v2)) h3 rfl rfl rfl rfl rfl rfl rfl rfl rfl (tr_cok rfl (Or.inr ⟨_, _, rfl, tr_rc (hh_rd (hh_obj hL1 (k := 99) rfl).1) (by decide)⟩)) c_2 ?_
  have hL2 := c_2.2
  refine tr_s (.iload 6) 2 850 [some (.ref 0), some (.ref 1000), some (.ref 1099), some (.ref 1109), some (.ref 1110), some (.int x5), some (.int v0), some (.int v1), w8] [.int v0, .int v2] h3 rfl rfl rfl ?_
  exact tr_if2 .eq 5 855 v2 v0 rfl rfl rfl (fun hc => t ((tr_eq hc).1 rfl)) (fun hc => f ((tr_eq hc).2 rfl))
theorem sg_law_853 {g : tr_g} {d : Nat} {h : ev_AH} {r : ev_O × ev_AH} {w0 w1 w2 w3 w4 w5 w6 w7 w8 : Option Value} (hL : hh_L h) (hr : r = (.inl (some (.int 0)), h)) : tr_L g d m_law 853 [w0, w1, w2, w3, w4, w5, w6, w7, w8] [] h r := by
  refine tr_ic 0 0 (by decide) rfl ?_
  exact tl_ret hL .ireturn 1 (some (.int 0)) rfl rfl rfl rfl hr
theorem sg_law_855 {g : tr_g} {d : Nat} {h : ev_AH} {r : ev_O × ev_AH} {x5 x6 x7 : Int32} {w8 : Option Value} (hL : hh_L h) (t : x6 ≠ 0 → tr_L g d m_law 872 [some (.ref 0), some (.ref 1000), some (.ref 1099), some (.ref 1109), some (.ref 1110), some (.int x5), some (.int x6), some (.int x7), w8] [] h r) (f : x6 = 0 → tr_L g d m_law 860 [some (.ref 0), some (.ref 1000), some (.ref 1099), some (.ref 1109), some (.ref 1110), some (.int x5), some (.int x6), some (.int x7), w8] [] h r) : tr_L g d m_law 855 [some (.ref 0), some (.ref 1000), some (.ref 1099), some (.ref 1109), some (.ref 1110), some (.int x5), some (.int x6), some (.int x7), w8] [] h r := by
  refine tr_s (.iload 6) 2 857 [some (.ref 0), some (.ref 1000), some (.ref 1099), some (.ref 1109), some (.ref 1110), some (.int x5), some (.int x6), some (.int x7), w8] [.int x6] h rfl rfl rfl ?_
  exact tr_if1 .ne 15 872 x6 rfl rfl rfl (fun hc => t ((tr_ne hc).1 rfl)) (fun hc => f ((tr_ne hc).2 rfl))
theorem sg_law_860 {g : tr_g} {d : Nat} {h : ev_AH} {r : ev_O × ev_AH} {x5 x7 : Int32} {w6 w8 : Option Value} {u0 : Int64} (hL : hh_L h) (p0 : (hh_v h 109)[0]? = some (.long u0)) (t : (lg_cmp u0 x7.toInt64) = 0 → tr_L g d m_law 872 [some (.ref 0), some (.ref 1000), some (.ref 1099), some (.ref 1109), some (.ref 1110), some (.int x5), w6, some (.int x7), w8] [] h r) (f : (lg_cmp u0 x7.toInt64) ≠ 0 → tr_L g d m_law 870 [some (.ref 0), some (.ref 1000), some (.ref 1099), some (.ref 1109), some (.ref 1110), some (.int x5), w6, some (.int x7), w8] [] h r) : tr_L g d m_law 860 [some (.ref 0), some (.ref 1000), some (.ref 1099), some (.ref 1109), some (.ref 1110), some (.int x5), w6, some (.int x7), w8] [] h r := by
  refine tr_s (.aload_n 3) 1 861 [some (.ref 0), some (.ref 1000), some (.ref 1099), some (.ref 1109), some (.ref 1110), some (.int x5), w6, some (.int x7), w8] [.ref 1109] h rfl rfl rfl ?_
  refine tr_ic 0 0 (by decide) rfl ?_
  refine tr_lald 1109 u0 _ rfl (by decide) (hh_rd (hh_obj hL (k := 109) rfl).1) (hh_obj hL (k := 109) rfl).2 p0 ?_
  refine tr_s (.iload 7) 2 865 [some (.ref 0), some (.ref 1000), some (.ref 1099), some (.ref 1109), some (.ref 1110), some (.int x5), w6, some (.int x7), w8] [.int x7, .long u0] h rfl rfl rfl ?_
  refine tr_s .i2l 1 866 [some (.ref 0), some (.ref 1000), some (.ref 1099), some (.ref 1109), some (.ref 1110), some (.int x5), w6, some (.int x7), w8] [.long x7.toInt64, .long u0] h rfl rfl rfl ?_
  refine tr_s .lcmp 1 867 [some (.ref 0), some (.ref 1000), some (.ref 1099), some (.ref 1109), some (.ref 1110), some (.int x5), w6, some (.int x7), w8] [.int (lg_cmp u0 x7.toInt64)] h rfl rfl rfl ?_
  exact tr_if1 .eq 5 872 (lg_cmp u0 x7.toInt64) rfl rfl rfl (fun hc => t ((tr_eq hc).1 rfl)) (fun hc => f ((tr_eq hc).2 rfl))
theorem sg_law_870 {g : tr_g} {d : Nat} {h : ev_AH} {r : ev_O × ev_AH} {w0 w1 w2 w3 w4 w5 w6 w7 w8 : Option Value} (hL : hh_L h) (hr : r = (.inl (some (.int 0)), h)) : tr_L g d m_law 870 [w0, w1, w2, w3, w4, w5, w6, w7, w8] [] h r := by
  refine tr_ic 0 0 (by decide) rfl ?_
  exact tl_ret hL .ireturn 1 (some (.int 0)) rfl rfl rfl rfl hr
theorem sg_law_872 {g : tr_g} {d : Nat} {h : ev_AH} {r : ev_O × ev_AH} {x5 : Int32} {w6 w7 w8 : Option Value} (hL : hh_L h) (k : tr_L g d m_law 28 [some (.ref 0), some (.ref 1000), some (.ref 1099), some (.ref 1109), some (.ref 1110), some (.int (x5 + 5)), w6, w7, w8] [] h r) : tr_L g d m_law 872 [some (.ref 0), some (.ref 1000), some (.ref 1099), some (.ref 1109), some (.ref 1110), some (.int x5), w6, w7, w8] [] h r := by
  refine tr_goto 2089 2961 rfl rfl rfl ?_
  refine tr_inc 5 5 x5 5 (by decide) rfl rfl rfl ?_
  refine tr_goto (-2936) 28 rfl rfl rfl ?_
  exact k
theorem sg_law_875 {g : tr_g} {d : Nat} {h : ev_AH} {r : ev_O × ev_AH} {x5 v0 v1 v2 : Int32} {w6 w7 w8 : Option Value} {j0 j1 : Nat} {h1 h2 h3 : ev_AH} (hL : hh_L h) (e0 : x5 + 1 = Int32.ofNat j0) (b0 : j0 < g.1.length) (z0 : g.1.length < 2147483648) (c_0 : tr_L g d m_L_rayEndByJoining 0 [some (.ref 1000), some (.int (g.1.getD j0 0)), some (.ref 1109), none] [] h (.inl (some (.int v0)), h1)) (e1 : x5 + 1 = Int32.ofNat j1) (b1 : j1 < g.1.length) (z1 : g.1.length < 2147483648) (c_1 : tr_L g d m_X9_rayEndByJoining 0 [some (.ref 1099), some (.int (g.1.getD j1 0))] [] h1 (.inl (some (.int v1)), h2)) (c_2 : tr_L g d m_X9_thrown 0 [some (.ref 1099)] [] h2 (.inl (some (.int v2)), h3)) (t : v2 = v0 → tr_L g (d + 1) m_law 911 [some (.ref 0), some (.ref 1000), some (.ref 1099), some (.ref 1109), some (.ref 1110), some (.int x5), some (.int v0), some (.int v1), w8] [] h3 r) (f : v2 ≠ v0 → tr_L g (d + 1) m_law 909 [some (.ref 0), some (.ref 1000), some (.ref 1099), some (.ref 1109), some (.ref 1110), some (.int x5), some (.int v0), some (.int v1), w8] [] h3 r) : tr_L g (d + 1) m_law 875 [some (.ref 0), some (.ref 1000), some (.ref 1099), some (.ref 1109), some (.ref 1110), some (.int x5), w6, w7, w8] [] h r := by
  refine tr_s (.aload_n 1) 1 876 [some (.ref 0), some (.ref 1000), some (.ref 1099), some (.ref 1109), some (.ref 1110), some (.int x5), w6, w7, w8] [.ref 1000] h rfl rfl rfl ?_
  refine tr_s (.aload_n 0) 1 877 [some (.ref 0), some (.ref 1000), some (.ref 1099), some (.ref 1109), some (.ref 1110), some (.int x5), w6, w7, w8] [.ref 0, .ref 1000] h rfl rfl rfl ?_
  refine tr_s (.iload 5) 2 879 [some (.ref 0), some (.ref 1000), some (.ref 1099), some (.ref 1109), some (.ref 1110), some (.int x5), w6, w7, w8] [.int x5, .ref 0, .ref 1000] h rfl rfl rfl ?_
  refine tr_ic 1 1 (by decide) rfl ?_
  refine tr_s .iadd 1 881 [some (.ref 0), some (.ref 1000), some (.ref 1099), some (.ref 1109), some (.ref 1110), some (.int x5), w6, w7, w8] [.int (x5 + 1), .ref 0, .ref 1000] h rfl rfl rfl ?_
  refine tr_ald .iaload 0 0 j0 (x5 + 1) g.1 (Or.inl ⟨rfl, rfl⟩) rfl rfl e0 b0 z0 ?_
  refine tr_s (.aload_n 3) 1 883 [some (.ref 0), some (.ref 1000), some (.ref 1099), some (.ref 1109), some (.ref 1110), some (.int x5), w6, w7, w8] [.ref 1109, .int (g.1.getD j0 0), .ref 1000] h rfl rfl rfl ?_
  refine tr_call (.invokestatic 214) 214 8 3 0 m_L_rayEndByJoining [.ref 1000, .int (g.1.getD j0 0), .ref 1109] [] (some (.int v0)) h1 rfl rfl rfl rfl rfl rfl rfl rfl rfl (tr_cok rfl (Or.inl rfl)) c_0 ?_
  have hL0 := c_0.2
  refine tr_st (.istore 6) 2 6 0 (.int v0) rfl rfl rfl rfl rfl rfl rfl ?_
  refine tr_s (.aload_n 2) 1 889 [some (.ref 0), some (.ref 1000), some (.ref 1099), some (.ref 1109), some (.ref 1110), some (.int x5), some (.int v0), w7, w8] [.ref 1099] h1 rfl rfl rfl ?_
  refine tr_s (.aload_n 0) 1 890 [some (.ref 0), some (.ref 1000), some (.ref 1099), some (.ref 1109), some (.ref 1110), some (.int x5), some (.int v0), w7, w8] [.ref 0, .ref 1099] h1 rfl rfl rfl ?_
  refine tr_s (.iload 5) 2 892 [some (.ref 0), some (.ref 1000), some (.ref 1099), some (.ref 1109), some (.ref 1110), some (.int x5), some (.int v0), w7, w8] [.int x5, .ref 0, .ref 1099] h1 rfl rfl rfl ?_
  refine tr_ic 1 1 (by decide) rfl ?_
  refine tr_s .iadd 1 894 [some (.ref 0), some (.ref 1000), some (.ref 1099), some (.ref 1109), some (.ref 1110), some (.int x5), some (.int v0), w7, w8] [.int (x5 + 1), .ref 0, .ref 1099] h1 rfl rfl rfl ?_
  refine tr_ald .iaload 0 0 j1 (x5 + 1) g.1 (Or.inl ⟨rfl, rfl⟩) rfl rfl e1 b1 z1 ?_
  refine tr_call (.invokevirtual 216) 216 0 1 8 m_X9_rayEndByJoining [.ref 1099, .int (g.1.getD j1 0)] [] (some (.int v1)) h2 rfl rfl rfl rfl rfl rfl rfl rfl rfl (tr_cok rfl (Or.inr ⟨_, _, rfl, tr_rc (hh_rd (hh_obj hL0 (k := 99) rfl).1) (by decide)⟩)) c_1 ?_
  have hL1 := c_1.2
  refine tr_st (.istore 7) 2 7 0 (.int v1) rfl rfl rfl rfl rfl rfl rfl ?_
  refine tr_s (.aload_n 2) 1 901 [some (.ref 0), some (.ref 1000), some (.ref 1099), some (.ref 1109), some (.ref 1110), some (.int x5), some (.int v0), some (.int v1), w8] [.ref 1099] h2 rfl rfl rfl ?_
  refine tr_call (.invokevirtual 180) 180 0 0 8 m_X9_thrown [.ref 1099] [] (some (.int v2)) h3 rfl rfl rfl rfl rfl rfl rfl rfl rfl (tr_cok rfl (Or.inr ⟨_, _, rfl, tr_rc (hh_rd (hh_obj hL1 (k := 99) rfl).1) (by decide)⟩)) c_2 ?_
  have hL2 := c_2.2
  refine tr_s (.iload 6) 2 906 [some (.ref 0), some (.ref 1000), some (.ref 1099), some (.ref 1109), some (.ref 1110), some (.int x5), some (.int v0), some (.int v1), w8] [.int v0, .int v2] h3 rfl rfl rfl ?_
  exact tr_if2 .eq 5 911 v2 v0 rfl rfl rfl (fun hc => t ((tr_eq hc).1 rfl)) (fun hc => f ((tr_eq hc).2 rfl))
theorem sg_law_909 {g : tr_g} {d : Nat} {h : ev_AH} {r : ev_O × ev_AH} {w0 w1 w2 w3 w4 w5 w6 w7 w8 : Option Value} (hL : hh_L h) (hr : r = (.inl (some (.int 0)), h)) : tr_L g d m_law 909 [w0, w1, w2, w3, w4, w5, w6, w7, w8] [] h r := by
  refine tr_ic 0 0 (by decide) rfl ?_
  exact tl_ret hL .ireturn 1 (some (.int 0)) rfl rfl rfl rfl hr
theorem sg_law_911 {g : tr_g} {d : Nat} {h : ev_AH} {r : ev_O × ev_AH} {x5 x6 x7 : Int32} {w8 : Option Value} (hL : hh_L h) (t : x6 ≠ 0 → tr_L g d m_law 928 [some (.ref 0), some (.ref 1000), some (.ref 1099), some (.ref 1109), some (.ref 1110), some (.int x5), some (.int x6), some (.int x7), w8] [] h r) (f : x6 = 0 → tr_L g d m_law 916 [some (.ref 0), some (.ref 1000), some (.ref 1099), some (.ref 1109), some (.ref 1110), some (.int x5), some (.int x6), some (.int x7), w8] [] h r) : tr_L g d m_law 911 [some (.ref 0), some (.ref 1000), some (.ref 1099), some (.ref 1109), some (.ref 1110), some (.int x5), some (.int x6), some (.int x7), w8] [] h r := by
  refine tr_s (.iload 6) 2 913 [some (.ref 0), some (.ref 1000), some (.ref 1099), some (.ref 1109), some (.ref 1110), some (.int x5), some (.int x6), some (.int x7), w8] [.int x6] h rfl rfl rfl ?_
  exact tr_if1 .ne 15 928 x6 rfl rfl rfl (fun hc => t ((tr_ne hc).1 rfl)) (fun hc => f ((tr_ne hc).2 rfl))
theorem sg_law_916 {g : tr_g} {d : Nat} {h : ev_AH} {r : ev_O × ev_AH} {x5 x7 : Int32} {w6 w8 : Option Value} {u0 : Int64} (hL : hh_L h) (p0 : (hh_v h 109)[0]? = some (.long u0)) (t : (lg_cmp u0 x7.toInt64) = 0 → tr_L g d m_law 928 [some (.ref 0), some (.ref 1000), some (.ref 1099), some (.ref 1109), some (.ref 1110), some (.int x5), w6, some (.int x7), w8] [] h r) (f : (lg_cmp u0 x7.toInt64) ≠ 0 → tr_L g d m_law 926 [some (.ref 0), some (.ref 1000), some (.ref 1099), some (.ref 1109), some (.ref 1110), some (.int x5), w6, some (.int x7), w8] [] h r) : tr_L g d m_law 916 [some (.ref 0), some (.ref 1000), some (.ref 1099), some (.ref 1109), some (.ref 1110), some (.int x5), w6, some (.int x7), w8] [] h r := by
  refine tr_s (.aload_n 3) 1 917 [some (.ref 0), some (.ref 1000), some (.ref 1099), some (.ref 1109), some (.ref 1110), some (.int x5), w6, some (.int x7), w8] [.ref 1109] h rfl rfl rfl ?_
  refine tr_ic 0 0 (by decide) rfl ?_
  refine tr_lald 1109 u0 _ rfl (by decide) (hh_rd (hh_obj hL (k := 109) rfl).1) (hh_obj hL (k := 109) rfl).2 p0 ?_
  refine tr_s (.iload 7) 2 921 [some (.ref 0), some (.ref 1000), some (.ref 1099), some (.ref 1109), some (.ref 1110), some (.int x5), w6, some (.int x7), w8] [.int x7, .long u0] h rfl rfl rfl ?_
  refine tr_s .i2l 1 922 [some (.ref 0), some (.ref 1000), some (.ref 1099), some (.ref 1109), some (.ref 1110), some (.int x5), w6, some (.int x7), w8] [.long x7.toInt64, .long u0] h rfl rfl rfl ?_
  refine tr_s .lcmp 1 923 [some (.ref 0), some (.ref 1000), some (.ref 1099), some (.ref 1109), some (.ref 1110), some (.int x5), w6, some (.int x7), w8] [.int (lg_cmp u0 x7.toInt64)] h rfl rfl rfl ?_
  exact tr_if1 .eq 5 928 (lg_cmp u0 x7.toInt64) rfl rfl rfl (fun hc => t ((tr_eq hc).1 rfl)) (fun hc => f ((tr_eq hc).2 rfl))
theorem sg_law_926 {g : tr_g} {d : Nat} {h : ev_AH} {r : ev_O × ev_AH} {w0 w1 w2 w3 w4 w5 w6 w7 w8 : Option Value} (hL : hh_L h) (hr : r = (.inl (some (.int 0)), h)) : tr_L g d m_law 926 [w0, w1, w2, w3, w4, w5, w6, w7, w8] [] h r := by
  refine tr_ic 0 0 (by decide) rfl ?_
  exact tl_ret hL .ireturn 1 (some (.int 0)) rfl rfl rfl rfl hr
theorem sg_law_928 {g : tr_g} {d : Nat} {h : ev_AH} {r : ev_O × ev_AH} {x5 : Int32} {w6 w7 w8 : Option Value} (hL : hh_L h) (k : tr_L g d m_law 28 [some (.ref 0), some (.ref 1000), some (.ref 1099), some (.ref 1109), some (.ref 1110), some (.int (x5 + 5)), w6, w7, w8] [] h r) : tr_L g d m_law 928 [some (.ref 0), some (.ref 1000), some (.ref 1099), some (.ref 1109), some (.ref 1110), some (.int x5), w6, w7, w8] [] h r := by
  refine tr_goto 2033 2961 rfl rfl rfl ?_
  refine tr_inc 5 5 x5 5 (by decide) rfl rfl rfl ?_
  refine tr_goto (-2936) 28 rfl rfl rfl ?_
  exact k
theorem sg_law_931 {g : tr_g} {d : Nat} {h : ev_AH} {r : ev_O × ev_AH} {x5 v0 v1 v2 : Int32} {w6 w7 w8 : Option Value} {j0 j1 : Nat} {h1 h2 h3 : ev_AH} (hL : hh_L h) (e0 : x5 + 1 = Int32.ofNat j0) (b0 : j0 < g.1.length) (z0 : g.1.length < 2147483648) (c_0 : tr_L g d m_L_rayCat 0 [some (.ref 1000), some (.int (g.1.getD j0 0)), some (.ref 1109), none] [] h (.inl (some (.int v0)), h1)) (e1 : x5 + 1 = Int32.ofNat j1) (b1 : j1 < g.1.length) (z1 : g.1.length < 2147483648) (c_1 : tr_L g d m_X9_rayCat 0 [some (.ref 1099), some (.int (g.1.getD j1 0))] [] h1 (.inl (some (.int v1)), h2)) (c_2 : tr_L g d m_X9_thrown 0 [some (.ref 1099)] [] h2 (.inl (some (.int v2)), h3)) (t : v2 = v0 → tr_L g (d + 1) m_law 967 [some (.ref 0), some (.ref 1000), some (.ref 1099), some (.ref 1109), some (.ref 1110), some (.int x5), some (.int v0), some (.int v1), w8] [] h3 r) (f : v2 ≠ v0 → tr_L g (d + 1) m_law 965 [some (.ref 0), some (.ref 1000), some (.ref 1099), some (.ref 1109), some (.ref 1110), some (.int x5), some (.int v0), some (.int v1), w8] [] h3 r) : tr_L g (d + 1) m_law 931 [some (.ref 0), some (.ref 1000), some (.ref 1099), some (.ref 1109), some (.ref 1110), some (.int x5), w6, w7, w8] [] h r := by
  refine tr_s (.aload_n 1) 1 932 [some (.ref 0), some (.ref 1000), some (.ref 1099), some (.ref 1109), some (.ref 1110), some (.int x5), w6, w7, w8] [.ref 1000] h rfl rfl rfl ?_
  refine tr_s (.aload_n 0) 1 933 [some (.ref 0), some (.ref 1000), some (.ref 1099), some (.ref 1109), some (.ref 1110), some (.int x5), w6, w7, w8] [.ref 0, .ref 1000] h rfl rfl rfl ?_
  refine tr_s (.iload 5) 2 935 [some (.ref 0), some (.ref 1000), some (.ref 1099), some (.ref 1109), some (.ref 1110), some (.int x5), w6, w7, w8] [.int x5, .ref 0, .ref 1000] h rfl rfl rfl ?_
  refine tr_ic 1 1 (by decide) rfl ?_
  refine tr_s .iadd 1 937 [some (.ref 0), some (.ref 1000), some (.ref 1099), some (.ref 1109), some (.ref 1110), some (.int x5), w6, w7, w8] [.int (x5 + 1), .ref 0, .ref 1000] h rfl rfl rfl ?_
  refine tr_ald .iaload 0 0 j0 (x5 + 1) g.1 (Or.inl ⟨rfl, rfl⟩) rfl rfl e0 b0 z0 ?_
  refine tr_s (.aload_n 3) 1 939 [some (.ref 0), some (.ref 1000), some (.ref 1099), some (.ref 1109), some (.ref 1110), some (.int x5), w6, w7, w8] [.ref 1109, .int (g.1.getD j0 0), .ref 1000] h rfl rfl rfl ?_
  refine tr_call (.invokestatic 217) 217 8 3 0 m_L_rayCat [.ref 1000, .int (g.1.getD j0 0), .ref 1109] [] (some (.int v0)) h1 rfl rfl rfl rfl rfl rfl rfl rfl rfl (tr_cok rfl (Or.inl rfl)) c_0 ?_
  have hL0 := c_0.2
  refine tr_st (.istore 6) 2 6 0 (.int v0) rfl rfl rfl rfl rfl rfl rfl ?_
  refine tr_s (.aload_n 2) 1 945 [some (.ref 0), some (.ref 1000), some (.ref 1099), some (.ref 1109), some (.ref 1110), some (.int x5), some (.int v0), w7, w8] [.ref 1099] h1 rfl rfl rfl ?_
  refine tr_s (.aload_n 0) 1 946 [some (.ref 0), some (.ref 1000), some (.ref 1099), some (.ref 1109), some (.ref 1110), some (.int x5), some (.int v0), w7, w8] [.ref 0, .ref 1099] h1 rfl rfl rfl ?_
  refine tr_s (.iload 5) 2 948 [some (.ref 0), some (.ref 1000), some (.ref 1099), some (.ref 1109), some (.ref 1110), some (.int x5), some (.int v0), w7, w8] [.int x5, .ref 0, .ref 1099] h1 rfl rfl rfl ?_
  refine tr_ic 1 1 (by decide) rfl ?_
  refine tr_s .iadd 1 950 [some (.ref 0), some (.ref 1000), some (.ref 1099), some (.ref 1109), some (.ref 1110), some (.int x5), some (.int v0), w7, w8] [.int (x5 + 1), .ref 0, .ref 1099] h1 rfl rfl rfl ?_
  refine tr_ald .iaload 0 0 j1 (x5 + 1) g.1 (Or.inl ⟨rfl, rfl⟩) rfl rfl e1 b1 z1 ?_
  refine tr_call (.invokevirtual 219) 219 0 1 8 m_X9_rayCat [.ref 1099, .int (g.1.getD j1 0)] [] (some (.int v1)) h2 rfl rfl rfl rfl rfl rfl rfl rfl rfl (tr_cok rfl (Or.inr ⟨_, _, rfl, tr_rc (hh_rd (hh_obj hL0 (k := 99) rfl).1) (by decide)⟩)) c_1 ?_
  have hL1 := c_1.2
  refine tr_st (.istore 7) 2 7 0 (.int v1) rfl rfl rfl rfl rfl rfl rfl ?_
  refine tr_s (.aload_n 2) 1 957 [some (.ref 0), some (.ref 1000), some (.ref 1099), some (.ref 1109), some (.ref 1110), some (.int x5), some (.int v0), some (.int v1), w8] [.ref 1099] h2 rfl rfl rfl ?_
  refine tr_call (.invokevirtual 180) 180 0 0 8 m_X9_thrown [.ref 1099] [] (some (.int v2)) h3 rfl rfl rfl rfl rfl rfl rfl rfl rfl (tr_cok rfl (Or.inr ⟨_, _, rfl, tr_rc (hh_rd (hh_obj hL1 (k := 99) rfl).1) (by decide)⟩)) c_2 ?_
  have hL2 := c_2.2
  refine tr_s (.iload 6) 2 962 [some (.ref 0), some (.ref 1000), some (.ref 1099), some (.ref 1109), some (.ref 1110), some (.int x5), some (.int v0), some (.int v1), w8] [.int v0, .int v2] h3 rfl rfl rfl ?_
  exact tr_if2 .eq 5 967 v2 v0 rfl rfl rfl (fun hc => t ((tr_eq hc).1 rfl)) (fun hc => f ((tr_eq hc).2 rfl))
theorem sg_law_965 {g : tr_g} {d : Nat} {h : ev_AH} {r : ev_O × ev_AH} {w0 w1 w2 w3 w4 w5 w6 w7 w8 : Option Value} (hL : hh_L h) (hr : r = (.inl (some (.int 0)), h)) : tr_L g d m_law 965 [w0, w1, w2, w3, w4, w5, w6, w7, w8] [] h r := by
  refine tr_ic 0 0 (by decide) rfl ?_
  exact tl_ret hL .ireturn 1 (some (.int 0)) rfl rfl rfl rfl hr
theorem sg_law_967 {g : tr_g} {d : Nat} {h : ev_AH} {r : ev_O × ev_AH} {x5 x6 x7 : Int32} {w8 : Option Value} (hL : hh_L h) (t : x6 ≠ 0 → tr_L g d m_law 984 [some (.ref 0), some (.ref 1000), some (.ref 1099), some (.ref 1109), some (.ref 1110), some (.int x5), some (.int x6), some (.int x7), w8] [] h r) (f : x6 = 0 → tr_L g d m_law 972 [some (.ref 0), some (.ref 1000), some (.ref 1099), some (.ref 1109), some (.ref 1110), some (.int x5), some (.int x6), some (.int x7), w8] [] h r) : tr_L g d m_law 967 [some (.ref 0), some (.ref 1000), some (.ref 1099), some (.ref 1109), some (.ref 1110), some (.int x5), some (.int x6), some (.int x7), w8] [] h r := by
  refine tr_s (.iload 6) 2 969 [some (.ref 0), some (.ref 1000), some (.ref 1099), some (.ref 1109), some (.ref 1110), some (.int x5), some (.int x6), some (.int x7), w8] [.int x6] h rfl rfl rfl ?_
  exact tr_if1 .ne 15 984 x6 rfl rfl rfl (fun hc => t ((tr_ne hc).1 rfl)) (fun hc => f ((tr_ne hc).2 rfl))
theorem sg_law_972 {g : tr_g} {d : Nat} {h : ev_AH} {r : ev_O × ev_AH} {x5 x7 : Int32} {w6 w8 : Option Value} {u0 : Int64} (hL : hh_L h) (p0 : (hh_v h 109)[0]? = some (.long u0)) (t : (lg_cmp u0 x7.toInt64) = 0 → tr_L g d m_law 984 [some (.ref 0), some (.ref 1000), some (.ref 1099), some (.ref 1109), some (.ref 1110), some (.int x5), w6, some (.int x7), w8] [] h r) (f : (lg_cmp u0 x7.toInt64) ≠ 0 → tr_L g d m_law 982 [some (.ref 0), some (.ref 1000), some (.ref 1099), some (.ref 1109), some (.ref 1110), some (.int x5), w6, some (.int x7), w8] [] h r) : tr_L g d m_law 972 [some (.ref 0), some (.ref 1000), some (.ref 1099), some (.ref 1109), some (.ref 1110), some (.int x5), w6, some (.int x7), w8] [] h r := by
  refine tr_s (.aload_n 3) 1 973 [some (.ref 0), some (.ref 1000), some (.ref 1099), some (.ref 1109), some (.ref 1110), some (.int x5), w6, some (.int x7), w8] [.ref 1109] h rfl rfl rfl ?_
  refine tr_ic 0 0 (by decide) rfl ?_
  refine tr_lald 1109 u0 _ rfl (by decide) (hh_rd (hh_obj hL (k := 109) rfl).1) (hh_obj hL (k := 109) rfl).2 p0 ?_
  refine tr_s (.iload 7) 2 977 [some (.ref 0), some (.ref 1000), some (.ref 1099), some (.ref 1109), some (.ref 1110), some (.int x5), w6, some (.int x7), w8] [.int x7, .long u0] h rfl rfl rfl ?_
  refine tr_s .i2l 1 978 [some (.ref 0), some (.ref 1000), some (.ref 1099), some (.ref 1109), some (.ref 1110), some (.int x5), w6, some (.int x7), w8] [.long x7.toInt64, .long u0] h rfl rfl rfl ?_
  refine tr_s .lcmp 1 979 [some (.ref 0), some (.ref 1000), some (.ref 1099), some (.ref 1109), some (.ref 1110), some (.int x5), w6, some (.int x7), w8] [.int (lg_cmp u0 x7.toInt64)] h rfl rfl rfl ?_
  exact tr_if1 .eq 5 984 (lg_cmp u0 x7.toInt64) rfl rfl rfl (fun hc => t ((tr_eq hc).1 rfl)) (fun hc => f ((tr_eq hc).2 rfl))
theorem sg_law_982 {g : tr_g} {d : Nat} {h : ev_AH} {r : ev_O × ev_AH} {w0 w1 w2 w3 w4 w5 w6 w7 w8 : Option Value} (hL : hh_L h) (hr : r = (.inl (some (.int 0)), h)) : tr_L g d m_law 982 [w0, w1, w2, w3, w4, w5, w6, w7, w8] [] h r := by
  refine tr_ic 0 0 (by decide) rfl ?_
  exact tl_ret hL .ireturn 1 (some (.int 0)) rfl rfl rfl rfl hr
theorem sg_law_984 {g : tr_g} {d : Nat} {h : ev_AH} {r : ev_O × ev_AH} {x5 : Int32} {w6 w7 w8 : Option Value} (hL : hh_L h) (k : tr_L g d m_law 28 [some (.ref 0), some (.ref 1000), some (.ref 1099), some (.ref 1109), some (.ref 1110), some (.int (x5 + 5)), w6, w7, w8] [] h r) : tr_L g d m_law 984 [some (.ref 0), some (.ref 1000), some (.ref 1099), some (.ref 1109), some (.ref 1110), some (.int x5), w6, w7, w8] [] h r := by
  refine tr_goto 1977 2961 rfl rfl rfl ?_
  refine tr_inc 5 5 x5 5 (by decide) rfl rfl rfl ?_
  refine tr_goto (-2936) 28 rfl rfl rfl ?_
  exact k
theorem sg_law_987 {g : tr_g} {d : Nat} {h : ev_AH} {r : ev_O × ev_AH} {x5 v0 v1 v2 : Int32} {w6 w7 w8 : Option Value} {j0 j1 : Nat} {h1 h2 h3 : ev_AH} (hL : hh_L h) (e0 : x5 + 1 = Int32.ofNat j0) (b0 : j0 < g.1.length) (z0 : g.1.length < 2147483648) (c_0 : tr_L g d m_L_rayLength 0 [some (.ref 1000), some (.int (g.1.getD j0 0)), some (.ref 1109), none] [] h (.inl (some (.int v0)), h1)) (e1 : x5 + 1 = Int32.ofNat j1) (b1 : j1 < g.1.length) (z1 : g.1.length < 2147483648) (c_1 : tr_L g d m_X9_rayLength 0 [some (.ref 1099), some (.int (g.1.getD j1 0))] [] h1 (.inl (some (.int v1)), h2)) (c_2 : tr_L g d m_X9_thrown 0 [some (.ref 1099)] [] h2 (.inl (some (.int v2)), h3)) (t : v2 = v0 → tr_L g (d + 1) m_law 1023 [some (.ref 0), some (.ref 1000), some (.ref 1099), some (.ref 1109), some (.ref 1110), some (.int x5), some (.int v0), some (.int v1), w8] [] h3 r) (f : v2 ≠ v0 → tr_L g (d + 1) m_law 1021 [some (.ref 0), some (.ref 1000), some (.ref 1099), some (.ref 1109), some (.ref 1110), some (.int x5), some (.int v0), some (.int v1), w8] [] h3 r) : tr_L g (d + 1) m_law 987 [some (.ref 0), some (.ref 1000), some (.ref 1099), some (.ref 1109), some (.ref 1110), some (.int x5), w6, w7, w8] [] h r := by
  refine tr_s (.aload_n 1) 1 988 [some (.ref 0), some (.ref 1000), some (.ref 1099), some (.ref 1109), some (.ref 1110), some (.int x5), w6, w7, w8] [.ref 1000] h rfl rfl rfl ?_
  refine tr_s (.aload_n 0) 1 989 [some (.ref 0), some (.ref 1000), some (.ref 1099), some (.ref 1109), some (.ref 1110), some (.int x5), w6, w7, w8] [.ref 0, .ref 1000] h rfl rfl rfl ?_
  refine tr_s (.iload 5) 2 991 [some (.ref 0), some (.ref 1000), some (.ref 1099), some (.ref 1109), some (.ref 1110), some (.int x5), w6, w7, w8] [.int x5, .ref 0, .ref 1000] h rfl rfl rfl ?_
  refine tr_ic 1 1 (by decide) rfl ?_
  refine tr_s .iadd 1 993 [some (.ref 0), some (.ref 1000), some (.ref 1099), some (.ref 1109), some (.ref 1110), some (.int x5), w6, w7, w8] [.int (x5 + 1), .ref 0, .ref 1000] h rfl rfl rfl ?_
  refine tr_ald .iaload 0 0 j0 (x5 + 1) g.1 (Or.inl ⟨rfl, rfl⟩) rfl rfl e0 b0 z0 ?_
  refine tr_s (.aload_n 3) 1 995 [some (.ref 0), some (.ref 1000), some (.ref 1099), some (.ref 1109), some (.ref 1110), some (.int x5), w6, w7, w8] [.ref 1109, .int (g.1.getD j0 0), .ref 1000] h rfl rfl rfl ?_
  refine tr_call (.invokestatic 220) 220 8 3 0 m_L_rayLength [.ref 1000, .int (g.1.getD j0 0), .ref 1109] [] (some (.int v0)) h1 rfl rfl rfl rfl rfl rfl rfl rfl rfl (tr_cok rfl (Or.inl rfl)) c_0 ?_
  have hL0 := c_0.2
  refine tr_st (.istore 6) 2 6 0 (.int v0) rfl rfl rfl rfl rfl rfl rfl ?_
  refine tr_s (.aload_n 2) 1 1001 [some (.ref 0), some (.ref 1000), some (.ref 1099), some (.ref 1109), some (.ref 1110), some (.int x5), some (.int v0), w7, w8] [.ref 1099] h1 rfl rfl rfl ?_
  refine tr_s (.aload_n 0) 1 1002 [some (.ref 0), some (.ref 1000), some (.ref 1099), some (.ref 1109), some (.ref 1110), some (.int x5), some (.int v0), w7, w8] [.ref 0, .ref 1099] h1 rfl rfl rfl ?_
  refine tr_s (.iload 5) 2 1004 [some (.ref 0), some (.ref 1000), some (.ref 1099), some (.ref 1109), some (.ref 1110), some (.int x5), some (.int v0), w7, w8] [.int x5, .ref 0, .ref 1099] h1 rfl rfl rfl ?_
  refine tr_ic 1 1 (by decide) rfl ?_
  refine tr_s .iadd 1 1006 [some (.ref 0), some (.ref 1000), some (.ref 1099), some (.ref 1109), some (.ref 1110), some (.int x5), some (.int v0), w7, w8] [.int (x5 + 1), .ref 0, .ref 1099] h1 rfl rfl rfl ?_
  refine tr_ald .iaload 0 0 j1 (x5 + 1) g.1 (Or.inl ⟨rfl, rfl⟩) rfl rfl e1 b1 z1 ?_
  refine tr_call (.invokevirtual 222) 222 0 1 8 m_X9_rayLength [.ref 1099, .int (g.1.getD j1 0)] [] (some (.int v1)) h2 rfl rfl rfl rfl rfl rfl rfl rfl rfl (tr_cok rfl (Or.inr ⟨_, _, rfl, tr_rc (hh_rd (hh_obj hL0 (k := 99) rfl).1) (by decide)⟩)) c_1 ?_
  have hL1 := c_1.2
  refine tr_st (.istore 7) 2 7 0 (.int v1) rfl rfl rfl rfl rfl rfl rfl ?_
  refine tr_s (.aload_n 2) 1 1013 [some (.ref 0), some (.ref 1000), some (.ref 1099), some (.ref 1109), some (.ref 1110), some (.int x5), some (.int v0), some (.int v1), w8] [.ref 1099] h2 rfl rfl rfl ?_
  refine tr_call (.invokevirtual 180) 180 0 0 8 m_X9_thrown [.ref 1099] [] (some (.int v2)) h3 rfl rfl rfl rfl rfl rfl rfl rfl rfl (tr_cok rfl (Or.inr ⟨_, _, rfl, tr_rc (hh_rd (hh_obj hL1 (k := 99) rfl).1) (by decide)⟩)) c_2 ?_
  have hL2 := c_2.2
  refine tr_s (.iload 6) 2 1018 [some (.ref 0), some (.ref 1000), some (.ref 1099), some (.ref 1109), some (.ref 1110), some (.int x5), some (.int v0), some (.int v1), w8] [.int v0, .int v2] h3 rfl rfl rfl ?_
  exact tr_if2 .eq 5 1023 v2 v0 rfl rfl rfl (fun hc => t ((tr_eq hc).1 rfl)) (fun hc => f ((tr_eq hc).2 rfl))
theorem sg_law_1021 {g : tr_g} {d : Nat} {h : ev_AH} {r : ev_O × ev_AH} {w0 w1 w2 w3 w4 w5 w6 w7 w8 : Option Value} (hL : hh_L h) (hr : r = (.inl (some (.int 0)), h)) : tr_L g d m_law 1021 [w0, w1, w2, w3, w4, w5, w6, w7, w8] [] h r := by
  refine tr_ic 0 0 (by decide) rfl ?_
  exact tl_ret hL .ireturn 1 (some (.int 0)) rfl rfl rfl rfl hr
theorem sg_law_1023 {g : tr_g} {d : Nat} {h : ev_AH} {r : ev_O × ev_AH} {x5 x6 x7 : Int32} {w8 : Option Value} (hL : hh_L h) (t : x6 ≠ 0 → tr_L g d m_law 1040 [some (.ref 0), some (.ref 1000), some (.ref 1099), some (.ref 1109), some (.ref 1110), some (.int x5), some (.int x6), some (.int x7), w8] [] h r) (f : x6 = 0 → tr_L g d m_law 1028 [some (.ref 0), some (.ref 1000), some (.ref 1099), some (.ref 1109), some (.ref 1110), some (.int x5), some (.int x6), some (.int x7), w8] [] h r) : tr_L g d m_law 1023 [some (.ref 0), some (.ref 1000), some (.ref 1099), some (.ref 1109), some (.ref 1110), some (.int x5), some (.int x6), some (.int x7), w8] [] h r := by
  refine tr_s (.iload 6) 2 1025 [some (.ref 0), some (.ref 1000), some (.ref 1099), some (.ref 1109), some (.ref 1110), some (.int x5), some (.int x6), some (.int x7), w8] [.int x6] h rfl rfl rfl ?_
  exact tr_if1 .ne 15 1040 x6 rfl rfl rfl (fun hc => t ((tr_ne hc).1 rfl)) (fun hc => f ((tr_ne hc).2 rfl))
theorem sg_law_1028 {g : tr_g} {d : Nat} {h : ev_AH} {r : ev_O × ev_AH} {x5 x7 : Int32} {w6 w8 : Option Value} {u0 : Int64} (hL : hh_L h) (p0 : (hh_v h 109)[0]? = some (.long u0)) (t : (lg_cmp u0 x7.toInt64) = 0 → tr_L g d m_law 1040 [some (.ref 0), some (.ref 1000), some (.ref 1099), some (.ref 1109), some (.ref 1110), some (.int x5), w6, some (.int x7), w8] [] h r) (f : (lg_cmp u0 x7.toInt64) ≠ 0 → tr_L g d m_law 1038 [some (.ref 0), some (.ref 1000), some (.ref 1099), some (.ref 1109), some (.ref 1110), some (.int x5), w6, some (.int x7), w8] [] h r) : tr_L g d m_law 1028 [some (.ref 0), some (.ref 1000), some (.ref 1099), some (.ref 1109), some (.ref 1110), some (.int x5), w6, some (.int x7), w8] [] h r := by
  refine tr_s (.aload_n 3) 1 1029 [some (.ref 0), some (.ref 1000), some (.ref 1099), some (.ref 1109), some (.ref 1110), some (.int x5), w6, some (.int x7), w8] [.ref 1109] h rfl rfl rfl ?_
  refine tr_ic 0 0 (by decide) rfl ?_
  refine tr_lald 1109 u0 _ rfl (by decide) (hh_rd (hh_obj hL (k := 109) rfl).1) (hh_obj hL (k := 109) rfl).2 p0 ?_
  refine tr_s (.iload 7) 2 1033 [some (.ref 0), some (.ref 1000), some (.ref 1099), some (.ref 1109), some (.ref 1110), some (.int x5), w6, some (.int x7), w8] [.int x7, .long u0] h rfl rfl rfl ?_
  refine tr_s .i2l 1 1034 [some (.ref 0), some (.ref 1000), some (.ref 1099), some (.ref 1109), some (.ref 1110), some (.int x5), w6, some (.int x7), w8] [.long x7.toInt64, .long u0] h rfl rfl rfl ?_
  refine tr_s .lcmp 1 1035 [some (.ref 0), some (.ref 1000), some (.ref 1099), some (.ref 1109), some (.ref 1110), some (.int x5), w6, some (.int x7), w8] [.int (lg_cmp u0 x7.toInt64)] h rfl rfl rfl ?_
  exact tr_if1 .eq 5 1040 (lg_cmp u0 x7.toInt64) rfl rfl rfl (fun hc => t ((tr_eq hc).1 rfl)) (fun hc => f ((tr_eq hc).2 rfl))
theorem sg_law_1038 {g : tr_g} {d : Nat} {h : ev_AH} {r : ev_O × ev_AH} {w0 w1 w2 w3 w4 w5 w6 w7 w8 : Option Value} (hL : hh_L h) (hr : r = (.inl (some (.int 0)), h)) : tr_L g d m_law 1038 [w0, w1, w2, w3, w4, w5, w6, w7, w8] [] h r := by
  refine tr_ic 0 0 (by decide) rfl ?_
  exact tl_ret hL .ireturn 1 (some (.int 0)) rfl rfl rfl rfl hr
theorem sg_law_1040 {g : tr_g} {d : Nat} {h : ev_AH} {r : ev_O × ev_AH} {x5 : Int32} {w6 w7 w8 : Option Value} (hL : hh_L h) (k : tr_L g d m_law 28 [some (.ref 0), some (.ref 1000), some (.ref 1099), some (.ref 1109), some (.ref 1110), some (.int (x5 + 5)), w6, w7, w8] [] h r) : tr_L g d m_law 1040 [some (.ref 0), some (.ref 1000), some (.ref 1099), some (.ref 1109), some (.ref 1110), some (.int x5), w6, w7, w8] [] h r := by
  refine tr_goto 1921 2961 rfl rfl rfl ?_
  refine tr_inc 5 5 x5 5 (by decide) rfl rfl rfl ?_
  refine tr_goto (-2936) 28 rfl rfl rfl ?_
  exact k
theorem sg_law_1043 {g : tr_g} {d : Nat} {h : ev_AH} {r : ev_O × ev_AH} {x5 v0 v1 v2 : Int32} {w6 w7 w8 : Option Value} {j0 j1 : Nat} {h1 h2 h3 : ev_AH} (hL : hh_L h) (e0 : x5 + 1 = Int32.ofNat j0) (b0 : j0 < g.1.length) (z0 : g.1.length < 2147483648) (c_0 : tr_L g d m_L_rayBounces 0 [some (.ref 1000), some (.int (g.1.getD j0 0)), some (.ref 1109), none] [] h (.inl (some (.int v0)), h1)) (e1 : x5 + 1 = Int32.ofNat j1) (b1 : j1 < g.1.length) (z1 : g.1.length < 2147483648) (c_1 : tr_L g d m_X9_rayBounces 0 [some (.ref 1099), some (.int (g.1.getD j1 0))] [] h1 (.inl (some (.int v1)), h2)) (c_2 : tr_L g d m_X9_thrown 0 [some (.ref 1099)] [] h2 (.inl (some (.int v2)), h3)) (t : v2 = v0 → tr_L g (d + 1) m_law 1079 [some (.ref 0), some (.ref 1000), some (.ref 1099), some (.ref 1109), some (.ref 1110), some (.int x5), some (.int v0), some (.int v1), w8] [] h3 r) (f : v2 ≠ v0 → tr_L g (d + 1) m_law 1077 [some (.ref 0), some (.ref 1000), some (.ref 1099), some (.ref 1109), some (.ref 1110), some (.int x5), some (.int v0), some (.int v1), w8] [] h3 r) : tr_L g (d + 1) m_law 1043 [some (.ref 0), some (.ref 1000), some (.ref 1099), some (.ref 1109), some (.ref 1110), some (.int x5), w6, w7, w8] [] h r := by
  refine tr_s (.aload_n 1) 1 1044 [some (.ref 0), some (.ref 1000), some (.ref 1099), some (.ref 1109), some (.ref 1110), some (.int x5), w6, w7, w8] [.ref 1000] h rfl rfl rfl ?_
  refine tr_s (.aload_n 0) 1 1045 [some (.ref 0), some (.ref 1000), some (.ref 1099), some (.ref 1109), some (.ref 1110), some (.int x5), w6, w7, w8] [.ref 0, .ref 1000] h rfl rfl rfl ?_
  refine tr_s (.iload 5) 2 1047 [some (.ref 0), some (.ref 1000), some (.ref 1099), some (.ref 1109), some (.ref 1110), some (.int x5), w6, w7, w8] [.int x5, .ref 0, .ref 1000] h rfl rfl rfl ?_
  refine tr_ic 1 1 (by decide) rfl ?_
  refine tr_s .iadd 1 1049 [some (.ref 0), some (.ref 1000), some (.ref 1099), some (.ref 1109), some (.ref 1110), some (.int x5), w6, w7, w8] [.int (x5 + 1), .ref 0, .ref 1000] h rfl rfl rfl ?_
  refine tr_ald .iaload 0 0 j0 (x5 + 1) g.1 (Or.inl ⟨rfl, rfl⟩) rfl rfl e0 b0 z0 ?_
  refine tr_s (.aload_n 3) 1 1051 [some (.ref 0), some (.ref 1000), some (.ref 1099), some (.ref 1109), some (.ref 1110), some (.int x5), w6, w7, w8] [.ref 1109, .int (g.1.getD j0 0), .ref 1000] h rfl rfl rfl ?_
  refine tr_call (.invokestatic 223) 223 8 3 0 m_L_rayBounces [.ref 1000, .int (g.1.getD j0 0), .ref 1109] [] (some (.int v0)) h1 rfl rfl rfl rfl rfl rfl rfl rfl rfl (tr_cok rfl (Or.inl rfl)) c_0 ?_
  have hL0 := c_0.2
  refine tr_st (.istore 6) 2 6 0 (.int v0) rfl rfl rfl rfl rfl rfl rfl ?_
  refine tr_s (.aload_n 2) 1 1057 [some (.ref 0), some (.ref 1000), some (.ref 1099), some (.ref 1109), some (.ref 1110), some (.int x5), some (.int v0), w7, w8] [.ref 1099] h1 rfl rfl rfl ?_
  refine tr_s (.aload_n 0) 1 1058 [some (.ref 0), some (.ref 1000), some (.ref 1099), some (.ref 1109), some (.ref 1110), some (.int x5), some (.int v0), w7, w8] [.ref 0, .ref 1099] h1 rfl rfl rfl ?_
  refine tr_s (.iload 5) 2 1060 [some (.ref 0), some (.ref 1000), some (.ref 1099), some (.ref 1109), some (.ref 1110), some (.int x5), some (.int v0), w7, w8] [.int x5, .ref 0, .ref 1099] h1 rfl rfl rfl ?_
  refine tr_ic 1 1 (by decide) rfl ?_
  refine tr_s .iadd 1 1062 [some (.ref 0), some (.ref 1000), some (.ref 1099), some (.ref 1109), some (.ref 1110), some (.int x5), some (.int v0), w7, w8] [.int (x5 + 1), .ref 0, .ref 1099] h1 rfl rfl rfl ?_
  refine tr_ald .iaload 0 0 j1 (x5 + 1) g.1 (Or.inl ⟨rfl, rfl⟩) rfl rfl e1 b1 z1 ?_
  refine tr_call (.invokevirtual 225) 225 0 1 8 m_X9_rayBounces [.ref 1099, .int (g.1.getD j1 0)] [] (some (.int v1)) h2 rfl rfl rfl rfl rfl rfl rfl rfl rfl (tr_cok rfl (Or.inr ⟨_, _, rfl, tr_rc (hh_rd (hh_obj hL0 (k := 99) rfl).1) (by decide)⟩)) c_1 ?_
  have hL1 := c_1.2
  refine tr_st (.istore 7) 2 7 0 (.int v1) rfl rfl rfl rfl rfl rfl rfl ?_
  refine tr_s (.aload_n 2) 1 1069 [some (.ref 0), some (.ref 1000), some (.ref 1099), some (.ref 1109), some (.ref 1110), some (.int x5), some (.int v0), some (.int v1), w8] [.ref 1099] h2 rfl rfl rfl ?_
  refine tr_call (.invokevirtual 180) 180 0 0 8 m_X9_thrown [.ref 1099] [] (some (.int v2)) h3 rfl rfl rfl rfl rfl rfl rfl rfl rfl (tr_cok rfl (Or.inr ⟨_, _, rfl, tr_rc (hh_rd (hh_obj hL1 (k := 99) rfl).1) (by decide)⟩)) c_2 ?_
  have hL2 := c_2.2
  refine tr_s (.iload 6) 2 1074 [some (.ref 0), some (.ref 1000), some (.ref 1099), some (.ref 1109), some (.ref 1110), some (.int x5), some (.int v0), some (.int v1), w8] [.int v0, .int v2] h3 rfl rfl rfl ?_
  exact tr_if2 .eq 5 1079 v2 v0 rfl rfl rfl (fun hc => t ((tr_eq hc).1 rfl)) (fun hc => f ((tr_eq hc).2 rfl))
theorem sg_law_1077 {g : tr_g} {d : Nat} {h : ev_AH} {r : ev_O × ev_AH} {w0 w1 w2 w3 w4 w5 w6 w7 w8 : Option Value} (hL : hh_L h) (hr : r = (.inl (some (.int 0)), h)) : tr_L g d m_law 1077 [w0, w1, w2, w3, w4, w5, w6, w7, w8] [] h r := by
  refine tr_ic 0 0 (by decide) rfl ?_
  exact tl_ret hL .ireturn 1 (some (.int 0)) rfl rfl rfl rfl hr
theorem sg_law_1079 {g : tr_g} {d : Nat} {h : ev_AH} {r : ev_O × ev_AH} {x5 x6 x7 : Int32} {w8 : Option Value} (hL : hh_L h) (t : x6 ≠ 0 → tr_L g d m_law 1096 [some (.ref 0), some (.ref 1000), some (.ref 1099), some (.ref 1109), some (.ref 1110), some (.int x5), some (.int x6), some (.int x7), w8] [] h r) (f : x6 = 0 → tr_L g d m_law 1084 [some (.ref 0), some (.ref 1000), some (.ref 1099), some (.ref 1109), some (.ref 1110), some (.int x5), some (.int x6), some (.int x7), w8] [] h r) : tr_L g d m_law 1079 [some (.ref 0), some (.ref 1000), some (.ref 1099), some (.ref 1109), some (.ref 1110), some (.int x5), some (.int x6), some (.int x7), w8] [] h r := by
  refine tr_s (.iload 6) 2 1081 [some (.ref 0), some (.ref 1000), some (.ref 1099), some (.ref 1109), some (.ref 1110), some (.int x5), some (.int x6), some (.int x7), w8] [.int x6] h rfl rfl rfl ?_
  exact tr_if1 .ne 15 1096 x6 rfl rfl rfl (fun hc => t ((tr_ne hc).1 rfl)) (fun hc => f ((tr_ne hc).2 rfl))
theorem sg_law_1084 {g : tr_g} {d : Nat} {h : ev_AH} {r : ev_O × ev_AH} {x5 x7 : Int32} {w6 w8 : Option Value} {u0 : Int64} (hL : hh_L h) (p0 : (hh_v h 109)[0]? = some (.long u0)) (t : (lg_cmp u0 x7.toInt64) = 0 → tr_L g d m_law 1096 [some (.ref 0), some (.ref 1000), some (.ref 1099), some (.ref 1109), some (.ref 1110), some (.int x5), w6, some (.int x7), w8] [] h r) (f : (lg_cmp u0 x7.toInt64) ≠ 0 → tr_L g d m_law 1094 [some (.ref 0), some (.ref 1000), some (.ref 1099), some (.ref 1109), some (.ref 1110), some (.int x5), w6, some (.int x7), w8] [] h r) : tr_L g d m_law 1084 [some (.ref 0), some (.ref 1000), some (.ref 1099), some (.ref 1109), some (.ref 1110), some (.int x5), w6, some (.int x7), w8] [] h r := by
  refine tr_s (.aload_n 3) 1 1085 [some (.ref 0), some (.ref 1000), some (.ref 1099), some (.ref 1109), some (.ref 1110), some (.int x5), w6, some (.int x7), w8] [.ref 1109] h rfl rfl rfl ?_
  refine tr_ic 0 0 (by decide) rfl ?_
  refine tr_lald 1109 u0 _ rfl (by decide) (hh_rd (hh_obj hL (k := 109) rfl).1) (hh_obj hL (k := 109) rfl).2 p0 ?_
  refine tr_s (.iload 7) 2 1089 [some (.ref 0), some (.ref 1000), some (.ref 1099), some (.ref 1109), some (.ref 1110), some (.int x5), w6, some (.int x7), w8] [.int x7, .long u0] h rfl rfl rfl ?_
  refine tr_s .i2l 1 1090 [some (.ref 0), some (.ref 1000), some (.ref 1099), some (.ref 1109), some (.ref 1110), some (.int x5), w6, some (.int x7), w8] [.long x7.toInt64, .long u0] h rfl rfl rfl ?_
  refine tr_s .lcmp 1 1091 [some (.ref 0), some (.ref 1000), some (.ref 1099), some (.ref 1109), some (.ref 1110), some (.int x5), w6, some (.int x7), w8] [.int (lg_cmp u0 x7.toInt64)] h rfl rfl rfl ?_
  exact tr_if1 .eq 5 1096 (lg_cmp u0 x7.toInt64) rfl rfl rfl (fun hc => t ((tr_eq hc).1 rfl)) (fun hc => f ((tr_eq hc).2 rfl))
theorem sg_law_1094 {g : tr_g} {d : Nat} {h : ev_AH} {r : ev_O × ev_AH} {w0 w1 w2 w3 w4 w5 w6 w7 w8 : Option Value} (hL : hh_L h) (hr : r = (.inl (some (.int 0)), h)) : tr_L g d m_law 1094 [w0, w1, w2, w3, w4, w5, w6, w7, w8] [] h r := by
  refine tr_ic 0 0 (by decide) rfl ?_
  exact tl_ret hL .ireturn 1 (some (.int 0)) rfl rfl rfl rfl hr
theorem sg_law_1096 {g : tr_g} {d : Nat} {h : ev_AH} {r : ev_O × ev_AH} {x5 : Int32} {w6 w7 w8 : Option Value} (hL : hh_L h) (k : tr_L g d m_law 28 [some (.ref 0), some (.ref 1000), some (.ref 1099), some (.ref 1109), some (.ref 1110), some (.int (x5 + 5)), w6, w7, w8] [] h r) : tr_L g d m_law 1096 [some (.ref 0), some (.ref 1000), some (.ref 1099), some (.ref 1109), some (.ref 1110), some (.int x5), w6, w7, w8] [] h r := by
  refine tr_goto 1865 2961 rfl rfl rfl ?_
  refine tr_inc 5 5 x5 5 (by decide) rfl rfl rfl ?_
  refine tr_goto (-2936) 28 rfl rfl rfl ?_
  exact k
theorem sg_law_1099 {g : tr_g} {d : Nat} {h : ev_AH} {r : ev_O × ev_AH} {x5 v0 v1 v2 : Int32} {w6 w7 w8 : Option Value} {j0 j1 j2 j3 : Nat} {h1 h2 h3 : ev_AH} (hL : hh_L h) (e0 : x5 + 1 = Int32.ofNat j0) (b0 : j0 < g.1.length) (z0 : g.1.length < 2147483648) (e1 : x5 + 2 = Int32.ofNat j1) (b1 : j1 < g.1.length) (z1 : g.1.length < 2147483648) (c_0 : tr_L g d m_L_leastEffort 0 [some (.ref 1000), some (.int (g.1.getD j0 0)), some (.int (g.1.getD j1 0)), some (.ref 1109), none] [] h (.inl (some (.int v0)), h1)) (e2 : x5 + 1 = Int32.ofNat j2) (b2 : j2 < g.1.length) (z2 : g.1.length < 2147483648) (e3 : x5 + 2 = Int32.ofNat j3) (b3 : j3 < g.1.length) (z3 : g.1.length < 2147483648) (c_1 : tr_L g d m_X9_leastEffort 0 [some (.ref 1099), some (.int (g.1.getD j2 0)), some (.int (g.1.getD j3 0)), none] [] h1 (.inl (some (.int v1)), h2)) (c_2 : tr_L g d m_X9_thrown 0 [some (.ref 1099)] [] h2 (.inl (some (.int v2)), h3)) (t : v2 = v0 → tr_L g (d + 1) m_law 1147 [some (.ref 0), some (.ref 1000), some (.ref 1099), some (.ref 1109), some (.ref 1110), some (.int x5), some (.int v0), some (.int v1), w8] [] h3 r) (f : v2 ≠ v0 → tr_L g (d + 1) m_law 1145 [some (.ref 0), some (.ref 1000), some (.ref 1099), some (.ref 1109), some (.ref 1110), some (.int x5), some (.int v0), some (.int v1), w8] [] h3 r) : tr_L g (d + 1) m_law 1099 [some (.ref 0), some (.ref 1000), some (.ref 1099), some (.ref 1109), some (.ref 1110), some (.int x5), w6, w7, w8] [] h r := by
  refine tr_s (.aload_n 1) 1 1100 [some (.ref 0), some (.ref 1000), some (.ref 1099), some (.ref 1109), some (.ref 1110), some (.int x5), w6, w7, w8] [.ref 1000] h rfl rfl rfl ?_
  refine tr_s (.aload_n 0) 1 1101 [some (.ref 0), some (.ref 1000), some (.ref 1099), some (.ref 1109), some (.ref 1110), some (.int x5), w6, w7, w8] [.ref 0, .ref 1000] h rfl rfl rfl ?_
  refine tr_s (.iload 5) 2 1103 [some (.ref 0), some (.ref 1000), some (.ref 1099), some (.ref 1109), some (.ref 1110), some (.int x5), w6, w7, w8] [.int x5, .ref 0, .ref 1000] h rfl rfl rfl ?_
  refine tr_ic 1 1 (by decide) rfl ?_
  refine tr_s .iadd 1 1105 [some (.ref 0), some (.ref 1000), some (.ref 1099), some (.ref 1109), some (.ref 1110), some (.int x5), w6, w7, w8] [.int (x5 + 1), .ref 0, .ref 1000] h rfl rfl rfl ?_
  refine tr_ald .iaload 0 0 j0 (x5 + 1) g.1 (Or.inl ⟨rfl, rfl⟩) rfl rfl e0 b0 z0 ?_
  refine tr_s (.aload_n 0) 1 1107 [some (.ref 0), some (.ref 1000), some (.ref 1099), some (.ref 1109), some (.ref 1110), some (.int x5), w6, w7, w8] [.ref 0, .int (g.1.getD j0 0), .ref 1000] h rfl rfl rfl ?_
  refine tr_s (.iload 5) 2 1109 [some (.ref 0), some (.ref 1000), some (.ref 1099), some (.ref 1109), some (.ref 1110), some (.int x5), w6, w7, w8] [.int x5, .ref 0, .int (g.1.getD j0 0), .ref 1000] h rfl rfl rfl ?_
  refine tr_ic 2 2 (by decide) rfl ?_
  refine tr_s .iadd 1 1111 [some (.ref 0), some (.ref 1000), some (.ref 1099), some (.ref 1109), some (.ref 1110), some (.int x5), w6, w7, w8] [.int (x5 + 2), .ref 0, .int (g.1.getD j0 0), .ref 1000] h rfl rfl rfl ?_
  refine tr_ald .iaload 0 0 j1 (x5 + 2) g.1 (Or.inl ⟨rfl, rfl⟩) rfl rfl e1 b1 z1 ?_
  refine tr_s (.aload_n 3) 1 1113 [some (.ref 0), some (.ref 1000), some (.ref 1099), some (.ref 1109), some (.ref 1110), some (.int x5), w6, w7, w8] [.ref 1109, .int (g.1.getD j1 0), .int (g.1.getD j0 0), .ref 1000] h rfl rfl rfl ?_
  refine tr_call (.invokestatic 226) 226 8 4 0 m_L_leastEffort [.ref 1000, .int (g.1.getD j0 0), .int (g.1.getD j1 0), .ref 1109] [] (some (.int v0)) h1 rfl rfl rfl rfl rfl rfl rfl rfl rfl (tr_cok rfl (Or.inl rfl)) c_0 ?_
  have hL0 := c_0.2
  refine tr_st (.istore 6) 2 6 0 (.int v0) rfl rfl rfl rfl rfl rfl rfl ?_
  refine tr_s (.aload_n 2) 1 1119 [some (.ref 0), some (.ref 1000), some (.ref 1099), some (.ref 1109), some (.ref 1110), some (.int x5), some (.int v0), w7, w8] [.ref 1099] h1 rfl rfl rfl ?_
  refine tr_s (.aload_n 0) 1 1120 [some (.ref 0), some (.ref 1000), some (.ref 1099), some (.ref 1109), some (.ref 1110), some (.int x5), some (.int v0), w7, w8] [.ref 0, .ref 1099] h1 rfl rfl rfl ?_
  refine tr_s (.iload 5) 2 1122 [some (.ref 0), some (.ref 1000), some (.ref 1099), some (.ref 1109), some (.ref 1110), some (.int x5), some (.int v0), w7, w8] [.int x5, .ref 0, .ref 1099] h1 rfl rfl rfl ?_
  refine tr_ic 1 1 (by decide) rfl ?_
  refine tr_s .iadd 1 1124 [some (.ref 0), some (.ref 1000), some (.ref 1099), some (.ref 1109), some (.ref 1110), some (.int x5), some (.int v0), w7, w8] [.int (x5 + 1), .ref 0, .ref 1099] h1 rfl rfl rfl ?_
  refine tr_ald .iaload 0 0 j2 (x5 + 1) g.1 (Or.inl ⟨rfl, rfl⟩) rfl rfl e2 b2 z2 ?_
  refine tr_s (.aload_n 0) 1 1126 [some (.ref 0), some (.ref 1000), some (.ref 1099), some (.ref 1109), some (.ref 1110), some (.int x5), some (.int v0), w7, w8] [.ref 0, .int (g.1.getD j2 0), .ref 1099] h1 rfl rfl rfl ?_
  refine tr_s (.iload 5) 2 1128 [some (.ref 0), some (.ref 1000), some (.ref 1099), some (.ref 1109), some (.ref 1110), some (.int x5), some (.int v0), w7, w8] [.int x5, .ref 0, .int (g.1.getD j2 0), .ref 1099] h1 rfl rfl rfl ?_
  refine tr_ic 2 2 (by decide) rfl ?_
  refine tr_s .iadd 1 1130 [some (.ref 0), some (.ref 1000), some (.ref 1099), some (.ref 1109), some (.ref 1110), some (.int x5), some (.int v0), w7, w8] [.int (x5 + 2), .ref 0, .int (g.1.getD j2 0), .ref 1099] h1 rfl rfl rfl ?_
  refine tr_ald .iaload 0 0 j3 (x5 + 2) g.1 (Or.inl ⟨rfl, rfl⟩) rfl rfl e3 b3 z3 ?_
  refine tr_call (.invokevirtual 228) 228 0 2 8 m_X9_leastEffort [.ref 1099, .int (g.1.getD j2 0), .int (g.1.getD j3 0)] [] (some (.int v1)) h2 rfl rfl rfl rfl rfl rfl rfl rfl rfl (tr_cok rfl (Or.inr ⟨_, _, rfl, tr_rc (hh_rd (hh_obj hL0 (k := 99) rfl).1) (by decide)⟩)) c_1 ?_
  have hL1 := c_1.2
  refine tr_st (.istore 7) 2 7 0 (.int v1) rfl rfl rfl rfl rfl rfl rfl ?_
  refine tr_s (.aload_n 2) 1 1137 [some (.ref 0), some (.ref 1000), some (.ref 1099), some (.ref 1109), some (.ref 1110), some (.int x5), some (.int v0), some (.int v1), w8] [.ref 1099] h2 rfl rfl rfl ?_
  refine tr_call (.invokevirtual 180) 180 0 0 8 m_X9_thrown [.ref 1099] [] (some (.int v2)) h3 rfl rfl rfl rfl rfl rfl rfl rfl rfl (tr_cok rfl (Or.inr ⟨_, _, rfl, tr_rc (hh_rd (hh_obj hL1 (k := 99) rfl).1) (by decide)⟩)) c_2 ?_
  have hL2 := c_2.2
  refine tr_s (.iload 6) 2 1142 [some (.ref 0), some (.ref 1000), some (.ref 1099), some (.ref 1109), some (.ref 1110), some (.int x5), some (.int v0), some (.int v1), w8] [.int v0, .int v2] h3 rfl rfl rfl ?_
  exact tr_if2 .eq 5 1147 v2 v0 rfl rfl rfl (fun hc => t ((tr_eq hc).1 rfl)) (fun hc => f ((tr_eq hc).2 rfl))
theorem sg_law_1145 {g : tr_g} {d : Nat} {h : ev_AH} {r : ev_O × ev_AH} {w0 w1 w2 w3 w4 w5 w6 w7 w8 : Option Value} (hL : hh_L h) (hr : r = (.inl (some (.int 0)), h)) : tr_L g d m_law 1145 [w0, w1, w2, w3, w4, w5, w6, w7, w8] [] h r := by
  refine tr_ic 0 0 (by decide) rfl ?_
  exact tl_ret hL .ireturn 1 (some (.int 0)) rfl rfl rfl rfl hr
theorem sg_law_1147 {g : tr_g} {d : Nat} {h : ev_AH} {r : ev_O × ev_AH} {x5 x6 x7 : Int32} {w8 : Option Value} (hL : hh_L h) (t : x6 ≠ 0 → tr_L g d m_law 1164 [some (.ref 0), some (.ref 1000), some (.ref 1099), some (.ref 1109), some (.ref 1110), some (.int x5), some (.int x6), some (.int x7), w8] [] h r) (f : x6 = 0 → tr_L g d m_law 1152 [some (.ref 0), some (.ref 1000), some (.ref 1099), some (.ref 1109), some (.ref 1110), some (.int x5), some (.int x6), some (.int x7), w8] [] h r) : tr_L g d m_law 1147 [some (.ref 0), some (.ref 1000), some (.ref 1099), some (.ref 1109), some (.ref 1110), some (.int x5), some (.int x6), some (.int x7), w8] [] h r := by
  refine tr_s (.iload 6) 2 1149 [some (.ref 0), some (.ref 1000), some (.ref 1099), some (.ref 1109), some (.ref 1110), some (.int x5), some (.int x6), some (.int x7), w8] [.int x6] h rfl rfl rfl ?_
  exact tr_if1 .ne 15 1164 x6 rfl rfl rfl (fun hc => t ((tr_ne hc).1 rfl)) (fun hc => f ((tr_ne hc).2 rfl))
theorem sg_law_1152 {g : tr_g} {d : Nat} {h : ev_AH} {r : ev_O × ev_AH} {x5 x7 : Int32} {w6 w8 : Option Value} {u0 : Int64} (hL : hh_L h) (p0 : (hh_v h 109)[0]? = some (.long u0)) (t : (lg_cmp u0 x7.toInt64) = 0 → tr_L g d m_law 1164 [some (.ref 0), some (.ref 1000), some (.ref 1099), some (.ref 1109), some (.ref 1110), some (.int x5), w6, some (.int x7), w8] [] h r) (f : (lg_cmp u0 x7.toInt64) ≠ 0 → tr_L g d m_law 1162 [some (.ref 0), some (.ref 1000), some (.ref 1099), some (.ref 1109), some (.ref 1110), some (.int x5), w6, some (.int x7), w8] [] h r) : tr_L g d m_law 1152 [some (.ref 0), some (.ref 1000), some (.ref 1099), some (.ref 1109), some (.ref 1110), some (.int x5), w6, some (.int x7), w8] [] h r := by
  refine tr_s (.aload_n 3) 1 1153 [some (.ref 0), some (.ref 1000), some (.ref 1099), some (.ref 1109), some (.ref 1110), some (.int x5), w6, some (.int x7), w8] [.ref 1109] h rfl rfl rfl ?_
  refine tr_ic 0 0 (by decide) rfl ?_
  refine tr_lald 1109 u0 _ rfl (by decide) (hh_rd (hh_obj hL (k := 109) rfl).1) (hh_obj hL (k := 109) rfl).2 p0 ?_
  refine tr_s (.iload 7) 2 1157 [some (.ref 0), some (.ref 1000), some (.ref 1099), some (.ref 1109), some (.ref 1110), some (.int x5), w6, some (.int x7), w8] [.int x7, .long u0] h rfl rfl rfl ?_
  refine tr_s .i2l 1 1158 [some (.ref 0), some (.ref 1000), some (.ref 1099), some (.ref 1109), some (.ref 1110), some (.int x5), w6, some (.int x7), w8] [.long x7.toInt64, .long u0] h rfl rfl rfl ?_
  refine tr_s .lcmp 1 1159 [some (.ref 0), some (.ref 1000), some (.ref 1099), some (.ref 1109), some (.ref 1110), some (.int x5), w6, some (.int x7), w8] [.int (lg_cmp u0 x7.toInt64)] h rfl rfl rfl ?_
  exact tr_if1 .eq 5 1164 (lg_cmp u0 x7.toInt64) rfl rfl rfl (fun hc => t ((tr_eq hc).1 rfl)) (fun hc => f ((tr_eq hc).2 rfl))
theorem sg_law_1162 {g : tr_g} {d : Nat} {h : ev_AH} {r : ev_O × ev_AH} {w0 w1 w2 w3 w4 w5 w6 w7 w8 : Option Value} (hL : hh_L h) (hr : r = (.inl (some (.int 0)), h)) : tr_L g d m_law 1162 [w0, w1, w2, w3, w4, w5, w6, w7, w8] [] h r := by
  refine tr_ic 0 0 (by decide) rfl ?_
  exact tl_ret hL .ireturn 1 (some (.int 0)) rfl rfl rfl rfl hr
theorem sg_law_1164 {g : tr_g} {d : Nat} {h : ev_AH} {r : ev_O × ev_AH} {x5 : Int32} {w6 w7 w8 : Option Value} (hL : hh_L h) (k : tr_L g d m_law 28 [some (.ref 0), some (.ref 1000), some (.ref 1099), some (.ref 1109), some (.ref 1110), some (.int (x5 + 5)), w6, w7, w8] [] h r) : tr_L g d m_law 1164 [some (.ref 0), some (.ref 1000), some (.ref 1099), some (.ref 1109), some (.ref 1110), some (.int x5), w6, w7, w8] [] h r := by
  refine tr_goto 1797 2961 rfl rfl rfl ?_
  refine tr_inc 5 5 x5 5 (by decide) rfl rfl rfl ?_
  refine tr_goto (-2936) 28 rfl rfl rfl ?_
  exact k
theorem sg_law_1167 {g : tr_g} {d : Nat} {h : ev_AH} {r : ev_O × ev_AH} {x5 v0 v1 v2 : Int32} {w6 w7 w8 : Option Value} {j0 j1 j2 j3 : Nat} {h1 h2 h3 : ev_AH} (hL : hh_L h) (e0 : x5 + 1 = Int32.ofNat j0) (b0 : j0 < g.1.length) (z0 : g.1.length < 2147483648) (e1 : x5 + 2 = Int32.ofNat j1) (b1 : j1 < g.1.length) (z1 : g.1.length < 2147483648) (c_0 : tr_L g d m_L_leastEffortByRounds 0 [some (.ref 1000), some (.int (g.1.getD j0 0)), some (.int (g.1.getD j1 0)), some (.ref 1109), none] [] h (.inl (some (.int v0)), h1)) (e2 : x5 + 1 = Int32.ofNat j2) (b2 : j2 < g.1.length) (z2 : g.1.length < 2147483648) (e3 : x5 + 2 = Int32.ofNat j3) (b3 : j3 < g.1.length) (z3 : g.1.length < 2147483648) (c_1 : tr_L g d m_X9_leastEffortByRounds 0 [some (.ref 1099), some (.int (g.1.getD j2 0)), some (.int (g.1.getD j3 0))] [] h1 (.inl (some (.int v1)), h2)) (c_2 : tr_L g d m_X9_thrown 0 [some (.ref 1099)] [] h2 (.inl (some (.int v2)), h3)) (t : v2 = v0 → tr_L g (d + 1) m_law 1215 [some (.ref 0), some (.ref 1000), some (.ref 1099), some (.ref 1109), some (.ref 1110), some (.int x5), some (.int v0), some (.int v1), w8] [] h3 r) (f : v2 ≠ v0 → tr_L g (d + 1) m_law 1213 [some (.ref 0), some (.ref 1000), some (.ref 1099), some (.ref 1109), some (.ref 1110), some (.int x5), some (.int v0), some (.int v1), w8] [] h3 r) : tr_L g (d + 1) m_law 1167 [some (.ref 0), some (.ref 1000), some (.ref 1099), some (.ref 1109), some (.ref 1110), some (.int x5), w6, w7, w8] [] h r := by
  refine tr_s (.aload_n 1) 1 1168 [some (.ref 0), some (.ref 1000), some (.ref 1099), some (.ref 1109), some (.ref 1110), some (.int x5), w6, w7, w8] [.ref 1000] h rfl rfl rfl ?_
  refine tr_s (.aload_n 0) 1 1169 [some (.ref 0), some (.ref 1000), some (.ref 1099), some (.ref 1109), some (.ref 1110), some (.int x5), w6, w7, w8] [.ref 0, .ref 1000] h rfl rfl rfl ?_
  refine tr_s (.iload 5) 2 1171 [some (.ref 0), some (.ref 1000), some (.ref 1099), some (.ref 1109), some (.ref 1110), some (.int x5), w6, w7, w8] [.int x5, .ref 0, .ref 1000] h rfl rfl rfl ?_
  refine tr_ic 1 1 (by decide) rfl ?_
  refine tr_s .iadd 1 1173 [some (.ref 0), some (.ref 1000), some (.ref 1099), some (.ref 1109), some (.ref 1110), some (.int x5), w6, w7, w8] [.int (x5 + 1), .ref 0, .ref 1000] h rfl rfl rfl ?_
  refine tr_ald .iaload 0 0 j0 (x5 + 1) g.1 (Or.inl ⟨rfl, rfl⟩) rfl rfl e0 b0 z0 ?_
  refine tr_s (.aload_n 0) 1 1175 [some (.ref 0), some (.ref 1000), some (.ref 1099), some (.ref 1109), some (.ref 1110), some (.int x5), w6, w7, w8] [.ref 0, .int (g.1.getD j0 0), .ref 1000] h rfl rfl rfl ?_
  refine tr_s (.iload 5) 2 1177 [some (.ref 0), some (.ref 1000), some (.ref 1099), some (.ref 1109), some (.ref 1110), some (.int x5), w6, w7, w8] [.int x5, .ref 0, .int (g.1.getD j0 0), .ref 1000] h rfl rfl rfl ?_
  refine tr_ic 2 2 (by decide) rfl ?_
  refine tr_s .iadd 1 1179 [some (.ref 0), some (.ref 1000), some (.ref 1099), some (.ref 1109), some (.ref 1110), some (.int x5), w6, w7, w8] [.int (x5 + 2), .ref 0, .int (g.1.getD j0 0), .ref 1000] h rfl rfl rfl ?_
  refine tr_ald .iaload 0 0 j1 (x5 + 2) g.1 (Or.inl ⟨rfl, rfl⟩) rfl rfl e1 b1 z1 ?_
  refine tr_s (.aload_n 3) 1 1181 [some (.ref 0), some (.ref 1000), some (.ref 1099), some (.ref 1109), some (.ref 1110), some (.int x5), w6, w7, w8] [.ref 1109, .int (g.1.getD j1 0), .int (g.1.getD j0 0), .ref 1000] h rfl rfl rfl ?_
  refine tr_call (.invokestatic 229) 229 8 4 0 m_L_leastEffortByRounds [.ref 1000, .int (g.1.getD j0 0), .int (g.1.getD j1 0), .ref 1109] [] (some (.int v0)) h1 rfl rfl rfl rfl rfl rfl rfl rfl rfl (tr_cok rfl (Or.inl rfl)) c_0 ?_
  have hL0 := c_0.2
  refine tr_st (.istore 6) 2 6 0 (.int v0) rfl rfl rfl rfl rfl rfl rfl ?_
  refine tr_s (.aload_n 2) 1 1187 [some (.ref 0), some (.ref 1000), some (.ref 1099), some (.ref 1109), some (.ref 1110), some (.int x5), some (.int v0), w7, w8] [.ref 1099] h1 rfl rfl rfl ?_
  refine tr_s (.aload_n 0) 1 1188 [some (.ref 0), some (.ref 1000), some (.ref 1099), some (.ref 1109), some (.ref 1110), some (.int x5), some (.int v0), w7, w8] [.ref 0, .ref 1099] h1 rfl rfl rfl ?_
  refine tr_s (.iload 5) 2 1190 [some (.ref 0), some (.ref 1000), some (.ref 1099), some (.ref 1109), some (.ref 1110), some (.int x5), some (.int v0), w7, w8] [.int x5, .ref 0, .ref 1099] h1 rfl rfl rfl ?_
  refine tr_ic 1 1 (by decide) rfl ?_
  refine tr_s .iadd 1 1192 [some (.ref 0), some (.ref 1000), some (.ref 1099), some (.ref 1109), some (.ref 1110), some (.int x5), some (.int v0), w7, w8] [.int (x5 + 1), .ref 0, .ref 1099] h1 rfl rfl rfl ?_
  refine tr_ald .iaload 0 0 j2 (x5 + 1) g.1 (Or.inl ⟨rfl, rfl⟩) rfl rfl e2 b2 z2 ?_
  refine tr_s (.aload_n 0) 1 1194 [some (.ref 0), some (.ref 1000), some (.ref 1099), some (.ref 1109), some (.ref 1110), some (.int x5), some (.int v0), w7, w8] [.ref 0, .int (g.1.getD j2 0), .ref 1099] h1 rfl rfl rfl ?_
  refine tr_s (.iload 5) 2 1196 [some (.ref 0), some (.ref 1000), some (.ref 1099), some (.ref 1109), some (.ref 1110), some (.int x5), some (.int v0), w7, w8] [.int x5, .ref 0, .int (g.1.getD j2 0), .ref 1099] h1 rfl rfl rfl ?_
  refine tr_ic 2 2 (by decide) rfl ?_
  refine tr_s .iadd 1 1198 [some (.ref 0), some (.ref 1000), some (.ref 1099), some (.ref 1109), some (.ref 1110), some (.int x5), some (.int v0), w7, w8] [.int (x5 + 2), .ref 0, .int (g.1.getD j2 0), .ref 1099] h1 rfl rfl rfl ?_
  refine tr_ald .iaload 0 0 j3 (x5 + 2) g.1 (Or.inl ⟨rfl, rfl⟩) rfl rfl e3 b3 z3 ?_
  refine tr_call (.invokevirtual 231) 231 0 2 8 m_X9_leastEffortByRounds [.ref 1099, .int (g.1.getD j2 0), .int (g.1.getD j3 0)] [] (some (.int v1)) h2 rfl rfl rfl rfl rfl rfl rfl rfl rfl (tr_cok rfl (Or.inr ⟨_, _, rfl, tr_rc (hh_rd (hh_obj hL0 (k := 99) rfl).1) (by decide)⟩)) c_1 ?_
  have hL1 := c_1.2
  refine tr_st (.istore 7) 2 7 0 (.int v1) rfl rfl rfl rfl rfl rfl rfl ?_
  refine tr_s (.aload_n 2) 1 1205 [some (.ref 0), some (.ref 1000), some (.ref 1099), some (.ref 1109), some (.ref 1110), some (.int x5), some (.int v0), some (.int v1), w8] [.ref 1099] h2 rfl rfl rfl ?_
  refine tr_call (.invokevirtual 180) 180 0 0 8 m_X9_thrown [.ref 1099] [] (some (.int v2)) h3 rfl rfl rfl rfl rfl rfl rfl rfl rfl (tr_cok rfl (Or.inr ⟨_, _, rfl, tr_rc (hh_rd (hh_obj hL1 (k := 99) rfl).1) (by decide)⟩)) c_2 ?_
  have hL2 := c_2.2
  refine tr_s (.iload 6) 2 1210 [some (.ref 0), some (.ref 1000), some (.ref 1099), some (.ref 1109), some (.ref 1110), some (.int x5), some (.int v0), some (.int v1), w8] [.int v0, .int v2] h3 rfl rfl rfl ?_
  exact tr_if2 .eq 5 1215 v2 v0 rfl rfl rfl (fun hc => t ((tr_eq hc).1 rfl)) (fun hc => f ((tr_eq hc).2 rfl))
theorem sg_law_1213 {g : tr_g} {d : Nat} {h : ev_AH} {r : ev_O × ev_AH} {w0 w1 w2 w3 w4 w5 w6 w7 w8 : Option Value} (hL : hh_L h) (hr : r = (.inl (some (.int 0)), h)) : tr_L g d m_law 1213 [w0, w1, w2, w3, w4, w5, w6, w7, w8] [] h r := by
  refine tr_ic 0 0 (by decide) rfl ?_
  exact tl_ret hL .ireturn 1 (some (.int 0)) rfl rfl rfl rfl hr
theorem sg_law_1215 {g : tr_g} {d : Nat} {h : ev_AH} {r : ev_O × ev_AH} {x5 x6 x7 : Int32} {w8 : Option Value} (hL : hh_L h) (t : x6 ≠ 0 → tr_L g d m_law 1232 [some (.ref 0), some (.ref 1000), some (.ref 1099), some (.ref 1109), some (.ref 1110), some (.int x5), some (.int x6), some (.int x7), w8] [] h r) (f : x6 = 0 → tr_L g d m_law 1220 [some (.ref 0), some (.ref 1000), some (.ref 1099), some (.ref 1109), some (.ref 1110), some (.int x5), some (.int x6), some (.int x7), w8] [] h r) : tr_L g d m_law 1215 [some (.ref 0), some (.ref 1000), some (.ref 1099), some (.ref 1109), some (.ref 1110), some (.int x5), some (.int x6), some (.int x7), w8] [] h r := by
  refine tr_s (.iload 6) 2 1217 [some (.ref 0), some (.ref 1000), some (.ref 1099), some (.ref 1109), some (.ref 1110), some (.int x5), some (.int x6), some (.int x7), w8] [.int x6] h rfl rfl rfl ?_
  exact tr_if1 .ne 15 1232 x6 rfl rfl rfl (fun hc => t ((tr_ne hc).1 rfl)) (fun hc => f ((tr_ne hc).2 rfl))
theorem sg_law_1220 {g : tr_g} {d : Nat} {h : ev_AH} {r : ev_O × ev_AH} {x5 x7 : Int32} {w6 w8 : Option Value} {u0 : Int64} (hL : hh_L h) (p0 : (hh_v h 109)[0]? = some (.long u0)) (t : (lg_cmp u0 x7.toInt64) = 0 → tr_L g d m_law 1232 [some (.ref 0), some (.ref 1000), some (.ref 1099), some (.ref 1109), some (.ref 1110), some (.int x5), w6, some (.int x7), w8] [] h r) (f : (lg_cmp u0 x7.toInt64) ≠ 0 → tr_L g d m_law 1230 [some (.ref 0), some (.ref 1000), some (.ref 1099), some (.ref 1109), some (.ref 1110), some (.int x5), w6, some (.int x7), w8] [] h r) : tr_L g d m_law 1220 [some (.ref 0), some (.ref 1000), some (.ref 1099), some (.ref 1109), some (.ref 1110), some (.int x5), w6, some (.int x7), w8] [] h r := by
  refine tr_s (.aload_n 3) 1 1221 [some (.ref 0), some (.ref 1000), some (.ref 1099), some (.ref 1109), some (.ref 1110), some (.int x5), w6, some (.int x7), w8] [.ref 1109] h rfl rfl rfl ?_
  refine tr_ic 0 0 (by decide) rfl ?_
  refine tr_lald 1109 u0 _ rfl (by decide) (hh_rd (hh_obj hL (k := 109) rfl).1) (hh_obj hL (k := 109) rfl).2 p0 ?_
  refine tr_s (.iload 7) 2 1225 [some (.ref 0), some (.ref 1000), some (.ref 1099), some (.ref 1109), some (.ref 1110), some (.int x5), w6, some (.int x7), w8] [.int x7, .long u0] h rfl rfl rfl ?_
  refine tr_s .i2l 1 1226 [some (.ref 0), some (.ref 1000), some (.ref 1099), some (.ref 1109), some (.ref 1110), some (.int x5), w6, some (.int x7), w8] [.long x7.toInt64, .long u0] h rfl rfl rfl ?_
  refine tr_s .lcmp 1 1227 [some (.ref 0), some (.ref 1000), some (.ref 1099), some (.ref 1109), some (.ref 1110), some (.int x5), w6, some (.int x7), w8] [.int (lg_cmp u0 x7.toInt64)] h rfl rfl rfl ?_
  exact tr_if1 .eq 5 1232 (lg_cmp u0 x7.toInt64) rfl rfl rfl (fun hc => t ((tr_eq hc).1 rfl)) (fun hc => f ((tr_eq hc).2 rfl))
theorem sg_law_1230 {g : tr_g} {d : Nat} {h : ev_AH} {r : ev_O × ev_AH} {w0 w1 w2 w3 w4 w5 w6 w7 w8 : Option Value} (hL : hh_L h) (hr : r = (.inl (some (.int 0)), h)) : tr_L g d m_law 1230 [w0, w1, w2, w3, w4, w5, w6, w7, w8] [] h r := by
  refine tr_ic 0 0 (by decide) rfl ?_
  exact tl_ret hL .ireturn 1 (some (.int 0)) rfl rfl rfl rfl hr
theorem sg_law_1232 {g : tr_g} {d : Nat} {h : ev_AH} {r : ev_O × ev_AH} {x5 : Int32} {w6 w7 w8 : Option Value} (hL : hh_L h) (k : tr_L g d m_law 28 [some (.ref 0), some (.ref 1000), some (.ref 1099), some (.ref 1109), some (.ref 1110), some (.int (x5 + 5)), w6, w7, w8] [] h r) : tr_L g d m_law 1232 [some (.ref 0), some (.ref 1000), some (.ref 1099), some (.ref 1109), some (.ref 1110), some (.int x5), w6, w7, w8] [] h r := by
  refine tr_goto 1729 2961 rfl rfl rfl ?_
  refine tr_inc 5 5 x5 5 (by decide) rfl rfl rfl ?_
  refine tr_goto (-2936) 28 rfl rfl rfl ?_
  exact k
theorem sg_law_1235 {g : tr_g} {d : Nat} {h : ev_AH} {r : ev_O × ev_AH} {x5 v0 v1 v2 : Int32} {w6 w7 w8 : Option Value} {j0 j1 : Nat} {h1 h2 h3 : ev_AH} (hL : hh_L h) (e0 : x5 + 1 = Int32.ofNat j0) (b0 : j0 < g.1.length) (z0 : g.1.length < 2147483648) (c_0 : tr_L g d m_L_portByLength 0 [some (.ref 1000), some (.int (g.1.getD j0 0)), some (.ref 1109), none] [] h (.inl (some (.int v0)), h1)) (e1 : x5 + 1 = Int32.ofNat j1) (b1 : j1 < g.1.length) (z1 : g.1.length < 2147483648) (c_1 : tr_L g d m_X9_portByLength 0 [some (.ref 1099), some (.int (g.1.getD j1 0)), none, none, none, none] [] h1 (.inl (some (.int v1)), h2)) (c_2 : tr_L g d m_X9_thrown 0 [some (.ref 1099)] [] h2 (.inl (some (.int v2)), h3)) (t : v2 = v0 → tr_L g (d + 1) m_law 1271 [some (.ref 0), some (.ref 1000), some (.ref 1099), some (.ref 1109), some (.ref 1110), some (.int x5), some (.int v0), some (.int v1), w8] [] h3 r) (f : v2 ≠ v0 → tr_L g (d + 1) m_law 1269 [some (.ref 0), some (.ref 1000), some (.ref 1099), some (.ref 1109), some (.ref 1110), some (.int x5), some (.int v0), some (.int v1), w8] [] h3 r) : tr_L g (d + 1) m_law 1235 [some (.ref 0), some (.ref 1000), some (.ref 1099), some (.ref 1109), some (.ref 1110), some (.int x5), w6, w7, w8] [] h r := by
  refine tr_s (.aload_n 1) 1 1236 [some (.ref 0), some (.ref 1000), some (.ref 1099), some (.ref 1109), some (.ref 1110), some (.int x5), w6, w7, w8] [.ref 1000] h rfl rfl rfl ?_
  refine tr_s (.aload_n 0) 1 1237 [some (.ref 0), some (.ref 1000), some (.ref 1099), some (.ref 1109), some (.ref 1110), some (.int x5), w6, w7, w8] [.ref 0, .ref 1000] h rfl rfl rfl ?_
  refine tr_s (.iload 5) 2 1239 [some (.ref 0), some (.ref 1000), some (.ref 1099), some (.ref 1109), some (.ref 1110), some (.int x5), w6, w7, w8] [.int x5, .ref 0, .ref 1000] h rfl rfl rfl ?_
  refine tr_ic 1 1 (by decide) rfl ?_
  refine tr_s .iadd 1 1241 [some (.ref 0), some (.ref 1000), some (.ref 1099), some (.ref 1109), some (.ref 1110), some (.int x5), w6, w7, w8] [.int (x5 + 1), .ref 0, .ref 1000] h rfl rfl rfl ?_
  refine tr_ald .iaload 0 0 j0 (x5 + 1) g.1 (Or.inl ⟨rfl, rfl⟩) rfl rfl e0 b0 z0 ?_
  refine tr_s (.aload_n 3) 1 1243 [some (.ref 0), some (.ref 1000), some (.ref 1099), some (.ref 1109), some (.ref 1110), some (.int x5), w6, w7, w8] [.ref 1109, .int (g.1.getD j0 0), .ref 1000] h rfl rfl rfl ?_
  refine tr_call (.invokestatic 232) 232 8 3 0 m_L_portByLength [.ref 1000, .int (g.1.getD j0 0), .ref 1109] [] (some (.int v0)) h1 rfl rfl rfl rfl rfl rfl rfl rfl rfl (tr_cok rfl (Or.inl rfl)) c_0 ?_
  have hL0 := c_0.2
  refine tr_st (.istore 6) 2 6 0 (.int v0) rfl rfl rfl rfl rfl rfl rfl ?_
  refine tr_s (.aload_n 2) 1 1249 [some (.ref 0), some (.ref 1000), some (.ref 1099), some (.ref 1109), some (.ref 1110), some (.int x5), some (.int v0), w7, w8] [.ref 1099] h1 rfl rfl rfl ?_
  refine tr_s (.aload_n 0) 1 1250 [some (.ref 0), some (.ref 1000), some (.ref 1099), some (.ref 1109), some (.ref 1110), some (.int x5), some (.int v0), w7, w8] [.ref 0, .ref 1099] h1 rfl rfl rfl ?_
  refine tr_s (.iload 5) 2 1252 [some (.ref 0), some (.ref 1000), some (.ref 1099), some (.ref 1109), some (.ref 1110), some (.int x5), some (.int v0), w7, w8] [.int x5, .ref 0, .ref 1099] h1 rfl rfl rfl ?_
  refine tr_ic 1 1 (by decide) rfl ?_
  refine tr_s .iadd 1 1254 [some (.ref 0), some (.ref 1000), some (.ref 1099), some (.ref 1109), some (.ref 1110), some (.int x5), some (.int v0), w7, w8] [.int (x5 + 1), .ref 0, .ref 1099] h1 rfl rfl rfl ?_
  refine tr_ald .iaload 0 0 j1 (x5 + 1) g.1 (Or.inl ⟨rfl, rfl⟩) rfl rfl e1 b1 z1 ?_
  refine tr_call (.invokevirtual 234) 234 0 1 8 m_X9_portByLength [.ref 1099, .int (g.1.getD j1 0)] [] (some (.int v1)) h2 rfl rfl rfl rfl rfl rfl rfl rfl rfl (tr_cok rfl (Or.inr ⟨_, _, rfl, tr_rc (hh_rd (hh_obj hL0 (k := 99) rfl).1) (by decide)⟩)) c_1 ?_
  have hL1 := c_1.2
  refine tr_st (.istore 7) 2 7 0 (.int v1) rfl rfl rfl rfl rfl rfl rfl ?_
  refine tr_s (.aload_n 2) 1 1261 [some (.ref 0), some (.ref 1000), some (.ref 1099), some (.ref 1109), some (.ref 1110), some (.int x5), some (.int v0), some (.int v1), w8] [.ref 1099] h2 rfl rfl rfl ?_
  refine tr_call (.invokevirtual 180) 180 0 0 8 m_X9_thrown [.ref 1099] [] (some (.int v2)) h3 rfl rfl rfl rfl rfl rfl rfl rfl rfl (tr_cok rfl (Or.inr ⟨_, _, rfl, tr_rc (hh_rd (hh_obj hL1 (k := 99) rfl).1) (by decide)⟩)) c_2 ?_
  have hL2 := c_2.2
  refine tr_s (.iload 6) 2 1266 [some (.ref 0), some (.ref 1000), some (.ref 1099), some (.ref 1109), some (.ref 1110), some (.int x5), some (.int v0), some (.int v1), w8] [.int v0, .int v2] h3 rfl rfl rfl ?_
  exact tr_if2 .eq 5 1271 v2 v0 rfl rfl rfl (fun hc => t ((tr_eq hc).1 rfl)) (fun hc => f ((tr_eq hc).2 rfl))
theorem sg_law_1269 {g : tr_g} {d : Nat} {h : ev_AH} {r : ev_O × ev_AH} {w0 w1 w2 w3 w4 w5 w6 w7 w8 : Option Value} (hL : hh_L h) (hr : r = (.inl (some (.int 0)), h)) : tr_L g d m_law 1269 [w0, w1, w2, w3, w4, w5, w6, w7, w8] [] h r := by
  refine tr_ic 0 0 (by decide) rfl ?_
  exact tl_ret hL .ireturn 1 (some (.int 0)) rfl rfl rfl rfl hr
theorem sg_law_1271 {g : tr_g} {d : Nat} {h : ev_AH} {r : ev_O × ev_AH} {x5 x6 x7 : Int32} {w8 : Option Value} (hL : hh_L h) (t : x6 ≠ 0 → tr_L g d m_law 1288 [some (.ref 0), some (.ref 1000), some (.ref 1099), some (.ref 1109), some (.ref 1110), some (.int x5), some (.int x6), some (.int x7), w8] [] h r) (f : x6 = 0 → tr_L g d m_law 1276 [some (.ref 0), some (.ref 1000), some (.ref 1099), some (.ref 1109), some (.ref 1110), some (.int x5), some (.int x6), some (.int x7), w8] [] h r) : tr_L g d m_law 1271 [some (.ref 0), some (.ref 1000), some (.ref 1099), some (.ref 1109), some (.ref 1110), some (.int x5), some (.int x6), some (.int x7), w8] [] h r := by
  refine tr_s (.iload 6) 2 1273 [some (.ref 0), some (.ref 1000), some (.ref 1099), some (.ref 1109), some (.ref 1110), some (.int x5), some (.int x6), some (.int x7), w8] [.int x6] h rfl rfl rfl ?_
  exact tr_if1 .ne 15 1288 x6 rfl rfl rfl (fun hc => t ((tr_ne hc).1 rfl)) (fun hc => f ((tr_ne hc).2 rfl))
theorem sg_law_1276 {g : tr_g} {d : Nat} {h : ev_AH} {r : ev_O × ev_AH} {x5 x7 : Int32} {w6 w8 : Option Value} {u0 : Int64} (hL : hh_L h) (p0 : (hh_v h 109)[0]? = some (.long u0)) (t : (lg_cmp u0 x7.toInt64) = 0 → tr_L g d m_law 1288 [some (.ref 0), some (.ref 1000), some (.ref 1099), some (.ref 1109), some (.ref 1110), some (.int x5), w6, some (.int x7), w8] [] h r) (f : (lg_cmp u0 x7.toInt64) ≠ 0 → tr_L g d m_law 1286 [some (.ref 0), some (.ref 1000), some (.ref 1099), some (.ref 1109), some (.ref 1110), some (.int x5), w6, some (.int x7), w8] [] h r) : tr_L g d m_law 1276 [some (.ref 0), some (.ref 1000), some (.ref 1099), some (.ref 1109), some (.ref 1110), some (.int x5), w6, some (.int x7), w8] [] h r := by
  refine tr_s (.aload_n 3) 1 1277 [some (.ref 0), some (.ref 1000), some (.ref 1099), some (.ref 1109), some (.ref 1110), some (.int x5), w6, some (.int x7), w8] [.ref 1109] h rfl rfl rfl ?_
  refine tr_ic 0 0 (by decide) rfl ?_
  refine tr_lald 1109 u0 _ rfl (by decide) (hh_rd (hh_obj hL (k := 109) rfl).1) (hh_obj hL (k := 109) rfl).2 p0 ?_
  refine tr_s (.iload 7) 2 1281 [some (.ref 0), some (.ref 1000), some (.ref 1099), some (.ref 1109), some (.ref 1110), some (.int x5), w6, some (.int x7), w8] [.int x7, .long u0] h rfl rfl rfl ?_
  refine tr_s .i2l 1 1282 [some (.ref 0), some (.ref 1000), some (.ref 1099), some (.ref 1109), some (.ref 1110), some (.int x5), w6, some (.int x7), w8] [.long x7.toInt64, .long u0] h rfl rfl rfl ?_
  refine tr_s .lcmp 1 1283 [some (.ref 0), some (.ref 1000), some (.ref 1099), some (.ref 1109), some (.ref 1110), some (.int x5), w6, some (.int x7), w8] [.int (lg_cmp u0 x7.toInt64)] h rfl rfl rfl ?_
  exact tr_if1 .eq 5 1288 (lg_cmp u0 x7.toInt64) rfl rfl rfl (fun hc => t ((tr_eq hc).1 rfl)) (fun hc => f ((tr_eq hc).2 rfl))
theorem sg_law_1286 {g : tr_g} {d : Nat} {h : ev_AH} {r : ev_O × ev_AH} {w0 w1 w2 w3 w4 w5 w6 w7 w8 : Option Value} (hL : hh_L h) (hr : r = (.inl (some (.int 0)), h)) : tr_L g d m_law 1286 [w0, w1, w2, w3, w4, w5, w6, w7, w8] [] h r := by
  refine tr_ic 0 0 (by decide) rfl ?_
  exact tl_ret hL .ireturn 1 (some (.int 0)) rfl rfl rfl rfl hr
theorem sg_law_1288 {g : tr_g} {d : Nat} {h : ev_AH} {r : ev_O × ev_AH} {x5 : Int32} {w6 w7 w8 : Option Value} (hL : hh_L h) (k : tr_L g d m_law 28 [some (.ref 0), some (.ref 1000), some (.ref 1099), some (.ref 1109), some (.ref 1110), some (.int (x5 + 5)), w6, w7, w8] [] h r) : tr_L g d m_law 1288 [some (.ref 0), some (.ref 1000), some (.ref 1099), some (.ref 1109), some (.ref 1110), some (.int x5), w6, w7, w8] [] h r := by
  refine tr_goto 1673 2961 rfl rfl rfl ?_
  refine tr_inc 5 5 x5 5 (by decide) rfl rfl rfl ?_
  refine tr_goto (-2936) 28 rfl rfl rfl ?_
  exact k
theorem sg_law_1291 {g : tr_g} {d : Nat} {h : ev_AH} {r : ev_O × ev_AH} {x5 v0 v1 v2 : Int32} {w6 w7 w8 : Option Value} {j0 j1 j2 j3 : Nat} {h1 h2 h3 : ev_AH} (hL : hh_L h) (e0 : x5 + 1 = Int32.ofNat j0) (b0 : j0 < g.1.length) (z0 : g.1.length < 2147483648) (e1 : x5 + 2 = Int32.ofNat j1) (b1 : j1 < g.1.length) (z1 : g.1.length < 2147483648) (c_0 : tr_L g d m_L_testify 0 [some (.ref 1000), some (.int (g.1.getD j0 0)), some (.int (((g.1.getD j1 0).toUInt32 % 65536).toInt32)), some (.ref 1109), none] [] h (.inl (some (.int v0)), h1)) (e2 : x5 + 1 = Int32.ofNat j2) (b2 : j2 < g.1.length) (z2 : g.1.length < 2147483648) (e3 : x5 + 2 = Int32.ofNat j3) (b3 : j3 < g.1.length) (z3 : g.1.length < 2147483648) (c_1 : tr_L g d m_X9_testify 0 [some (.ref 1099), some (.int (g.1.getD j2 0)), some (.int (((g.1.getD j3 0).toUInt32 % 65536).toInt32))] [] h1 (.inl (some (.int v1)), h2)) (c_2 : tr_L g d m_X9_thrown 0 [some (.ref 1099)] [] h2 (.inl (some (.int v2)), h3)) (t : v2 = v0 → tr_L g (d + 1) m_law 1341 [some (.ref 0), some (.ref 1000), some (.ref 1099), some (.ref 1109), some (.ref 1110), some (.int x5), some (.int v0), some (.int v1), w8] [] h3 r) (f : v2 ≠ v0 → tr_L g (d + 1) m_law 1339 [some (.ref 0), some (.ref 1000), some (.ref 1099), some (.ref 1109), some (.ref 1110), some (.int x5), some (.int v0), some (.int v1), w8] [] h3 r) : tr_L g (d + 1) m_law 1291 [some (.ref 0), some (.ref 1000), some (.ref 1099), some (.ref 1109), some (.ref 1110), some (.int x5), w6, w7, w8] [] h r := by
  refine tr_s (.aload_n 1) 1 1292 [some (.ref 0), some (.ref 1000), some (.ref 1099), some (.ref 1109), some (.ref 1110), some (.int x5), w6, w7, w8] [.ref 1000] h rfl rfl rfl ?_
  refine tr_s (.aload_n 0) 1 1293 [some (.ref 0), some (.ref 1000), some (.ref 1099), some (.ref 1109), some (.ref 1110), some (.int x5), w6, w7, w8] [.ref 0, .ref 1000] h rfl rfl rfl ?_
  refine tr_s (.iload 5) 2 1295 [some (.ref 0), some (.ref 1000), some (.ref 1099), some (.ref 1109), some (.ref 1110), some (.int x5), w6, w7, w8] [.int x5, .ref 0, .ref 1000] h rfl rfl rfl ?_
  refine tr_ic 1 1 (by decide) rfl ?_
  refine tr_s .iadd 1 1297 [some (.ref 0), some (.ref 1000), some (.ref 1099), some (.ref 1109), some (.ref 1110), some (.int x5), w6, w7, w8] [.int (x5 + 1), .ref 0, .ref 1000] h rfl rfl rfl ?_
  refine tr_ald .iaload 0 0 j0 (x5 + 1) g.1 (Or.inl ⟨rfl, rfl⟩) rfl rfl e0 b0 z0 ?_
  refine tr_s (.aload_n 0) 1 1299 [some (.ref 0), some (.ref 1000), some (.ref 1099), some (.ref 1109), some (.ref 1110), some (.int x5), w6, w7, w8] [.ref 0, .int (g.1.getD j0 0), .ref 1000] h rfl rfl rfl ?_
  refine tr_s (.iload 5) 2 1301 [some (.ref 0), some (.ref 1000), some (.ref 1099), some (.ref 1109), some (.ref 1110), some (.int x5), w6, w7, w8] [.int x5, .ref 0, .int (g.1.getD j0 0), .ref 1000] h rfl rfl rfl ?_
  refine tr_ic 2 2 (by decide) rfl ?_
  refine tr_s .iadd 1 1303 [some (.ref 0), some (.ref 1000), some (.ref 1099), some (.ref 1109), some (.ref 1110), some (.int x5), w6, w7, w8] [.int (x5 + 2), .ref 0, .int (g.1.getD j0 0), .ref 1000] h rfl rfl rfl ?_
  refine tr_ald .iaload 0 0 j1 (x5 + 2) g.1 (Or.inl ⟨rfl, rfl⟩) rfl rfl e1 b1 z1 ?_
  refine tr_s .i2c 1 1305 [some (.ref 0), some (.ref 1000), some (.ref 1099), some (.ref 1109), some (.ref 1110), some (.int x5), w6, w7, w8] [.int (((g.1.getD j1 0).toUInt32 % 65536).toInt32), .int (g.1.getD j0 0), .ref 1000] h rfl rfl rfl ?_
  refine tr_s (.aload_n 3) 1 1306 [some (.ref 0), some (.ref 1000), some (.ref 1099), some (.ref 1109), some (.ref 1110), some (.int x5), w6, w7, w8] [.ref 1109, .int (((g.1.getD j1 0).toUInt32 % 65536).toInt32), .int (g.1.getD j0 0), .ref 1000] h rfl rfl rfl ?_
  refine tr_call (.invokestatic 235) 235 8 4 0 m_L_testify [.ref 1000, .int (g.1.getD j0 0), .int (((g.1.getD j1 0).toUInt32 % 65536).toInt32), .ref 1109] [] (some (.int v0)) h1 rfl rfl rfl rfl rfl rfl rfl rfl rfl (tr_cok rfl (Or.inl rfl)) c_0 ?_
  have hL0 := c_0.2
  refine tr_st (.istore 6) 2 6 0 (.int v0) rfl rfl rfl rfl rfl rfl rfl ?_
  refine tr_s (.aload_n 2) 1 1312 [some (.ref 0), some (.ref 1000), some (.ref 1099), some (.ref 1109), some (.ref 1110), some (.int x5), some (.int v0), w7, w8] [.ref 1099] h1 rfl rfl rfl ?_
  refine tr_s (.aload_n 0) 1 1313 [some (.ref 0), some (.ref 1000), some (.ref 1099), some (.ref 1109), some (.ref 1110), some (.int x5), some (.int v0), w7, w8] [.ref 0, .ref 1099] h1 rfl rfl rfl ?_
  refine tr_s (.iload 5) 2 1315 [some (.ref 0), some (.ref 1000), some (.ref 1099), some (.ref 1109), some (.ref 1110), some (.int x5), some (.int v0), w7, w8] [.int x5, .ref 0, .ref 1099] h1 rfl rfl rfl ?_
  refine tr_ic 1 1 (by decide) rfl ?_
  refine tr_s .iadd 1 1317 [some (.ref 0), some (.ref 1000), some (.ref 1099), some (.ref 1109), some (.ref 1110), some (.int x5), some (.int v0), w7, w8] [.int (x5 + 1), .ref 0, .ref 1099] h1 rfl rfl rfl ?_
  refine tr_ald .iaload 0 0 j2 (x5 + 1) g.1 (Or.inl ⟨rfl, rfl⟩) rfl rfl e2 b2 z2 ?_
  refine tr_s (.aload_n 0) 1 1319 [some (.ref 0), some (.ref 1000), some (.ref 1099), some (.ref 1109), some (.ref 1110), some (.int x5), some (.int v0), w7, w8] [.ref 0, .int (g.1.getD j2 0), .ref 1099] h1 rfl rfl rfl ?_
  refine tr_s (.iload 5) 2 1321 [some (.ref 0), some (.ref 1000), some (.ref 1099), some (.ref 1109), some (.ref 1110), some (.int x5), some (.int v0), w7, w8] [.int x5, .ref 0, .int (g.1.getD j2 0), .ref 1099] h1 rfl rfl rfl ?_
  refine tr_ic 2 2 (by decide) rfl ?_
  refine tr_s .iadd 1 1323 [some (.ref 0), some (.ref 1000), some (.ref 1099), some (.ref 1109), some (.ref 1110), some (.int x5), some (.int v0), w7, w8] [.int (x5 + 2), .ref 0, .int (g.1.getD j2 0), .ref 1099] h1 rfl rfl rfl ?_
  refine tr_ald .iaload 0 0 j3 (x5 + 2) g.1 (Or.inl ⟨rfl, rfl⟩) rfl rfl e3 b3 z3 ?_
  refine tr_s .i2c 1 1325 [some (.ref 0), some (.ref 1000), some (.ref 1099), some (.ref 1109), some (.ref 1110), some (.int x5), some (.int v0), w7, w8] [.int (((g.1.getD j3 0).toUInt32 % 65536).toInt32), .int (g.1.getD j2 0), .ref 1099] h1 rfl rfl rfl ?_
  refine tr_call (.invokevirtual 237) 237 0 2 8 m_X9_testify [.ref 1099, .int (g.1.getD j2 0), .int (((g.1.getD j3 0).toUInt32 % 65536).toInt32)] [] (some (.int v1)) h2 rfl rfl rfl rfl rfl rfl rfl rfl rfl (tr_cok rfl (Or.inr ⟨_, _, rfl, tr_rc (hh_rd (hh_obj hL0 (k := 99) rfl).1) (by decide)⟩)) c_1 ?_
  have hL1 := c_1.2
  refine tr_st (.istore 7) 2 7 0 (.int v1) rfl rfl rfl rfl rfl rfl rfl ?_
  refine tr_s (.aload_n 2) 1 1331 [some (.ref 0), some (.ref 1000), some (.ref 1099), some (.ref 1109), some (.ref 1110), some (.int x5), some (.int v0), some (.int v1), w8] [.ref 1099] h2 rfl rfl rfl ?_
  refine tr_call (.invokevirtual 180) 180 0 0 8 m_X9_thrown [.ref 1099] [] (some (.int v2)) h3 rfl rfl rfl rfl rfl rfl rfl rfl rfl (tr_cok rfl (Or.inr ⟨_, _, rfl, tr_rc (hh_rd (hh_obj hL1 (k := 99) rfl).1) (by decide)⟩)) c_2 ?_
  have hL2 := c_2.2
  refine tr_s (.iload 6) 2 1336 [some (.ref 0), some (.ref 1000), some (.ref 1099), some (.ref 1109), some (.ref 1110), some (.int x5), some (.int v0), some (.int v1), w8] [.int v0, .int v2] h3 rfl rfl rfl ?_
  exact tr_if2 .eq 5 1341 v2 v0 rfl rfl rfl (fun hc => t ((tr_eq hc).1 rfl)) (fun hc => f ((tr_eq hc).2 rfl))
theorem sg_law_1339 {g : tr_g} {d : Nat} {h : ev_AH} {r : ev_O × ev_AH} {w0 w1 w2 w3 w4 w5 w6 w7 w8 : Option Value} (hL : hh_L h) (hr : r = (.inl (some (.int 0)), h)) : tr_L g d m_law 1339 [w0, w1, w2, w3, w4, w5, w6, w7, w8] [] h r := by
  refine tr_ic 0 0 (by decide) rfl ?_
  exact tl_ret hL .ireturn 1 (some (.int 0)) rfl rfl rfl rfl hr
theorem sg_law_1341 {g : tr_g} {d : Nat} {h : ev_AH} {r : ev_O × ev_AH} {x5 x6 x7 : Int32} {w8 : Option Value} (hL : hh_L h) (t : x6 ≠ 0 → tr_L g d m_law 1358 [some (.ref 0), some (.ref 1000), some (.ref 1099), some (.ref 1109), some (.ref 1110), some (.int x5), some (.int x6), some (.int x7), w8] [] h r) (f : x6 = 0 → tr_L g d m_law 1346 [some (.ref 0), some (.ref 1000), some (.ref 1099), some (.ref 1109), some (.ref 1110), some (.int x5), some (.int x6), some (.int x7), w8] [] h r) : tr_L g d m_law 1341 [some (.ref 0), some (.ref 1000), some (.ref 1099), some (.ref 1109), some (.ref 1110), some (.int x5), some (.int x6), some (.int x7), w8] [] h r := by
  refine tr_s (.iload 6) 2 1343 [some (.ref 0), some (.ref 1000), some (.ref 1099), some (.ref 1109), some (.ref 1110), some (.int x5), some (.int x6), some (.int x7), w8] [.int x6] h rfl rfl rfl ?_
  exact tr_if1 .ne 15 1358 x6 rfl rfl rfl (fun hc => t ((tr_ne hc).1 rfl)) (fun hc => f ((tr_ne hc).2 rfl))
theorem sg_law_1346 {g : tr_g} {d : Nat} {h : ev_AH} {r : ev_O × ev_AH} {x5 x7 : Int32} {w6 w8 : Option Value} {u0 : Int64} (hL : hh_L h) (p0 : (hh_v h 109)[0]? = some (.long u0)) (t : (lg_cmp u0 x7.toInt64) = 0 → tr_L g d m_law 1358 [some (.ref 0), some (.ref 1000), some (.ref 1099), some (.ref 1109), some (.ref 1110), some (.int x5), w6, some (.int x7), w8] [] h r) (f : (lg_cmp u0 x7.toInt64) ≠ 0 → tr_L g d m_law 1356 [some (.ref 0), some (.ref 1000), some (.ref 1099), some (.ref 1109), some (.ref 1110), some (.int x5), w6, some (.int x7), w8] [] h r) : tr_L g d m_law 1346 [some (.ref 0), some (.ref 1000), some (.ref 1099), some (.ref 1109), some (.ref 1110), some (.int x5), w6, some (.int x7), w8] [] h r := by
  refine tr_s (.aload_n 3) 1 1347 [some (.ref 0), some (.ref 1000), some (.ref 1099), some (.ref 1109), some (.ref 1110), some (.int x5), w6, some (.int x7), w8] [.ref 1109] h rfl rfl rfl ?_
  refine tr_ic 0 0 (by decide) rfl ?_
  refine tr_lald 1109 u0 _ rfl (by decide) (hh_rd (hh_obj hL (k := 109) rfl).1) (hh_obj hL (k := 109) rfl).2 p0 ?_
  refine tr_s (.iload 7) 2 1351 [some (.ref 0), some (.ref 1000), some (.ref 1099), some (.ref 1109), some (.ref 1110), some (.int x5), w6, some (.int x7), w8] [.int x7, .long u0] h rfl rfl rfl ?_
  refine tr_s .i2l 1 1352 [some (.ref 0), some (.ref 1000), some (.ref 1099), some (.ref 1109), some (.ref 1110), some (.int x5), w6, some (.int x7), w8] [.long x7.toInt64, .long u0] h rfl rfl rfl ?_
  refine tr_s .lcmp 1 1353 [some (.ref 0), some (.ref 1000), some (.ref 1099), some (.ref 1109), some (.ref 1110), some (.int x5), w6, some (.int x7), w8] [.int (lg_cmp u0 x7.toInt64)] h rfl rfl rfl ?_
  exact tr_if1 .eq 5 1358 (lg_cmp u0 x7.toInt64) rfl rfl rfl (fun hc => t ((tr_eq hc).1 rfl)) (fun hc => f ((tr_eq hc).2 rfl))
theorem sg_law_1356 {g : tr_g} {d : Nat} {h : ev_AH} {r : ev_O × ev_AH} {w0 w1 w2 w3 w4 w5 w6 w7 w8 : Option Value} (hL : hh_L h) (hr : r = (.inl (some (.int 0)), h)) : tr_L g d m_law 1356 [w0, w1, w2, w3, w4, w5, w6, w7, w8] [] h r := by
  refine tr_ic 0 0 (by decide) rfl ?_
  exact tl_ret hL .ireturn 1 (some (.int 0)) rfl rfl rfl rfl hr
theorem sg_law_1358 {g : tr_g} {d : Nat} {h : ev_AH} {r : ev_O × ev_AH} {x5 : Int32} {w6 w7 w8 : Option Value} (hL : hh_L h) (k : tr_L g d m_law 28 [some (.ref 0), some (.ref 1000), some (.ref 1099), some (.ref 1109), some (.ref 1110), some (.int (x5 + 5)), w6, w7, w8] [] h r) : tr_L g d m_law 1358 [some (.ref 0), some (.ref 1000), some (.ref 1099), some (.ref 1109), some (.ref 1110), some (.int x5), w6, w7, w8] [] h r := by
  refine tr_goto 1603 2961 rfl rfl rfl ?_
  refine tr_inc 5 5 x5 5 (by decide) rfl rfl rfl ?_
  refine tr_goto (-2936) 28 rfl rfl rfl ?_
  exact k
theorem sg_law_1361 {g : tr_g} {d : Nat} {h : ev_AH} {r : ev_O × ev_AH} {x5 v0 v1 v2 : Int32} {w6 w7 w8 : Option Value} {j0 j1 : Nat} {h1 h2 h3 : ev_AH} (hL : hh_L h) (e0 : x5 + 1 = Int32.ofNat j0) (b0 : j0 < g.1.length) (z0 : g.1.length < 2147483648) (c_0 : tr_L g d m_L_firstVotes 0 [some (.ref 1000), some (.int (((g.1.getD j0 0).toUInt32 % 65536).toInt32)), some (.ref 1109), none] [] h (.inl (some (.int v0)), h1)) (e1 : x5 + 1 = Int32.ofNat j1) (b1 : j1 < g.1.length) (z1 : g.1.length < 2147483648) (c_1 : tr_L g d m_X9_firstVotes 0 [some (.ref 1099), some (.int (((g.1.getD j1 0).toUInt32 % 65536).toInt32))] [] h1 (.inl (some (.int v1)), h2)) (c_2 : tr_L g d m_X9_thrown 0 [some (.ref 1099)] [] h2 (.inl (some (.int v2)), h3)) (t : v2 = v0 → tr_L g (d + 1) m_law 1399 [some (.ref 0), some (.ref 1000), some (.ref 1099), some (.ref 1109), some (.ref 1110), some (.int x5), some (.int v0), some (.int v1), w8] [] h3 r) (f : v2 ≠ v0 → tr_L g (d + 1) m_law 1397 [some (.ref 0), some (.ref 1000), some (.ref 1099), some (.ref 1109), some (.ref 1110), some (.int x5), some (.int v0), some (.int v1), w8] [] h3 r) : tr_L g (d + 1) m_law 1361 [some (.ref 0), some (.ref 1000), some (.ref 1099), some (.ref 1109), some (.ref 1110), some (.int x5), w6, w7, w8] [] h r := by
  refine tr_s (.aload_n 1) 1 1362 [some (.ref 0), some (.ref 1000), some (.ref 1099), some (.ref 1109), some (.ref 1110), some (.int x5), w6, w7, w8] [.ref 1000] h rfl rfl rfl ?_
  refine tr_s (.aload_n 0) 1 1363 [some (.ref 0), some (.ref 1000), some (.ref 1099), some (.ref 1109), some (.ref 1110), some (.int x5), w6, w7, w8] [.ref 0, .ref 1000] h rfl rfl rfl ?_
  refine tr_s (.iload 5) 2 1365 [some (.ref 0), some (.ref 1000), some (.ref 1099), some (.ref 1109), some (.ref 1110), some (.int x5), w6, w7, w8] [.int x5, .ref 0, .ref 1000] h rfl rfl rfl ?_
  refine tr_ic 1 1 (by decide) rfl ?_
  refine tr_s .iadd 1 1367 [some (.ref 0), some (.ref 1000), some (.ref 1099), some (.ref 1109), some (.ref 1110), some (.int x5), w6, w7, w8] [.int (x5 + 1), .ref 0, .ref 1000] h rfl rfl rfl ?_
  refine tr_ald .iaload 0 0 j0 (x5 + 1) g.1 (Or.inl ⟨rfl, rfl⟩) rfl rfl e0 b0 z0 ?_
  refine tr_s .i2c 1 1369 [some (.ref 0), some (.ref 1000), some (.ref 1099), some (.ref 1109), some (.ref 1110), some (.int x5), w6, w7, w8] [.int (((g.1.getD j0 0).toUInt32 % 65536).toInt32), .ref 1000] h rfl rfl rfl ?_
  refine tr_s (.aload_n 3) 1 1370 [some (.ref 0), some (.ref 1000), some (.ref 1099), some (.ref 1109), some (.ref 1110), some (.int x5), w6, w7, w8] [.ref 1109, .int (((g.1.getD j0 0).toUInt32 % 65536).toInt32), .ref 1000] h rfl rfl rfl ?_
  refine tr_call (.invokestatic 238) 238 8 3 0 m_L_firstVotes [.ref 1000, .int (((g.1.getD j0 0).toUInt32 % 65536).toInt32), .ref 1109] [] (some (.int v0)) h1 rfl rfl rfl rfl rfl rfl rfl rfl rfl (tr_cok rfl (Or.inl rfl)) c_0 ?_
  have hL0 := c_0.2
  refine tr_st (.istore 6) 2 6 0 (.int v0) rfl rfl rfl rfl rfl rfl rfl ?_
  refine tr_s (.aload_n 2) 1 1376 [some (.ref 0), some (.ref 1000), some (.ref 1099), some (.ref 1109), some (.ref 1110), some (.int x5), some (.int v0), w7, w8] [.ref 1099] h1 rfl rfl rfl ?_
  refine tr_s (.aload_n 0) 1 1377 [some (.ref 0), some (.ref 1000), some (.ref 1099), some (.ref 1109), some (.ref 1110), some (.int x5), some (.int v0), w7, w8] [.ref 0, .ref 1099] h1 rfl rfl rfl ?_
  refine tr_s (.iload 5) 2 1379 [some (.ref 0), some (.ref 1000), some (.ref 1099), some (.ref 1109), some (.ref 1110), some (.int x5), some (.int v0), w7, w8] [.int x5, .ref 0, .ref 1099] h1 rfl rfl rfl ?_
  refine tr_ic 1 1 (by decide) rfl ?_
  refine tr_s .iadd 1 1381 [some (.ref 0), some (.ref 1000), some (.ref 1099), some (.ref 1109), some (.ref 1110), some (.int x5), some (.int v0), w7, w8] [.int (x5 + 1), .ref 0, .ref 1099] h1 rfl rfl rfl ?_
  refine tr_ald .iaload 0 0 j1 (x5 + 1) g.1 (Or.inl ⟨rfl, rfl⟩) rfl rfl e1 b1 z1 ?_
  refine tr_s .i2c 1 1383 [some (.ref 0), some (.ref 1000), some (.ref 1099), some (.ref 1109), some (.ref 1110), some (.int x5), some (.int v0), w7, w8] [.int (((g.1.getD j1 0).toUInt32 % 65536).toInt32), .ref 1099] h1 rfl rfl rfl ?_
  refine tr_call (.invokevirtual 241) 241 0 1 8 m_X9_firstVotes [.ref 1099, .int (((g.1.getD j1 0).toUInt32 % 65536).toInt32)] [] (some (.int v1)) h2 rfl rfl rfl rfl rfl rfl rfl rfl rfl (tr_cok rfl (Or.inr ⟨_, _, rfl, tr_rc (hh_rd (hh_obj hL0 (k := 99) rfl).1) (by decide)⟩)) c_1 ?_
  have hL1 := c_1.2
  refine tr_st (.istore 7) 2 7 0 (.int v1) rfl rfl rfl rfl rfl rfl rfl ?_
  refine tr_s (.aload_n 2) 1 1389 [some (.ref 0), some (.ref 1000), some (.ref 1099), some (.ref 1109), some (.ref 1110), some (.int x5), some (.int v0), some (.int v1), w8] [.ref 1099] h2 rfl rfl rfl ?_
  refine tr_call (.invokevirtual 180) 180 0 0 8 m_X9_thrown [.ref 1099] [] (some (.int v2)) h3 rfl rfl rfl rfl rfl rfl rfl rfl rfl (tr_cok rfl (Or.inr ⟨_, _, rfl, tr_rc (hh_rd (hh_obj hL1 (k := 99) rfl).1) (by decide)⟩)) c_2 ?_
  have hL2 := c_2.2
  refine tr_s (.iload 6) 2 1394 [some (.ref 0), some (.ref 1000), some (.ref 1099), some (.ref 1109), some (.ref 1110), some (.int x5), some (.int v0), some (.int v1), w8] [.int v0, .int v2] h3 rfl rfl rfl ?_
  exact tr_if2 .eq 5 1399 v2 v0 rfl rfl rfl (fun hc => t ((tr_eq hc).1 rfl)) (fun hc => f ((tr_eq hc).2 rfl))
theorem sg_law_1397 {g : tr_g} {d : Nat} {h : ev_AH} {r : ev_O × ev_AH} {w0 w1 w2 w3 w4 w5 w6 w7 w8 : Option Value} (hL : hh_L h) (hr : r = (.inl (some (.int 0)), h)) : tr_L g d m_law 1397 [w0, w1, w2, w3, w4, w5, w6, w7, w8] [] h r := by
  refine tr_ic 0 0 (by decide) rfl ?_
  exact tl_ret hL .ireturn 1 (some (.int 0)) rfl rfl rfl rfl hr
theorem sg_law_1399 {g : tr_g} {d : Nat} {h : ev_AH} {r : ev_O × ev_AH} {x5 x6 x7 : Int32} {w8 : Option Value} (hL : hh_L h) (t : x6 ≠ 0 → tr_L g d m_law 1416 [some (.ref 0), some (.ref 1000), some (.ref 1099), some (.ref 1109), some (.ref 1110), some (.int x5), some (.int x6), some (.int x7), w8] [] h r) (f : x6 = 0 → tr_L g d m_law 1404 [some (.ref 0), some (.ref 1000), some (.ref 1099), some (.ref 1109), some (.ref 1110), some (.int x5), some (.int x6), some (.int x7), w8] [] h r) : tr_L g d m_law 1399 [some (.ref 0), some (.ref 1000), some (.ref 1099), some (.ref 1109), some (.ref 1110), some (.int x5), some (.int x6), some (.int x7), w8] [] h r := by
  refine tr_s (.iload 6) 2 1401 [some (.ref 0), some (.ref 1000), some (.ref 1099), some (.ref 1109), some (.ref 1110), some (.int x5), some (.int x6), some (.int x7), w8] [.int x6] h rfl rfl rfl ?_
  exact tr_if1 .ne 15 1416 x6 rfl rfl rfl (fun hc => t ((tr_ne hc).1 rfl)) (fun hc => f ((tr_ne hc).2 rfl))
theorem sg_law_1404 {g : tr_g} {d : Nat} {h : ev_AH} {r : ev_O × ev_AH} {x5 x7 : Int32} {w6 w8 : Option Value} {u0 : Int64} (hL : hh_L h) (p0 : (hh_v h 109)[0]? = some (.long u0)) (t : (lg_cmp u0 x7.toInt64) = 0 → tr_L g d m_law 1416 [some (.ref 0), some (.ref 1000), some (.ref 1099), some (.ref 1109), some (.ref 1110), some (.int x5), w6, some (.int x7), w8] [] h r) (f : (lg_cmp u0 x7.toInt64) ≠ 0 → tr_L g d m_law 1414 [some (.ref 0), some (.ref 1000), some (.ref 1099), some (.ref 1109), some (.ref 1110), some (.int x5), w6, some (.int x7), w8] [] h r) : tr_L g d m_law 1404 [some (.ref 0), some (.ref 1000), some (.ref 1099), some (.ref 1109), some (.ref 1110), some (.int x5), w6, some (.int x7), w8] [] h r := by
  refine tr_s (.aload_n 3) 1 1405 [some (.ref 0), some (.ref 1000), some (.ref 1099), some (.ref 1109), some (.ref 1110), some (.int x5), w6, some (.int x7), w8] [.ref 1109] h rfl rfl rfl ?_
  refine tr_ic 0 0 (by decide) rfl ?_
  refine tr_lald 1109 u0 _ rfl (by decide) (hh_rd (hh_obj hL (k := 109) rfl).1) (hh_obj hL (k := 109) rfl).2 p0 ?_
  refine tr_s (.iload 7) 2 1409 [some (.ref 0), some (.ref 1000), some (.ref 1099), some (.ref 1109), some (.ref 1110), some (.int x5), w6, some (.int x7), w8] [.int x7, .long u0] h rfl rfl rfl ?_
  refine tr_s .i2l 1 1410 [some (.ref 0), some (.ref 1000), some (.ref 1099), some (.ref 1109), some (.ref 1110), some (.int x5), w6, some (.int x7), w8] [.long x7.toInt64, .long u0] h rfl rfl rfl ?_
  refine tr_s .lcmp 1 1411 [some (.ref 0), some (.ref 1000), some (.ref 1099), some (.ref 1109), some (.ref 1110), some (.int x5), w6, some (.int x7), w8] [.int (lg_cmp u0 x7.toInt64)] h rfl rfl rfl ?_
  exact tr_if1 .eq 5 1416 (lg_cmp u0 x7.toInt64) rfl rfl rfl (fun hc => t ((tr_eq hc).1 rfl)) (fun hc => f ((tr_eq hc).2 rfl))
theorem sg_law_1414 {g : tr_g} {d : Nat} {h : ev_AH} {r : ev_O × ev_AH} {w0 w1 w2 w3 w4 w5 w6 w7 w8 : Option Value} (hL : hh_L h) (hr : r = (.inl (some (.int 0)), h)) : tr_L g d m_law 1414 [w0, w1, w2, w3, w4, w5, w6, w7, w8] [] h r := by
  refine tr_ic 0 0 (by decide) rfl ?_
  exact tl_ret hL .ireturn 1 (some (.int 0)) rfl rfl rfl rfl hr
theorem sg_law_1416 {g : tr_g} {d : Nat} {h : ev_AH} {r : ev_O × ev_AH} {x5 : Int32} {w6 w7 w8 : Option Value} (hL : hh_L h) (k : tr_L g d m_law 28 [some (.ref 0), some (.ref 1000), some (.ref 1099), some (.ref 1109), some (.ref 1110), some (.int (x5 + 5)), w6, w7, w8] [] h r) : tr_L g d m_law 1416 [some (.ref 0), some (.ref 1000), some (.ref 1099), some (.ref 1109), some (.ref 1110), some (.int x5), w6, w7, w8] [] h r := by
  refine tr_goto 1545 2961 rfl rfl rfl ?_
  refine tr_inc 5 5 x5 5 (by decide) rfl rfl rfl ?_
  refine tr_goto (-2936) 28 rfl rfl rfl ?_
  exact k
theorem sg_law_1419 {g : tr_g} {d : Nat} {h : ev_AH} {r : ev_O × ev_AH} {x5 v0 v1 v2 : Int32} {w6 w7 w8 : Option Value} {j0 j1 j2 j3 : Nat} {h1 h2 h3 : ev_AH} (hL : hh_L h) (e0 : x5 + 1 = Int32.ofNat j0) (b0 : j0 < g.1.length) (z0 : g.1.length < 2147483648) (e1 : x5 + 2 = Int32.ofNat j1) (b1 : j1 < g.1.length) (z1 : g.1.length < 2147483648) (c_0 : tr_L g d m_L_prefer 0 [some (.ref 1000), some (.int (((g.1.getD j0 0).toUInt32 % 65536).toInt32)), some (.int (((g.1.getD j1 0).toUInt32 % 65536).toInt32)), some (.ref 1109), none] [] h (.inl (some (.int v0)), h1)) (e2 : x5 + 1 = Int32.ofNat j2) (b2 : j2 < g.1.length) (z2 : g.1.length < 2147483648) (e3 : x5 + 2 = Int32.ofNat j3) (b3 : j3 < g.1.length) (z3 : g.1.length < 2147483648) (c_1 : tr_L g d m_X9_prefer 0 [some (.ref 1099), some (.int (((g.1.getD j2 0).toUInt32 % 65536).toInt32)), some (.int (((g.1.getD j3 0).toUInt32 % 65536).toInt32))] [] h1 (.inl (some (.int v1)), h2)) (c_2 : tr_L g d m_X9_thrown 0 [some (.ref 1099)] [] h2 (.inl (some (.int v2)), h3)) (t : v2 = v0 → tr_L g (d + 1) m_law 1471 [some (.ref 0), some (.ref 1000), some (.ref 1099), some (.ref 1109), some (.ref 1110), some (.int x5), some (.int v0), some (.int v1), w8] [] h3 r) (f : v2 ≠ v0 → tr_L g (d + 1) m_law 1469 [some (.ref 0), some (.ref 1000), some (.ref 1099), some (.ref 1109), some (.ref 1110), some (.int x5), some (.int v0), some (.int v1), w8] [] h3 r) : tr_L g (d + 1) m_law 1419 [some (.ref 0), some (.ref 1000), some (.ref 1099), some (.ref 1109), some (.ref 1110), some (.int x5), w6, w7, w8] [] h r := by
  refine tr_s (.aload_n 1) 1 1420 [some (.ref 0), some (.ref 1000), some (.ref 1099), some (.ref 1109), some (.ref 1110), some (.int x5), w6, w7, w8] [.ref 1000] h rfl rfl rfl ?_
  refine tr_s (.aload_n 0) 1 1421 [some (.ref 0), some (.ref 1000), some (.ref 1099), some (.ref 1109), some (.ref 1110), some (.int x5), w6, w7, w8] [.ref 0, .ref 1000] h rfl rfl rfl ?_
  refine tr_s (.iload 5) 2 1423 [some (.ref 0), some (.ref 1000), some (.ref 1099), some (.ref 1109), some (.ref 1110), some (.int x5), w6, w7, w8] [.int x5, .ref 0, .ref 1000] h rfl rfl rfl ?_
  refine tr_ic 1 1 (by decide) rfl ?_
  refine tr_s .iadd 1 1425 [some (.ref 0), some (.ref 1000), some (.ref 1099), some (.ref 1109), some (.ref 1110), some (.int x5), w6, w7, w8] [.int (x5 + 1), .ref 0, .ref 1000] h rfl rfl rfl ?_
  refine tr_ald .iaload 0 0 j0 (x5 + 1) g.1 (Or.inl ⟨rfl, rfl⟩) rfl rfl e0 b0 z0 ?_
  refine tr_s .i2c 1 1427 [some (.ref 0), some (.ref 1000), some (.ref 1099), some (.ref 1109), some (.ref 1110), some (.int x5), w6, w7, w8] [.int (((g.1.getD j0 0).toUInt32 % 65536).toInt32), .ref 1000] h rfl rfl rfl ?_
  refine tr_s (.aload_n 0) 1 1428 [some (.ref 0), some (.ref 1000), some (.ref 1099), some (.ref 1109), some (.ref 1110), some (.int x5), w6, w7, w8] [.ref 0, .int (((g.1.getD j0 0).toUInt32 % 65536).toInt32), .ref 1000] h rfl rfl rfl ?_
  refine tr_s (.iload 5) 2 1430 [some (.ref 0), some (.ref 1000), some (.ref 1099), some (.ref 1109), some (.ref 1110), some (.int x5), w6, w7, w8] [.int x5, .ref 0, .int (((g.1.getD j0 0).toUInt32 % 65536).toInt32), .ref 1000] h rfl rfl rfl ?_
  refine tr_ic 2 2 (by decide) rfl ?_
  refine tr_s .iadd 1 1432 [some (.ref 0), some (.ref 1000), some (.ref 1099), some (.ref 1109), some (.ref 1110), some (.int x5), w6, w7, w8] [.int (x5 + 2), .ref 0, .int (((g.1.getD j0 0).toUInt32 % 65536).toInt32), .ref 1000] h rfl rfl rfl ?_
  refine tr_ald .iaload 0 0 j1 (x5 + 2) g.1 (Or.inl ⟨rfl, rfl⟩) rfl rfl e1 b1 z1 ?_
  refine tr_s .i2c 1 1434 [some (.ref 0), some (.ref 1000), some (.ref 1099), some (.ref 1109), some (.ref 1110), some (.int x5), w6, w7, w8] [.int (((g.1.getD j1 0).toUInt32 % 65536).toInt32), .int (((g.1.getD j0 0).toUInt32 % 65536).toInt32), .ref 1000] h rfl rfl rfl ?_
  refine tr_s (.aload_n 3) 1 1435 [some (.ref 0), some (.ref 1000), some (.ref 1099), some (.ref 1109), some (.ref 1110), some (.int x5), w6, w7, w8] [.ref 1109, .int (((g.1.getD j1 0).toUInt32 % 65536).toInt32), .int (((g.1.getD j0 0).toUInt32 % 65536).toInt32), .ref 1000] h rfl rfl rfl ?_
  refine tr_call (.invokestatic 242) 242 8 4 0 m_L_prefer [.ref 1000, .int (((g.1.getD j0 0).toUInt32 % 65536).toInt32), .int (((g.1.getD j1 0).toUInt32 % 65536).toInt32), .ref 1109] [] (some (.int v0)) h1 rfl rfl rfl rfl rfl rfl rfl rfl rfl (tr_cok rfl (Or.inl rfl)) c_0 ?_
  have hL0 := c_0.2
  refine tr_st (.istore 6) 2 6 0 (.int v0) rfl rfl rfl rfl rfl rfl rfl ?_
  refine tr_s (.aload_n 2) 1 1441 [some (.ref 0), some (.ref 1000), some (.ref 1099), some (.ref 1109), some (.ref 1110), some (.int x5), some (.int v0), w7, w8] [.ref 1099] h1 rfl rfl rfl ?_
  refine tr_s (.aload_n 0) 1 1442 [some (.ref 0), some (.ref 1000), some (.ref 1099), some (.ref 1109), some (.ref 1110), some (.int x5), some (.int v0), w7, w8] [.ref 0, .ref 1099] h1 rfl rfl rfl ?_
  refine tr_s (.iload 5) 2 1444 [some (.ref 0), some (.ref 1000), some (.ref 1099), some (.ref 1109), some (.ref 1110), some (.int x5), some (.int v0), w7, w8] [.int x5, .ref 0, .ref 1099] h1 rfl rfl rfl ?_
  refine tr_ic 1 1 (by decide) rfl ?_
  refine tr_s .iadd 1 1446 [some (.ref 0), some (.ref 1000), some (.ref 1099), some (.ref 1109), some (.ref 1110), some (.int x5), some (.int v0), w7, w8] [.int (x5 + 1), .ref 0, .ref 1099] h1 rfl rfl rfl ?_
  refine tr_ald .iaload 0 0 j2 (x5 + 1) g.1 (Or.inl ⟨rfl, rfl⟩) rfl rfl e2 b2 z2 ?_
  refine tr_s .i2c 1 1448 [some (.ref 0), some (.ref 1000), some (.ref 1099), some (.ref 1109), some (.ref 1110), some (.int x5), some (.int v0), w7, w8] [.int (((g.1.getD j2 0).toUInt32 % 65536).toInt32), .ref 1099] h1 rfl rfl rfl ?_
  refine tr_s (.aload_n 0) 1 1449 [some (.ref 0), some (.ref 1000), some (.ref 1099), some (.ref 1109), some (.ref 1110), some (.int x5), some (.int v0), w7, w8] [.ref 0, .int (((g.1.getD j2 0).toUInt32 % 65536).toInt32), .ref 1099] h1 rfl rfl rfl ?_
  refine tr_s (.iload 5) 2 1451 [some (.ref 0), some (.ref 1000), some (.ref 1099), some (.ref 1109), some (.ref 1110), some (.int x5), some (.int v0), w7, w8] [.int x5, .ref 0, .int (((g.1.getD j2 0).toUInt32 % 65536).toInt32), .ref 1099] h1 rfl rfl rfl ?_
  refine tr_ic 2 2 (by decide) rfl ?_
  refine tr_s .iadd 1 1453 [some (.ref 0), some (.ref 1000), some (.ref 1099), some (.ref 1109), some (.ref 1110), some (.int x5), some (.int v0), w7, w8] [.int (x5 + 2), .ref 0, .int (((g.1.getD j2 0).toUInt32 % 65536).toInt32), .ref 1099] h1 rfl rfl rfl ?_
  refine tr_ald .iaload 0 0 j3 (x5 + 2) g.1 (Or.inl ⟨rfl, rfl⟩) rfl rfl e3 b3 z3 ?_
  refine tr_s .i2c 1 1455 [some (.ref 0), some (.ref 1000), some (.ref 1099), some (.ref 1109), some (.ref 1110), some (.int x5), some (.int v0), w7, w8] [.int (((g.1.getD j3 0).toUInt32 % 65536).toInt32), .int (((g.1.getD j2 0).toUInt32 % 65536).toInt32), .ref 1099] h1 rfl rfl rfl ?_
  refine tr_call (.invokevirtual 245) 245 0 2 8 m_X9_prefer [.ref 1099, .int (((g.1.getD j2 0).toUInt32 % 65536).toInt32), .int (((g.1.getD j3 0).toUInt32 % 65536).toInt32)] [] (some (.int v1)) h2 rfl rfl rfl rfl rfl rfl rfl rfl rfl (tr_cok rfl (Or.inr ⟨_, _, rfl, tr_rc (hh_rd (hh_obj hL0 (k := 99) rfl).1) (by decide)⟩)) c_1 ?_
  have hL1 := c_1.2
  refine tr_st (.istore 7) 2 7 0 (.int v1) rfl rfl rfl rfl rfl rfl rfl ?_
  refine tr_s (.aload_n 2) 1 1461 [some (.ref 0), some (.ref 1000), some (.ref 1099), some (.ref 1109), some (.ref 1110), some (.int x5), some (.int v0), some (.int v1), w8] [.ref 1099] h2 rfl rfl rfl ?_
  refine tr_call (.invokevirtual 180) 180 0 0 8 m_X9_thrown [.ref 1099] [] (some (.int v2)) h3 rfl rfl rfl rfl rfl rfl rfl rfl rfl (tr_cok rfl (Or.inr ⟨_, _, rfl, tr_rc (hh_rd (hh_obj hL1 (k := 99) rfl).1) (by decide)⟩)) c_2 ?_
  have hL2 := c_2.2
  refine tr_s (.iload 6) 2 1466 [some (.ref 0), some (.ref 1000), some (.ref 1099), some (.ref 1109), some (.ref 1110), some (.int x5), some (.int v0), some (.int v1), w8] [.int v0, .int v2] h3 rfl rfl rfl ?_
  exact tr_if2 .eq 5 1471 v2 v0 rfl rfl rfl (fun hc => t ((tr_eq hc).1 rfl)) (fun hc => f ((tr_eq hc).2 rfl))
theorem sg_law_1469 {g : tr_g} {d : Nat} {h : ev_AH} {r : ev_O × ev_AH} {w0 w1 w2 w3 w4 w5 w6 w7 w8 : Option Value} (hL : hh_L h) (hr : r = (.inl (some (.int 0)), h)) : tr_L g d m_law 1469 [w0, w1, w2, w3, w4, w5, w6, w7, w8] [] h r := by
  refine tr_ic 0 0 (by decide) rfl ?_
  exact tl_ret hL .ireturn 1 (some (.int 0)) rfl rfl rfl rfl hr
theorem sg_law_1471 {g : tr_g} {d : Nat} {h : ev_AH} {r : ev_O × ev_AH} {x5 x6 x7 : Int32} {w8 : Option Value} (hL : hh_L h) (t : x6 ≠ 0 → tr_L g d m_law 1488 [some (.ref 0), some (.ref 1000), some (.ref 1099), some (.ref 1109), some (.ref 1110), some (.int x5), some (.int x6), some (.int x7), w8] [] h r) (f : x6 = 0 → tr_L g d m_law 1476 [some (.ref 0), some (.ref 1000), some (.ref 1099), some (.ref 1109), some (.ref 1110), some (.int x5), some (.int x6), some (.int x7), w8] [] h r) : tr_L g d m_law 1471 [some (.ref 0), some (.ref 1000), some (.ref 1099), some (.ref 1109), some (.ref 1110), some (.int x5), some (.int x6), some (.int x7), w8] [] h r := by
  refine tr_s (.iload 6) 2 1473 [some (.ref 0), some (.ref 1000), some (.ref 1099), some (.ref 1109), some (.ref 1110), some (.int x5), some (.int x6), some (.int x7), w8] [.int x6] h rfl rfl rfl ?_
  exact tr_if1 .ne 15 1488 x6 rfl rfl rfl (fun hc => t ((tr_ne hc).1 rfl)) (fun hc => f ((tr_ne hc).2 rfl))
theorem sg_law_1476 {g : tr_g} {d : Nat} {h : ev_AH} {r : ev_O × ev_AH} {x5 x7 : Int32} {w6 w8 : Option Value} {u0 : Int64} (hL : hh_L h) (p0 : (hh_v h 109)[0]? = some (.long u0)) (t : (lg_cmp u0 x7.toInt64) = 0 → tr_L g d m_law 1488 [some (.ref 0), some (.ref 1000), some (.ref 1099), some (.ref 1109), some (.ref 1110), some (.int x5), w6, some (.int x7), w8] [] h r) (f : (lg_cmp u0 x7.toInt64) ≠ 0 → tr_L g d m_law 1486 [some (.ref 0), some (.ref 1000), some (.ref 1099), some (.ref 1109), some (.ref 1110), some (.int x5), w6, some (.int x7), w8] [] h r) : tr_L g d m_law 1476 [some (.ref 0), some (.ref 1000), some (.ref 1099), some (.ref 1109), some (.ref 1110), some (.int x5), w6, some (.int x7), w8] [] h r := by
  refine tr_s (.aload_n 3) 1 1477 [some (.ref 0), some (.ref 1000), some (.ref 1099), some (.ref 1109), some (.ref 1110), some (.int x5), w6, some (.int x7), w8] [.ref 1109] h rfl rfl rfl ?_
  refine tr_ic 0 0 (by decide) rfl ?_
  refine tr_lald 1109 u0 _ rfl (by decide) (hh_rd (hh_obj hL (k := 109) rfl).1) (hh_obj hL (k := 109) rfl).2 p0 ?_
  refine tr_s (.iload 7) 2 1481 [some (.ref 0), some (.ref 1000), some (.ref 1099), some (.ref 1109), some (.ref 1110), some (.int x5), w6, some (.int x7), w8] [.int x7, .long u0] h rfl rfl rfl ?_
  refine tr_s .i2l 1 1482 [some (.ref 0), some (.ref 1000), some (.ref 1099), some (.ref 1109), some (.ref 1110), some (.int x5), w6, some (.int x7), w8] [.long x7.toInt64, .long u0] h rfl rfl rfl ?_
  refine tr_s .lcmp 1 1483 [some (.ref 0), some (.ref 1000), some (.ref 1099), some (.ref 1109), some (.ref 1110), some (.int x5), w6, some (.int x7), w8] [.int (lg_cmp u0 x7.toInt64)] h rfl rfl rfl ?_
  exact tr_if1 .eq 5 1488 (lg_cmp u0 x7.toInt64) rfl rfl rfl (fun hc => t ((tr_eq hc).1 rfl)) (fun hc => f ((tr_eq hc).2 rfl))
theorem sg_law_1486 {g : tr_g} {d : Nat} {h : ev_AH} {r : ev_O × ev_AH} {w0 w1 w2 w3 w4 w5 w6 w7 w8 : Option Value} (hL : hh_L h) (hr : r = (.inl (some (.int 0)), h)) : tr_L g d m_law 1486 [w0, w1, w2, w3, w4, w5, w6, w7, w8] [] h r := by
  refine tr_ic 0 0 (by decide) rfl ?_
  exact tl_ret hL .ireturn 1 (some (.int 0)) rfl rfl rfl rfl hr
theorem sg_law_1488 {g : tr_g} {d : Nat} {h : ev_AH} {r : ev_O × ev_AH} {x5 : Int32} {w6 w7 w8 : Option Value} (hL : hh_L h) (k : tr_L g d m_law 28 [some (.ref 0), some (.ref 1000), some (.ref 1099), some (.ref 1109), some (.ref 1110), some (.int (x5 + 5)), w6, w7, w8] [] h r) : tr_L g d m_law 1488 [some (.ref 0), some (.ref 1000), some (.ref 1099), some (.ref 1109), some (.ref 1110), some (.int x5), w6, w7, w8] [] h r := by
  refine tr_goto 1473 2961 rfl rfl rfl ?_
  refine tr_inc 5 5 x5 5 (by decide) rfl rfl rfl ?_
  refine tr_goto (-2936) 28 rfl rfl rfl ?_
  exact k
theorem sg_law_1491 {g : tr_g} {d : Nat} {h : ev_AH} {r : ev_O × ev_AH} {x5 v0 v1 v2 : Int32} {w6 w7 w8 : Option Value} {j0 j1 : Nat} {h1 h2 h3 : ev_AH} (hL : hh_L h) (e0 : x5 + 1 = Int32.ofNat j0) (b0 : j0 < g.1.length) (z0 : g.1.length < 2147483648) (c_0 : tr_L g d m_L_pointsOf 0 [some (.ref 1000), some (.int (((g.1.getD j0 0).toUInt32 % 65536).toInt32)), some (.ref 1109), none] [] h (.inl (some (.int v0)), h1)) (e1 : x5 + 1 = Int32.ofNat j1) (b1 : j1 < g.1.length) (z1 : g.1.length < 2147483648) (c_1 : tr_L g d m_X9_pointsOf 0 [some (.ref 1099), some (.int (((g.1.getD j1 0).toUInt32 % 65536).toInt32))] [] h1 (.inl (some (.int v1)), h2)) (c_2 : tr_L g d m_X9_thrown 0 [some (.ref 1099)] [] h2 (.inl (some (.int v2)), h3)) (t : v2 = v0 → tr_L g (d + 1) m_law 1529 [some (.ref 0), some (.ref 1000), some (.ref 1099), some (.ref 1109), some (.ref 1110), some (.int x5), some (.int v0), some (.int v1), w8] [] h3 r) (f : v2 ≠ v0 → tr_L g (d + 1) m_law 1527 [some (.ref 0), some (.ref 1000), some (.ref 1099), some (.ref 1109), some (.ref 1110), some (.int x5), some (.int v0), some (.int v1), w8] [] h3 r) : tr_L g (d + 1) m_law 1491 [some (.ref 0), some (.ref 1000), some (.ref 1099), some (.ref 1109), some (.ref 1110), some (.int x5), w6, w7, w8] [] h r := by
  refine tr_s (.aload_n 1) 1 1492 [some (.ref 0), some (.ref 1000), some (.ref 1099), some (.ref 1109), some (.ref 1110), some (.int x5), w6, w7, w8] [.ref 1000] h rfl rfl rfl ?_
  refine tr_s (.aload_n 0) 1 1493 [some (.ref 0), some (.ref 1000), some (.ref 1099), some (.ref 1109), some (.ref 1110), some (.int x5), w6, w7, w8] [.ref 0, .ref 1000] h rfl rfl rfl ?_
  refine tr_s (.iload 5) 2 1495 [some (.ref 0), some (.ref 1000), some (.ref 1099), some (.ref 1109), some (.ref 1110), some (.int x5), w6, w7, w8] [.int x5, .ref 0, .ref 1000] h rfl rfl rfl ?_
  refine tr_ic 1 1 (by decide) rfl ?_
  refine tr_s .iadd 1 1497 [some (.ref 0), some (.ref 1000), some (.ref 1099), some (.ref 1109), some (.ref 1110), some (.int x5), w6, w7, w8] [.int (x5 + 1), .ref 0, .ref 1000] h rfl rfl rfl ?_
  refine tr_ald .iaload 0 0 j0 (x5 + 1) g.1 (Or.inl ⟨rfl, rfl⟩) rfl rfl e0 b0 z0 ?_
  refine tr_s .i2c 1 1499 [some (.ref 0), some (.ref 1000), some (.ref 1099), some (.ref 1109), some (.ref 1110), some (.int x5), w6, w7, w8] [.int (((g.1.getD j0 0).toUInt32 % 65536).toInt32), .ref 1000] h rfl rfl rfl ?_
  refine tr_s (.aload_n 3) 1 1500 [some (.ref 0), some (.ref 1000), some (.ref 1099), some (.ref 1109), some (.ref 1110), some (.int x5), w6, w7, w8] [.ref 1109, .int (((g.1.getD j0 0).toUInt32 % 65536).toInt32), .ref 1000] h rfl rfl rfl ?_
  refine tr_call (.invokestatic 246) 246 8 3 0 m_L_pointsOf [.ref 1000, .int (((g.1.getD j0 0).toUInt32 % 65536).toInt32), .ref 1109] [] (some (.int v0)) h1 rfl rfl rfl rfl rfl rfl rfl rfl rfl (tr_cok rfl (Or.inl rfl)) c_0 ?_
  have hL0 := c_0.2
  refine tr_st (.istore 6) 2 6 0 (.int v0) rfl rfl rfl rfl rfl rfl rfl ?_
  refine tr_s (.aload_n 2) 1 1506 [some (.ref 0), some (.ref 1000), some (.ref 1099), some (.ref 1109), some (.ref 1110), some (.int x5), some (.int v0), w7, w8] [.ref 1099] h1 rfl rfl rfl ?_
  refine tr_s (.aload_n 0) 1 1507 [some (.ref 0), some (.ref 1000), some (.ref 1099), some (.ref 1109), some (.ref 1110), some (.int x5), some (.int v0), w7, w8] [.ref 0, .ref 1099] h1 rfl rfl rfl ?_
  refine tr_s (.iload 5) 2 1509 [some (.ref 0), some (.ref 1000), some (.ref 1099), some (.ref 1109), some (.ref 1110), some (.int x5), some (.int v0), w7, w8] [.int x5, .ref 0, .ref 1099] h1 rfl rfl rfl ?_
  refine tr_ic 1 1 (by decide) rfl ?_
  refine tr_s .iadd 1 1511 [some (.ref 0), some (.ref 1000), some (.ref 1099), some (.ref 1109), some (.ref 1110), some (.int x5), some (.int v0), w7, w8] [.int (x5 + 1), .ref 0, .ref 1099] h1 rfl rfl rfl ?_
  refine tr_ald .iaload 0 0 j1 (x5 + 1) g.1 (Or.inl ⟨rfl, rfl⟩) rfl rfl e1 b1 z1 ?_
  refine tr_s .i2c 1 1513 [some (.ref 0), some (.ref 1000), some (.ref 1099), some (.ref 1109), some (.ref 1110), some (.int x5), some (.int v0), w7, w8] [.int (((g.1.getD j1 0).toUInt32 % 65536).toInt32), .ref 1099] h1 rfl rfl rfl ?_
  refine tr_call (.invokevirtual 248) 248 0 1 8 m_X9_pointsOf [.ref 1099, .int (((g.1.getD j1 0).toUInt32 % 65536).toInt32)] [] (some (.int v1)) h2 rfl rfl rfl rfl rfl rfl rfl rfl rfl (tr_cok rfl (Or.inr ⟨_, _, rfl, tr_rc (hh_rd (hh_obj hL0 (k := 99) rfl).1) (by decide)⟩)) c_1 ?_
  have hL1 := c_1.2
  refine tr_st (.istore 7) 2 7 0 (.int v1) rfl rfl rfl rfl rfl rfl rfl ?_
  refine tr_s (.aload_n 2) 1 1519 [some (.ref 0), some (.ref 1000), some (.ref 1099), some (.ref 1109), some (.ref 1110), some (.int x5), some (.int v0), some (.int v1), w8] [.ref 1099] h2 rfl rfl rfl ?_
  refine tr_call (.invokevirtual 180) 180 0 0 8 m_X9_thrown [.ref 1099] [] (some (.int v2)) h3 rfl rfl rfl rfl rfl rfl rfl rfl rfl (tr_cok rfl (Or.inr ⟨_, _, rfl, tr_rc (hh_rd (hh_obj hL1 (k := 99) rfl).1) (by decide)⟩)) c_2 ?_
  have hL2 := c_2.2
  refine tr_s (.iload 6) 2 1524 [some (.ref 0), some (.ref 1000), some (.ref 1099), some (.ref 1109), some (.ref 1110), some (.int x5), some (.int v0), some (.int v1), w8] [.int v0, .int v2] h3 rfl rfl rfl ?_
  exact tr_if2 .eq 5 1529 v2 v0 rfl rfl rfl (fun hc => t ((tr_eq hc).1 rfl)) (fun hc => f ((tr_eq hc).2 rfl))
theorem sg_law_1527 {g : tr_g} {d : Nat} {h : ev_AH} {r : ev_O × ev_AH} {w0 w1 w2 w3 w4 w5 w6 w7 w8 : Option Value} (hL : hh_L h) (hr : r = (.inl (some (.int 0)), h)) : tr_L g d m_law 1527 [w0, w1, w2, w3, w4, w5, w6, w7, w8] [] h r := by
  refine tr_ic 0 0 (by decide) rfl ?_
  exact tl_ret hL .ireturn 1 (some (.int 0)) rfl rfl rfl rfl hr
theorem sg_law_1529 {g : tr_g} {d : Nat} {h : ev_AH} {r : ev_O × ev_AH} {x5 x6 x7 : Int32} {w8 : Option Value} (hL : hh_L h) (t : x6 ≠ 0 → tr_L g d m_law 1546 [some (.ref 0), some (.ref 1000), some (.ref 1099), some (.ref 1109), some (.ref 1110), some (.int x5), some (.int x6), some (.int x7), w8] [] h r) (f : x6 = 0 → tr_L g d m_law 1534 [some (.ref 0), some (.ref 1000), some (.ref 1099), some (.ref 1109), some (.ref 1110), some (.int x5), some (.int x6), some (.int x7), w8] [] h r) : tr_L g d m_law 1529 [some (.ref 0), some (.ref 1000), some (.ref 1099), some (.ref 1109), some (.ref 1110), some (.int x5), some (.int x6), some (.int x7), w8] [] h r := by
  refine tr_s (.iload 6) 2 1531 [some (.ref 0), some (.ref 1000), some (.ref 1099), some (.ref 1109), some (.ref 1110), some (.int x5), some (.int x6), some (.int x7), w8] [.int x6] h rfl rfl rfl ?_
  exact tr_if1 .ne 15 1546 x6 rfl rfl rfl (fun hc => t ((tr_ne hc).1 rfl)) (fun hc => f ((tr_ne hc).2 rfl))
theorem sg_law_1534 {g : tr_g} {d : Nat} {h : ev_AH} {r : ev_O × ev_AH} {x5 x7 : Int32} {w6 w8 : Option Value} {u0 : Int64} (hL : hh_L h) (p0 : (hh_v h 109)[0]? = some (.long u0)) (t : (lg_cmp u0 x7.toInt64) = 0 → tr_L g d m_law 1546 [some (.ref 0), some (.ref 1000), some (.ref 1099), some (.ref 1109), some (.ref 1110), some (.int x5), w6, some (.int x7), w8] [] h r) (f : (lg_cmp u0 x7.toInt64) ≠ 0 → tr_L g d m_law 1544 [some (.ref 0), some (.ref 1000), some (.ref 1099), some (.ref 1109), some (.ref 1110), some (.int x5), w6, some (.int x7), w8] [] h r) : tr_L g d m_law 1534 [some (.ref 0), some (.ref 1000), some (.ref 1099), some (.ref 1109), some (.ref 1110), some (.int x5), w6, some (.int x7), w8] [] h r := by
  refine tr_s (.aload_n 3) 1 1535 [some (.ref 0), some (.ref 1000), some (.ref 1099), some (.ref 1109), some (.ref 1110), some (.int x5), w6, some (.int x7), w8] [.ref 1109] h rfl rfl rfl ?_
  refine tr_ic 0 0 (by decide) rfl ?_
  refine tr_lald 1109 u0 _ rfl (by decide) (hh_rd (hh_obj hL (k := 109) rfl).1) (hh_obj hL (k := 109) rfl).2 p0 ?_
  refine tr_s (.iload 7) 2 1539 [some (.ref 0), some (.ref 1000), some (.ref 1099), some (.ref 1109), some (.ref 1110), some (.int x5), w6, some (.int x7), w8] [.int x7, .long u0] h rfl rfl rfl ?_
  refine tr_s .i2l 1 1540 [some (.ref 0), some (.ref 1000), some (.ref 1099), some (.ref 1109), some (.ref 1110), some (.int x5), w6, some (.int x7), w8] [.long x7.toInt64, .long u0] h rfl rfl rfl ?_
  refine tr_s .lcmp 1 1541 [some (.ref 0), some (.ref 1000), some (.ref 1099), some (.ref 1109), some (.ref 1110), some (.int x5), w6, some (.int x7), w8] [.int (lg_cmp u0 x7.toInt64)] h rfl rfl rfl ?_
  exact tr_if1 .eq 5 1546 (lg_cmp u0 x7.toInt64) rfl rfl rfl (fun hc => t ((tr_eq hc).1 rfl)) (fun hc => f ((tr_eq hc).2 rfl))
theorem sg_law_1544 {g : tr_g} {d : Nat} {h : ev_AH} {r : ev_O × ev_AH} {w0 w1 w2 w3 w4 w5 w6 w7 w8 : Option Value} (hL : hh_L h) (hr : r = (.inl (some (.int 0)), h)) : tr_L g d m_law 1544 [w0, w1, w2, w3, w4, w5, w6, w7, w8] [] h r := by
  refine tr_ic 0 0 (by decide) rfl ?_
  exact tl_ret hL .ireturn 1 (some (.int 0)) rfl rfl rfl rfl hr
theorem sg_law_1546 {g : tr_g} {d : Nat} {h : ev_AH} {r : ev_O × ev_AH} {x5 : Int32} {w6 w7 w8 : Option Value} (hL : hh_L h) (k : tr_L g d m_law 28 [some (.ref 0), some (.ref 1000), some (.ref 1099), some (.ref 1109), some (.ref 1110), some (.int (x5 + 5)), w6, w7, w8] [] h r) : tr_L g d m_law 1546 [some (.ref 0), some (.ref 1000), some (.ref 1099), some (.ref 1109), some (.ref 1110), some (.int x5), w6, w7, w8] [] h r := by
  refine tr_goto 1415 2961 rfl rfl rfl ?_
  refine tr_inc 5 5 x5 5 (by decide) rfl rfl rfl ?_
  refine tr_goto (-2936) 28 rfl rfl rfl ?_
  exact k
theorem sg_law_1549 {g : tr_g} {d : Nat} {h : ev_AH} {r : ev_O × ev_AH} {x5 v0 v1 v2 : Int32} {w6 w7 w8 : Option Value} {h1 h2 h3 : ev_AH} (hL : hh_L h) (c_0 : tr_L g d m_L_pointsWinner 0 [some (.ref 1000), some (.ref 1109), none] [] h (.inl (some (.int v0)), h1)) (c_1 : tr_L g d m_X9_pointsWinner 0 [some (.ref 1099)] [] h1 (.inl (some (.int v1)), h2)) (c_2 : tr_L g d m_X9_thrown 0 [some (.ref 1099)] [] h2 (.inl (some (.int v2)), h3)) (t : v2 = v0 → tr_L g (d + 1) m_law 1573 [some (.ref 0), some (.ref 1000), some (.ref 1099), some (.ref 1109), some (.ref 1110), some (.int x5), some (.int v0), some (.int v1), w8] [] h3 r) (f : v2 ≠ v0 → tr_L g (d + 1) m_law 1571 [some (.ref 0), some (.ref 1000), some (.ref 1099), some (.ref 1109), some (.ref 1110), some (.int x5), some (.int v0), some (.int v1), w8] [] h3 r) : tr_L g (d + 1) m_law 1549 [some (.ref 0), some (.ref 1000), some (.ref 1099), some (.ref 1109), some (.ref 1110), some (.int x5), w6, w7, w8] [] h r := by
  refine tr_s (.aload_n 1) 1 1550 [some (.ref 0), some (.ref 1000), some (.ref 1099), some (.ref 1109), some (.ref 1110), some (.int x5), w6, w7, w8] [.ref 1000] h rfl rfl rfl ?_
  refine tr_s (.aload_n 3) 1 1551 [some (.ref 0), some (.ref 1000), some (.ref 1099), some (.ref 1109), some (.ref 1110), some (.int x5), w6, w7, w8] [.ref 1109, .ref 1000] h rfl rfl rfl ?_
  refine tr_call (.invokestatic 249) 249 8 2 0 m_L_pointsWinner [.ref 1000, .ref 1109] [] (some (.int v0)) h1 rfl rfl rfl rfl rfl rfl rfl rfl rfl (tr_cok rfl (Or.inl rfl)) c_0 ?_
  have hL0 := c_0.2
  refine tr_st (.istore 6) 2 6 0 (.int v0) rfl rfl rfl rfl rfl rfl rfl ?_
  refine tr_s (.aload_n 2) 1 1557 [some (.ref 0), some (.ref 1000), some (.ref 1099), some (.ref 1109), some (.ref 1110), some (.int x5), some (.int v0), w7, w8] [.ref 1099] h1 rfl rfl rfl ?_
  refine tr_call (.invokevirtual 252) 252 0 0 8 m_X9_pointsWinner [.ref 1099] [] (some (.int v1)) h2 rfl rfl rfl rfl rfl rfl rfl rfl rfl (tr_cok rfl (Or.inr ⟨_, _, rfl, tr_rc (hh_rd (hh_obj hL0 (k := 99) rfl).1) (by decide)⟩)) c_1 ?_
  have hL1 := c_1.2
  refine tr_st (.istore 7) 2 7 0 (.int v1) rfl rfl rfl rfl rfl rfl rfl ?_
  refine tr_s (.aload_n 2) 1 1563 [some (.ref 0), some (.ref 1000), some (.ref 1099), some (.ref 1109), some (.ref 1110), some (.int x5), some (.int v0), some (.int v1), w8] [.ref 1099] h2 rfl rfl rfl ?_
  refine tr_call (.invokevirtual 180) 180 0 0 8 m_X9_thrown [.ref 1099] [] (some (.int v2)) h3 rfl rfl rfl rfl rfl rfl rfl rfl rfl (tr_cok rfl (Or.inr ⟨_, _, rfl, tr_rc (hh_rd (hh_obj hL1 (k := 99) rfl).1) (by decide)⟩)) c_2 ?_
  have hL2 := c_2.2
  refine tr_s (.iload 6) 2 1568 [some (.ref 0), some (.ref 1000), some (.ref 1099), some (.ref 1109), some (.ref 1110), some (.int x5), some (.int v0), some (.int v1), w8] [.int v0, .int v2] h3 rfl rfl rfl ?_
  exact tr_if2 .eq 5 1573 v2 v0 rfl rfl rfl (fun hc => t ((tr_eq hc).1 rfl)) (fun hc => f ((tr_eq hc).2 rfl))
theorem sg_law_1571 {g : tr_g} {d : Nat} {h : ev_AH} {r : ev_O × ev_AH} {w0 w1 w2 w3 w4 w5 w6 w7 w8 : Option Value} (hL : hh_L h) (hr : r = (.inl (some (.int 0)), h)) : tr_L g d m_law 1571 [w0, w1, w2, w3, w4, w5, w6, w7, w8] [] h r := by
  refine tr_ic 0 0 (by decide) rfl ?_
  exact tl_ret hL .ireturn 1 (some (.int 0)) rfl rfl rfl rfl hr
theorem sg_law_1573 {g : tr_g} {d : Nat} {h : ev_AH} {r : ev_O × ev_AH} {x5 x6 x7 : Int32} {w8 : Option Value} (hL : hh_L h) (t : x6 ≠ 0 → tr_L g d m_law 1590 [some (.ref 0), some (.ref 1000), some (.ref 1099), some (.ref 1109), some (.ref 1110), some (.int x5), some (.int x6), some (.int x7), w8] [] h r) (f : x6 = 0 → tr_L g d m_law 1578 [some (.ref 0), some (.ref 1000), some (.ref 1099), some (.ref 1109), some (.ref 1110), some (.int x5), some (.int x6), some (.int x7), w8] [] h r) : tr_L g d m_law 1573 [some (.ref 0), some (.ref 1000), some (.ref 1099), some (.ref 1109), some (.ref 1110), some (.int x5), some (.int x6), some (.int x7), w8] [] h r := by
  refine tr_s (.iload 6) 2 1575 [some (.ref 0), some (.ref 1000), some (.ref 1099), some (.ref 1109), some (.ref 1110), some (.int x5), some (.int x6), some (.int x7), w8] [.int x6] h rfl rfl rfl ?_
  exact tr_if1 .ne 15 1590 x6 rfl rfl rfl (fun hc => t ((tr_ne hc).1 rfl)) (fun hc => f ((tr_ne hc).2 rfl))
theorem sg_law_1578 {g : tr_g} {d : Nat} {h : ev_AH} {r : ev_O × ev_AH} {x5 x7 : Int32} {w6 w8 : Option Value} {u0 : Int64} (hL : hh_L h) (p0 : (hh_v h 109)[0]? = some (.long u0)) (t : (lg_cmp u0 x7.toInt64) = 0 → tr_L g d m_law 1590 [some (.ref 0), some (.ref 1000), some (.ref 1099), some (.ref 1109), some (.ref 1110), some (.int x5), w6, some (.int x7), w8] [] h r) (f : (lg_cmp u0 x7.toInt64) ≠ 0 → tr_L g d m_law 1588 [some (.ref 0), some (.ref 1000), some (.ref 1099), some (.ref 1109), some (.ref 1110), some (.int x5), w6, some (.int x7), w8] [] h r) : tr_L g d m_law 1578 [some (.ref 0), some (.ref 1000), some (.ref 1099), some (.ref 1109), some (.ref 1110), some (.int x5), w6, some (.int x7), w8] [] h r := by
  refine tr_s (.aload_n 3) 1 1579 [some (.ref 0), some (.ref 1000), some (.ref 1099), some (.ref 1109), some (.ref 1110), some (.int x5), w6, some (.int x7), w8] [.ref 1109] h rfl rfl rfl ?_
  refine tr_ic 0 0 (by decide) rfl ?_
  refine tr_lald 1109 u0 _ rfl (by decide) (hh_rd (hh_obj hL (k := 109) rfl).1) (hh_obj hL (k := 109) rfl).2 p0 ?_
  refine tr_s (.iload 7) 2 1583 [some (.ref 0), some (.ref 1000), some (.ref 1099), some (.ref 1109), some (.ref 1110), some (.int x5), w6, some (.int x7), w8] [.int x7, .long u0] h rfl rfl rfl ?_
  refine tr_s .i2l 1 1584 [some (.ref 0), some (.ref 1000), some (.ref 1099), some (.ref 1109), some (.ref 1110), some (.int x5), w6, some (.int x7), w8] [.long x7.toInt64, .long u0] h rfl rfl rfl ?_
  refine tr_s .lcmp 1 1585 [some (.ref 0), some (.ref 1000), some (.ref 1099), some (.ref 1109), some (.ref 1110), some (.int x5), w6, some (.int x7), w8] [.int (lg_cmp u0 x7.toInt64)] h rfl rfl rfl ?_
  exact tr_if1 .eq 5 1590 (lg_cmp u0 x7.toInt64) rfl rfl rfl (fun hc => t ((tr_eq hc).1 rfl)) (fun hc => f ((tr_eq hc).2 rfl))
theorem sg_law_1588 {g : tr_g} {d : Nat} {h : ev_AH} {r : ev_O × ev_AH} {w0 w1 w2 w3 w4 w5 w6 w7 w8 : Option Value} (hL : hh_L h) (hr : r = (.inl (some (.int 0)), h)) : tr_L g d m_law 1588 [w0, w1, w2, w3, w4, w5, w6, w7, w8] [] h r := by
  refine tr_ic 0 0 (by decide) rfl ?_
  exact tl_ret hL .ireturn 1 (some (.int 0)) rfl rfl rfl rfl hr
theorem sg_law_1590 {g : tr_g} {d : Nat} {h : ev_AH} {r : ev_O × ev_AH} {x5 : Int32} {w6 w7 w8 : Option Value} (hL : hh_L h) (k : tr_L g d m_law 28 [some (.ref 0), some (.ref 1000), some (.ref 1099), some (.ref 1109), some (.ref 1110), some (.int (x5 + 5)), w6, w7, w8] [] h r) : tr_L g d m_law 1590 [some (.ref 0), some (.ref 1000), some (.ref 1099), some (.ref 1109), some (.ref 1110), some (.int x5), w6, w7, w8] [] h r := by
  refine tr_goto 1371 2961 rfl rfl rfl ?_
  refine tr_inc 5 5 x5 5 (by decide) rfl rfl rfl ?_
  refine tr_goto (-2936) 28 rfl rfl rfl ?_
  exact k
theorem sg_law_1593 {g : tr_g} {d : Nat} {h : ev_AH} {r : ev_O × ev_AH} {x5 v0 v1 v2 : Int32} {w6 w7 w8 : Option Value} {h1 h2 h3 : ev_AH} (hL : hh_L h) (c_0 : tr_L g d m_L_roundsWinner 0 [some (.ref 1000), some (.ref 1109), none] [] h (.inl (some (.int v0)), h1)) (c_1 : tr_L g d m_X9_roundsWinner 0 [some (.ref 1099)] [] h1 (.inl (some (.int v1)), h2)) (c_2 : tr_L g d m_X9_thrown 0 [some (.ref 1099)] [] h2 (.inl (some (.int v2)), h3)) (t : v2 = v0 → tr_L g (d + 1) m_law 1617 [some (.ref 0), some (.ref 1000), some (.ref 1099), some (.ref 1109), some (.ref 1110), some (.int x5), some (.int v0), some (.int v1), w8] [] h3 r) (f : v2 ≠ v0 → tr_L g (d + 1) m_law 1615 [some (.ref 0), some (.ref 1000), some (.ref 1099), some (.ref 1109), some (.ref 1110), some (.int x5), some (.int v0), some (.int v1), w8] [] h3 r) : tr_L g (d + 1) m_law 1593 [some (.ref 0), some (.ref 1000), some (.ref 1099), some (.ref 1109), some (.ref 1110), some (.int x5), w6, w7, w8] [] h r := by
  refine tr_s (.aload_n 1) 1 1594 [some (.ref 0), some (.ref 1000), some (.ref 1099), some (.ref 1109), some (.ref 1110), some (.int x5), w6, w7, w8] [.ref 1000] h rfl rfl rfl ?_
  refine tr_s (.aload_n 3) 1 1595 [some (.ref 0), some (.ref 1000), some (.ref 1099), some (.ref 1109), some (.ref 1110), some (.int x5), w6, w7, w8] [.ref 1109, .ref 1000] h rfl rfl rfl ?_
  refine tr_call (.invokestatic 253) 253 8 2 0 m_L_roundsWinner [.ref 1000, .ref 1109] [] (some (.int v0)) h1 rfl rfl rfl rfl rfl rfl rfl rfl rfl (tr_cok rfl (Or.inl rfl)) c_0 ?_
  have hL0 := c_0.2
  refine tr_st (.istore 6) 2 6 0 (.int v0) rfl rfl rfl rfl rfl rfl rfl ?_
  refine tr_s (.aload_n 2) 1 1601 [some (.ref 0), some (.ref 1000), some (.ref 1099), some (.ref 1109), some (.ref 1110), some (.int x5), some (.int v0), w7, w8] [.ref 1099] h1 rfl rfl rfl ?_
  refine tr_call (.invokevirtual 255) 255 0 0 8 m_X9_roundsWinner [.ref 1099] [] (some (.int v1)) h2 rfl rfl rfl rfl rfl rfl rfl rfl rfl (tr_cok rfl (Or.inr ⟨_, _, rfl, tr_rc (hh_rd (hh_obj hL0 (k := 99) rfl).1) (by decide)⟩)) c_1 ?_
  have hL1 := c_1.2
  refine tr_st (.istore 7) 2 7 0 (.int v1) rfl rfl rfl rfl rfl rfl rfl ?_
  refine tr_s (.aload_n 2) 1 1607 [some (.ref 0), some (.ref 1000), some (.ref 1099), some (.ref 1109), some (.ref 1110), some (.int x5), some (.int v0), some (.int v1), w8] [.ref 1099] h2 rfl rfl rfl ?_
  refine tr_call (.invokevirtual 180) 180 0 0 8 m_X9_thrown [.ref 1099] [] (some (.int v2)) h3 rfl rfl rfl rfl rfl rfl rfl rfl rfl (tr_cok rfl (Or.inr ⟨_, _, rfl, tr_rc (hh_rd (hh_obj hL1 (k := 99) rfl).1) (by decide)⟩)) c_2 ?_
  have hL2 := c_2.2
  refine tr_s (.iload 6) 2 1612 [some (.ref 0), some (.ref 1000), some (.ref 1099), some (.ref 1109), some (.ref 1110), some (.int x5), some (.int v0), some (.int v1), w8] [.int v0, .int v2] h3 rfl rfl rfl ?_
  exact tr_if2 .eq 5 1617 v2 v0 rfl rfl rfl (fun hc => t ((tr_eq hc).1 rfl)) (fun hc => f ((tr_eq hc).2 rfl))
theorem sg_law_1615 {g : tr_g} {d : Nat} {h : ev_AH} {r : ev_O × ev_AH} {w0 w1 w2 w3 w4 w5 w6 w7 w8 : Option Value} (hL : hh_L h) (hr : r = (.inl (some (.int 0)), h)) : tr_L g d m_law 1615 [w0, w1, w2, w3, w4, w5, w6, w7, w8] [] h r := by
  refine tr_ic 0 0 (by decide) rfl ?_
  exact tl_ret hL .ireturn 1 (some (.int 0)) rfl rfl rfl rfl hr
theorem sg_law_1617 {g : tr_g} {d : Nat} {h : ev_AH} {r : ev_O × ev_AH} {x5 x6 x7 : Int32} {w8 : Option Value} (hL : hh_L h) (t : x6 ≠ 0 → tr_L g d m_law 1634 [some (.ref 0), some (.ref 1000), some (.ref 1099), some (.ref 1109), some (.ref 1110), some (.int x5), some (.int x6), some (.int x7), w8] [] h r) (f : x6 = 0 → tr_L g d m_law 1622 [some (.ref 0), some (.ref 1000), some (.ref 1099), some (.ref 1109), some (.ref 1110), some (.int x5), some (.int x6), some (.int x7), w8] [] h r) : tr_L g d m_law 1617 [some (.ref 0), some (.ref 1000), some (.ref 1099), some (.ref 1109), some (.ref 1110), some (.int x5), some (.int x6), some (.int x7), w8] [] h r := by
  refine tr_s (.iload 6) 2 1619 [some (.ref 0), some (.ref 1000), some (.ref 1099), some (.ref 1109), some (.ref 1110), some (.int x5), some (.int x6), some (.int x7), w8] [.int x6] h rfl rfl rfl ?_
  exact tr_if1 .ne 15 1634 x6 rfl rfl rfl (fun hc => t ((tr_ne hc).1 rfl)) (fun hc => f ((tr_ne hc).2 rfl))
theorem sg_law_1622 {g : tr_g} {d : Nat} {h : ev_AH} {r : ev_O × ev_AH} {x5 x7 : Int32} {w6 w8 : Option Value} {u0 : Int64} (hL : hh_L h) (p0 : (hh_v h 109)[0]? = some (.long u0)) (t : (lg_cmp u0 x7.toInt64) = 0 → tr_L g d m_law 1634 [some (.ref 0), some (.ref 1000), some (.ref 1099), some (.ref 1109), some (.ref 1110), some (.int x5), w6, some (.int x7), w8] [] h r) (f : (lg_cmp u0 x7.toInt64) ≠ 0 → tr_L g d m_law 1632 [some (.ref 0), some (.ref 1000), some (.ref 1099), some (.ref 1109), some (.ref 1110), some (.int x5), w6, some (.int x7), w8] [] h r) : tr_L g d m_law 1622 [some (.ref 0), some (.ref 1000), some (.ref 1099), some (.ref 1109), some (.ref 1110), some (.int x5), w6, some (.int x7), w8] [] h r := by
  refine tr_s (.aload_n 3) 1 1623 [some (.ref 0), some (.ref 1000), some (.ref 1099), some (.ref 1109), some (.ref 1110), some (.int x5), w6, some (.int x7), w8] [.ref 1109] h rfl rfl rfl ?_
  refine tr_ic 0 0 (by decide) rfl ?_
  refine tr_lald 1109 u0 _ rfl (by decide) (hh_rd (hh_obj hL (k := 109) rfl).1) (hh_obj hL (k := 109) rfl).2 p0 ?_
  refine tr_s (.iload 7) 2 1627 [some (.ref 0), some (.ref 1000), some (.ref 1099), some (.ref 1109), some (.ref 1110), some (.int x5), w6, some (.int x7), w8] [.int x7, .long u0] h rfl rfl rfl ?_
  refine tr_s .i2l 1 1628 [some (.ref 0), some (.ref 1000), some (.ref 1099), some (.ref 1109), some (.ref 1110), some (.int x5), w6, some (.int x7), w8] [.long x7.toInt64, .long u0] h rfl rfl rfl ?_
  refine tr_s .lcmp 1 1629 [some (.ref 0), some (.ref 1000), some (.ref 1099), some (.ref 1109), some (.ref 1110), some (.int x5), w6, some (.int x7), w8] [.int (lg_cmp u0 x7.toInt64)] h rfl rfl rfl ?_
  exact tr_if1 .eq 5 1634 (lg_cmp u0 x7.toInt64) rfl rfl rfl (fun hc => t ((tr_eq hc).1 rfl)) (fun hc => f ((tr_eq hc).2 rfl))
theorem sg_law_1632 {g : tr_g} {d : Nat} {h : ev_AH} {r : ev_O × ev_AH} {w0 w1 w2 w3 w4 w5 w6 w7 w8 : Option Value} (hL : hh_L h) (hr : r = (.inl (some (.int 0)), h)) : tr_L g d m_law 1632 [w0, w1, w2, w3, w4, w5, w6, w7, w8] [] h r := by
  refine tr_ic 0 0 (by decide) rfl ?_
  exact tl_ret hL .ireturn 1 (some (.int 0)) rfl rfl rfl rfl hr
theorem sg_law_1634 {g : tr_g} {d : Nat} {h : ev_AH} {r : ev_O × ev_AH} {x5 : Int32} {w6 w7 w8 : Option Value} (hL : hh_L h) (k : tr_L g d m_law 28 [some (.ref 0), some (.ref 1000), some (.ref 1099), some (.ref 1109), some (.ref 1110), some (.int (x5 + 5)), w6, w7, w8] [] h r) : tr_L g d m_law 1634 [some (.ref 0), some (.ref 1000), some (.ref 1099), some (.ref 1109), some (.ref 1110), some (.int x5), w6, w7, w8] [] h r := by
  refine tr_goto 1327 2961 rfl rfl rfl ?_
  refine tr_inc 5 5 x5 5 (by decide) rfl rfl rfl ?_
  refine tr_goto (-2936) 28 rfl rfl rfl ?_
  exact k
theorem sg_law_1637 {g : tr_g} {d : Nat} {h : ev_AH} {r : ev_O × ev_AH} {x5 v0 v1 v2 : Int32} {w6 w7 w8 : Option Value} {h1 h2 h3 : ev_AH} (hL : hh_L h) (c_0 : tr_L g d m_L_rounds 0 [some (.ref 1000), some (.ref 1109), none] [] h (.inl (some (.int v0)), h1)) (c_1 : tr_L g d m_X9_rounds 0 [some (.ref 1099)] [] h1 (.inl (some (.int v1)), h2)) (c_2 : tr_L g d m_X9_thrown 0 [some (.ref 1099)] [] h2 (.inl (some (.int v2)), h3)) (t : v2 = v0 → tr_L g (d + 1) m_law 1661 [some (.ref 0), some (.ref 1000), some (.ref 1099), some (.ref 1109), some (.ref 1110), some (.int x5), some (.int v0), some (.int v1), w8] [] h3 r) (f : v2 ≠ v0 → tr_L g (d + 1) m_law 1659 [some (.ref 0), some (.ref 1000), some (.ref 1099), some (.ref 1109), some (.ref 1110), some (.int x5), some (.int v0), some (.int v1), w8] [] h3 r) : tr_L g (d + 1) m_law 1637 [some (.ref 0), some (.ref 1000), some (.ref 1099), some (.ref 1109), some (.ref 1110), some (.int x5), w6, w7, w8] [] h r := by
  refine tr_s (.aload_n 1) 1 1638 [some (.ref 0), some (.ref 1000), some (.ref 1099), some (.ref 1109), some (.ref 1110), some (.int x5), w6, w7, w8] [.ref 1000] h rfl rfl rfl ?_
  refine tr_s (.aload_n 3) 1 1639 [some (.ref 0), some (.ref 1000), some (.ref 1099), some (.ref 1109), some (.ref 1110), some (.int x5), w6, w7, w8] [.ref 1109, .ref 1000] h rfl rfl rfl ?_
  refine tr_call (.invokestatic 256) 256 8 2 0 m_L_rounds [.ref 1000, .ref 1109] [] (some (.int v0)) h1 rfl rfl rfl rfl rfl rfl rfl rfl rfl (tr_cok rfl (Or.inl rfl)) c_0 ?_
  have hL0 := c_0.2
  refine tr_st (.istore 6) 2 6 0 (.int v0) rfl rfl rfl rfl rfl rfl rfl ?_
  refine tr_s (.aload_n 2) 1 1645 [some (.ref 0), some (.ref 1000), some (.ref 1099), some (.ref 1109), some (.ref 1110), some (.int x5), some (.int v0), w7, w8] [.ref 1099] h1 rfl rfl rfl ?_
  refine tr_call (.invokevirtual 258) 258 0 0 8 m_X9_rounds [.ref 1099] [] (some (.int v1)) h2 rfl rfl rfl rfl rfl rfl rfl rfl rfl (tr_cok rfl (Or.inr ⟨_, _, rfl, tr_rc (hh_rd (hh_obj hL0 (k := 99) rfl).1) (by decide)⟩)) c_1 ?_
  have hL1 := c_1.2
  refine tr_st (.istore 7) 2 7 0 (.int v1) rfl rfl rfl rfl rfl rfl rfl ?_
  refine tr_s (.aload_n 2) 1 1651 [some (.ref 0), some (.ref 1000), some (.ref 1099), some (.ref 1109), some (.ref 1110), some (.int x5), some (.int v0), some (.int v1), w8] [.ref 1099] h2 rfl rfl rfl ?_
  refine tr_call (.invokevirtual 180) 180 0 0 8 m_X9_thrown [.ref 1099] [] (some (.int v2)) h3 rfl rfl rfl rfl rfl rfl rfl rfl rfl (tr_cok rfl (Or.inr ⟨_, _, rfl, tr_rc (hh_rd (hh_obj hL1 (k := 99) rfl).1) (by decide)⟩)) c_2 ?_
  have hL2 := c_2.2
  refine tr_s (.iload 6) 2 1656 [some (.ref 0), some (.ref 1000), some (.ref 1099), some (.ref 1109), some (.ref 1110), some (.int x5), some (.int v0), some (.int v1), w8] [.int v0, .int v2] h3 rfl rfl rfl ?_
  exact tr_if2 .eq 5 1661 v2 v0 rfl rfl rfl (fun hc => t ((tr_eq hc).1 rfl)) (fun hc => f ((tr_eq hc).2 rfl))
theorem sg_law_1659 {g : tr_g} {d : Nat} {h : ev_AH} {r : ev_O × ev_AH} {w0 w1 w2 w3 w4 w5 w6 w7 w8 : Option Value} (hL : hh_L h) (hr : r = (.inl (some (.int 0)), h)) : tr_L g d m_law 1659 [w0, w1, w2, w3, w4, w5, w6, w7, w8] [] h r := by
  refine tr_ic 0 0 (by decide) rfl ?_
  exact tl_ret hL .ireturn 1 (some (.int 0)) rfl rfl rfl rfl hr
theorem sg_law_1661 {g : tr_g} {d : Nat} {h : ev_AH} {r : ev_O × ev_AH} {x5 x6 x7 : Int32} {w8 : Option Value} (hL : hh_L h) (t : x6 ≠ 0 → tr_L g d m_law 1678 [some (.ref 0), some (.ref 1000), some (.ref 1099), some (.ref 1109), some (.ref 1110), some (.int x5), some (.int x6), some (.int x7), w8] [] h r) (f : x6 = 0 → tr_L g d m_law 1666 [some (.ref 0), some (.ref 1000), some (.ref 1099), some (.ref 1109), some (.ref 1110), some (.int x5), some (.int x6), some (.int x7), w8] [] h r) : tr_L g d m_law 1661 [some (.ref 0), some (.ref 1000), some (.ref 1099), some (.ref 1109), some (.ref 1110), some (.int x5), some (.int x6), some (.int x7), w8] [] h r := by
  refine tr_s (.iload 6) 2 1663 [some (.ref 0), some (.ref 1000), some (.ref 1099), some (.ref 1109), some (.ref 1110), some (.int x5), some (.int x6), some (.int x7), w8] [.int x6] h rfl rfl rfl ?_
  exact tr_if1 .ne 15 1678 x6 rfl rfl rfl (fun hc => t ((tr_ne hc).1 rfl)) (fun hc => f ((tr_ne hc).2 rfl))
theorem sg_law_1666 {g : tr_g} {d : Nat} {h : ev_AH} {r : ev_O × ev_AH} {x5 x7 : Int32} {w6 w8 : Option Value} {u0 : Int64} (hL : hh_L h) (p0 : (hh_v h 109)[0]? = some (.long u0)) (t : (lg_cmp u0 x7.toInt64) = 0 → tr_L g d m_law 1678 [some (.ref 0), some (.ref 1000), some (.ref 1099), some (.ref 1109), some (.ref 1110), some (.int x5), w6, some (.int x7), w8] [] h r) (f : (lg_cmp u0 x7.toInt64) ≠ 0 → tr_L g d m_law 1676 [some (.ref 0), some (.ref 1000), some (.ref 1099), some (.ref 1109), some (.ref 1110), some (.int x5), w6, some (.int x7), w8] [] h r) : tr_L g d m_law 1666 [some (.ref 0), some (.ref 1000), some (.ref 1099), some (.ref 1109), some (.ref 1110), some (.int x5), w6, some (.int x7), w8] [] h r := by
  refine tr_s (.aload_n 3) 1 1667 [some (.ref 0), some (.ref 1000), some (.ref 1099), some (.ref 1109), some (.ref 1110), some (.int x5), w6, some (.int x7), w8] [.ref 1109] h rfl rfl rfl ?_
  refine tr_ic 0 0 (by decide) rfl ?_
  refine tr_lald 1109 u0 _ rfl (by decide) (hh_rd (hh_obj hL (k := 109) rfl).1) (hh_obj hL (k := 109) rfl).2 p0 ?_
  refine tr_s (.iload 7) 2 1671 [some (.ref 0), some (.ref 1000), some (.ref 1099), some (.ref 1109), some (.ref 1110), some (.int x5), w6, some (.int x7), w8] [.int x7, .long u0] h rfl rfl rfl ?_
  refine tr_s .i2l 1 1672 [some (.ref 0), some (.ref 1000), some (.ref 1099), some (.ref 1109), some (.ref 1110), some (.int x5), w6, some (.int x7), w8] [.long x7.toInt64, .long u0] h rfl rfl rfl ?_
  refine tr_s .lcmp 1 1673 [some (.ref 0), some (.ref 1000), some (.ref 1099), some (.ref 1109), some (.ref 1110), some (.int x5), w6, some (.int x7), w8] [.int (lg_cmp u0 x7.toInt64)] h rfl rfl rfl ?_
  exact tr_if1 .eq 5 1678 (lg_cmp u0 x7.toInt64) rfl rfl rfl (fun hc => t ((tr_eq hc).1 rfl)) (fun hc => f ((tr_eq hc).2 rfl))
theorem sg_law_1676 {g : tr_g} {d : Nat} {h : ev_AH} {r : ev_O × ev_AH} {w0 w1 w2 w3 w4 w5 w6 w7 w8 : Option Value} (hL : hh_L h) (hr : r = (.inl (some (.int 0)), h)) : tr_L g d m_law 1676 [w0, w1, w2, w3, w4, w5, w6, w7, w8] [] h r := by
  refine tr_ic 0 0 (by decide) rfl ?_
  exact tl_ret hL .ireturn 1 (some (.int 0)) rfl rfl rfl rfl hr
theorem sg_law_1678 {g : tr_g} {d : Nat} {h : ev_AH} {r : ev_O × ev_AH} {x5 : Int32} {w6 w7 w8 : Option Value} (hL : hh_L h) (k : tr_L g d m_law 28 [some (.ref 0), some (.ref 1000), some (.ref 1099), some (.ref 1109), some (.ref 1110), some (.int (x5 + 5)), w6, w7, w8] [] h r) : tr_L g d m_law 1678 [some (.ref 0), some (.ref 1000), some (.ref 1099), some (.ref 1109), some (.ref 1110), some (.int x5), w6, w7, w8] [] h r := by
  refine tr_goto 1283 2961 rfl rfl rfl ?_
  refine tr_inc 5 5 x5 5 (by decide) rfl rfl rfl ?_
  refine tr_goto (-2936) 28 rfl rfl rfl ?_
  exact k
theorem sg_law_1681 {g : tr_g} {d : Nat} {h : ev_AH} {r : ev_O × ev_AH} {x5 v0 v1 v2 : Int32} {w6 w7 w8 : Option Value} {j0 j1 j2 j3 : Nat} {h1 h2 h3 : ev_AH} (hL : hh_L h) (e0 : x5 + 1 = Int32.ofNat j0) (b0 : j0 < g.1.length) (z0 : g.1.length < 2147483648) (e1 : x5 + 2 = Int32.ofNat j1) (b1 : j1 < g.1.length) (z1 : g.1.length < 2147483648) (c_0 : tr_L g d m_L_strengthOf 0 [some (.ref 1000), some (.int (((g.1.getD j0 0).toUInt32 % 65536).toInt32)), some (.int (((g.1.getD j1 0).toUInt32 % 65536).toInt32)), some (.ref 1109), none] [] h (.inl (some (.int v0)), h1)) (e2 : x5 + 1 = Int32.ofNat j2) (b2 : j2 < g.1.length) (z2 : g.1.length < 2147483648) (e3 : x5 + 2 = Int32.ofNat j3) (b3 : j3 < g.1.length) (z3 : g.1.length < 2147483648) (c_1 : tr_L g d m_X9_strengthOf 0 [some (.ref 1099), some (.int (((g.1.getD j2 0).toUInt32 % 65536).toInt32)), some (.int (((g.1.getD j3 0).toUInt32 % 65536).toInt32))] [] h1 (.inl (some (.int v1)), h2)) (c_2 : tr_L g d m_X9_thrown 0 [some (.ref 1099)] [] h2 (.inl (some (.int v2)), h3)) (t : v2 = v0 → tr_L g (d + 1) m_law 1733 [some (.ref 0), some (.ref 1000), some (.ref 1099), some (.ref 1109), some (.ref 1110), some (.int x5), some (.int v0), some (.int v1), w8] [] h3 r) (f : v2 ≠ v0 → tr_L g (d + 1) m_law 1731 [some (.ref 0), some (.ref 1000), some (.ref 1099), some (.ref 1109), some (.ref 1110), some (.int x5), some (.int v0), some (.int v1), w8] [] h3 r) : tr_L g (d + 1) m_law 1681 [some (.ref 0), some (.ref 1000), some (.ref 1099), some (.ref 1109), some (.ref 1110), some (.int x5), w6, w7, w8] [] h r := by
  refine tr_s (.aload_n 1) 1 1682 [some (.ref 0), some (.ref 1000), some (.ref 1099), some (.ref 1109), some (.ref 1110), some (.int x5), w6, w7, w8] [.ref 1000] h rfl rfl rfl ?_
  refine tr_s (.aload_n 0) 1 1683 [some (.ref 0), some (.ref 1000), some (.ref 1099), some (.ref 1109), some (.ref 1110), some (.int x5), w6, w7, w8] [.ref 0, .ref 1000] h rfl rfl rfl ?_
  refine tr_s (.iload 5) 2 1685 [some (.ref 0), some (.ref 1000), some (.ref 1099), some (.ref 1109), some (.ref 1110), some (.int x5), w6, w7, w8] [.int x5, .ref 0, .ref 1000] h rfl rfl rfl ?_
  refine tr_ic 1 1 (by decide) rfl ?_
  refine tr_s .iadd 1 1687 [some (.ref 0), some (.ref 1000), some (.ref 1099), some (.ref 1109), some (.ref 1110), some (.int x5), w6, w7, w8] [.int (x5 + 1), .ref 0, .ref 1000] h rfl rfl rfl ?_
  refine tr_ald .iaload 0 0 j0 (x5 + 1) g.1 (Or.inl ⟨rfl, rfl⟩) rfl rfl e0 b0 z0 ?_
  refine tr_s .i2c 1 1689 [some (.ref 0), some (.ref 1000), some (.ref 1099), some (.ref 1109), some (.ref 1110), some (.int x5), w6, w7, w8] [.int (((g.1.getD j0 0).toUInt32 % 65536).toInt32), .ref 1000] h rfl rfl rfl ?_
  refine tr_s (.aload_n 0) 1 1690 [some (.ref 0), some (.ref 1000), some (.ref 1099), some (.ref 1109), some (.ref 1110), some (.int x5), w6, w7, w8] [.ref 0, .int (((g.1.getD j0 0).toUInt32 % 65536).toInt32), .ref 1000] h rfl rfl rfl ?_
  refine tr_s (.iload 5) 2 1692 [some (.ref 0), some (.ref 1000), some (.ref 1099), some (.ref 1109), some (.ref 1110), some (.int x5), w6, w7, w8] [.int x5, .ref 0, .int (((g.1.getD j0 0).toUInt32 % 65536).toInt32), .ref 1000] h rfl rfl rfl ?_
  refine tr_ic 2 2 (by decide) rfl ?_
  refine tr_s .iadd 1 1694 [some (.ref 0), some (.ref 1000), some (.ref 1099), some (.ref 1109), some (.ref 1110), some (.int x5), w6, w7, w8] [.int (x5 + 2), .ref 0, .int (((g.1.getD j0 0).toUInt32 % 65536).toInt32), .ref 1000] h rfl rfl rfl ?_
  refine tr_ald .iaload 0 0 j1 (x5 + 2) g.1 (Or.inl ⟨rfl, rfl⟩) rfl rfl e1 b1 z1 ?_
  refine tr_s .i2c 1 1696 [some (.ref 0), some (.ref 1000), some (.ref 1099), some (.ref 1109), some (.ref 1110), some (.int x5), w6, w7, w8] [.int (((g.1.getD j1 0).toUInt32 % 65536).toInt32), .int (((g.1.getD j0 0).toUInt32 % 65536).toInt32), .ref 1000] h rfl rfl rfl ?_
  refine tr_s (.aload_n 3) 1 1697 [some (.ref 0), some (.ref 1000), some (.ref 1099), some (.ref 1109), some (.ref 1110), some (.int x5), w6, w7, w8] [.ref 1109, .int (((g.1.getD j1 0).toUInt32 % 65536).toInt32), .int (((g.1.getD j0 0).toUInt32 % 65536).toInt32), .ref 1000] h rfl rfl rfl ?_
  refine tr_call (.invokestatic 259) 259 8 4 0 m_L_strengthOf [.ref 1000, .int (((g.1.getD j0 0).toUInt32 % 65536).toInt32), .int (((g.1.getD j1 0).toUInt32 % 65536).toInt32), .ref 1109] [] (some (.int v0)) h1 rfl rfl rfl rfl rfl rfl rfl rfl rfl (tr_cok rfl (Or.inl rfl)) c_0 ?_
  have hL0 := c_0.2
  refine tr_st (.istore 6) 2 6 0 (.int v0) rfl rfl rfl rfl rfl rfl rfl ?_
  refine tr_s (.aload_n 2) 1 1703 [some (.ref 0), some (.ref 1000), some (.ref 1099), some (.ref 1109), some (.ref 1110), some (.int x5), some (.int v0), w7, w8] [.ref 1099] h1 rfl rfl rfl ?_
  refine tr_s (.aload_n 0) 1 1704 [some (.ref 0), some (.ref 1000), some (.ref 1099), some (.ref 1109), some (.ref 1110), some (.int x5), some (.int v0), w7, w8] [.ref 0, .ref 1099] h1 rfl rfl rfl ?_
  refine tr_s (.iload 5) 2 1706 [some (.ref 0), some (.ref 1000), some (.ref 1099), some (.ref 1109), some (.ref 1110), some (.int x5), some (.int v0), w7, w8] [.int x5, .ref 0, .ref 1099] h1 rfl rfl rfl ?_
  refine tr_ic 1 1 (by decide) rfl ?_
  refine tr_s .iadd 1 1708 [some (.ref 0), some (.ref 1000), some (.ref 1099), some (.ref 1109), some (.ref 1110), some (.int x5), some (.int v0), w7, w8] [.int (x5 + 1), .ref 0, .ref 1099] h1 rfl rfl rfl ?_
  refine tr_ald .iaload 0 0 j2 (x5 + 1) g.1 (Or.inl ⟨rfl, rfl⟩) rfl rfl e2 b2 z2 ?_
  refine tr_s .i2c 1 1710 [some (.ref 0), some (.ref 1000), some (.ref 1099), some (.ref 1109), some (.ref 1110), some (.int x5), some (.int v0), w7, w8] [.int (((g.1.getD j2 0).toUInt32 % 65536).toInt32), .ref 1099] h1 rfl rfl rfl ?_
  refine tr_s (.aload_n 0) 1 1711 [some (.ref 0), some (.ref 1000), some (.ref 1099), some (.ref 1109), some (.ref 1110), some (.int x5), some (.int v0), w7, w8] [.ref 0, .int (((g.1.getD j2 0).toUInt32 % 65536).toInt32), .ref 1099] h1 rfl rfl rfl ?_
  refine tr_s (.iload 5) 2 1713 [some (.ref 0), some (.ref 1000), some (.ref 1099), some (.ref 1109), some (.ref 1110), some (.int x5), some (.int v0), w7, w8] [.int x5, .ref 0, .int (((g.1.getD j2 0).toUInt32 % 65536).toInt32), .ref 1099] h1 rfl rfl rfl ?_
  refine tr_ic 2 2 (by decide) rfl ?_
  refine tr_s .iadd 1 1715 [some (.ref 0), some (.ref 1000), some (.ref 1099), some (.ref 1109), some (.ref 1110), some (.int x5), some (.int v0), w7, w8] [.int (x5 + 2), .ref 0, .int (((g.1.getD j2 0).toUInt32 % 65536).toInt32), .ref 1099] h1 rfl rfl rfl ?_
  refine tr_ald .iaload 0 0 j3 (x5 + 2) g.1 (Or.inl ⟨rfl, rfl⟩) rfl rfl e3 b3 z3 ?_
  refine tr_s .i2c 1 1717 [some (.ref 0), some (.ref 1000), some (.ref 1099), some (.ref 1109), some (.ref 1110), some (.int x5), some (.int v0), w7, w8] [.int (((g.1.getD j3 0).toUInt32 % 65536).toInt32), .int (((g.1.getD j2 0).toUInt32 % 65536).toInt32), .ref 1099] h1 rfl rfl rfl ?_
  refine tr_call (.invokevirtual 261) 261 0 2 8 m_X9_strengthOf [.ref 1099, .int (((g.1.getD j2 0).toUInt32 % 65536).toInt32), .int (((g.1.getD j3 0).toUInt32 % 65536).toInt32)] [] (some (.int v1)) h2 rfl rfl rfl rfl rfl rfl rfl rfl rfl (tr_cok rfl (Or.inr ⟨_, _, rfl, tr_rc (hh_rd (hh_obj hL0 (k := 99) rfl).1) (by decide)⟩)) c_1 ?_
  have hL1 := c_1.2
  refine tr_st (.istore 7) 2 7 0 (.int v1) rfl rfl rfl rfl rfl rfl rfl ?_
  refine tr_s (.aload_n 2) 1 1723 [some (.ref 0), some (.ref 1000), some (.ref 1099), some (.ref 1109), some (.ref 1110), some (.int x5), some (.int v0), some (.int v1), w8] [.ref 1099] h2 rfl rfl rfl ?_
  refine tr_call (.invokevirtual 180) 180 0 0 8 m_X9_thrown [.ref 1099] [] (some (.int v2)) h3 rfl rfl rfl rfl rfl rfl rfl rfl rfl (tr_cok rfl (Or.inr ⟨_, _, rfl, tr_rc (hh_rd (hh_obj hL1 (k := 99) rfl).1) (by decide)⟩)) c_2 ?_
  have hL2 := c_2.2
  refine tr_s (.iload 6) 2 1728 [some (.ref 0), some (.ref 1000), some (.ref 1099), some (.ref 1109), some (.ref 1110), some (.int x5), some (.int v0), some (.int v1), w8] [.int v0, .int v2] h3 rfl rfl rfl ?_
  exact tr_if2 .eq 5 1733 v2 v0 rfl rfl rfl (fun hc => t ((tr_eq hc).1 rfl)) (fun hc => f ((tr_eq hc).2 rfl))
theorem sg_law_1731 {g : tr_g} {d : Nat} {h : ev_AH} {r : ev_O × ev_AH} {w0 w1 w2 w3 w4 w5 w6 w7 w8 : Option Value} (hL : hh_L h) (hr : r = (.inl (some (.int 0)), h)) : tr_L g d m_law 1731 [w0, w1, w2, w3, w4, w5, w6, w7, w8] [] h r := by
  refine tr_ic 0 0 (by decide) rfl ?_
  exact tl_ret hL .ireturn 1 (some (.int 0)) rfl rfl rfl rfl hr
theorem sg_law_1733 {g : tr_g} {d : Nat} {h : ev_AH} {r : ev_O × ev_AH} {x5 x6 x7 : Int32} {w8 : Option Value} (hL : hh_L h) (t : x6 ≠ 0 → tr_L g d m_law 1750 [some (.ref 0), some (.ref 1000), some (.ref 1099), some (.ref 1109), some (.ref 1110), some (.int x5), some (.int x6), some (.int x7), w8] [] h r) (f : x6 = 0 → tr_L g d m_law 1738 [some (.ref 0), some (.ref 1000), some (.ref 1099), some (.ref 1109), some (.ref 1110), some (.int x5), some (.int x6), some (.int x7), w8] [] h r) : tr_L g d m_law 1733 [some (.ref 0), some (.ref 1000), some (.ref 1099), some (.ref 1109), some (.ref 1110), some (.int x5), some (.int x6), some (.int x7), w8] [] h r := by
  refine tr_s (.iload 6) 2 1735 [some (.ref 0), some (.ref 1000), some (.ref 1099), some (.ref 1109), some (.ref 1110), some (.int x5), some (.int x6), some (.int x7), w8] [.int x6] h rfl rfl rfl ?_
  exact tr_if1 .ne 15 1750 x6 rfl rfl rfl (fun hc => t ((tr_ne hc).1 rfl)) (fun hc => f ((tr_ne hc).2 rfl))
theorem sg_law_1738 {g : tr_g} {d : Nat} {h : ev_AH} {r : ev_O × ev_AH} {x5 x7 : Int32} {w6 w8 : Option Value} {u0 : Int64} (hL : hh_L h) (p0 : (hh_v h 109)[0]? = some (.long u0)) (t : (lg_cmp u0 x7.toInt64) = 0 → tr_L g d m_law 1750 [some (.ref 0), some (.ref 1000), some (.ref 1099), some (.ref 1109), some (.ref 1110), some (.int x5), w6, some (.int x7), w8] [] h r) (f : (lg_cmp u0 x7.toInt64) ≠ 0 → tr_L g d m_law 1748 [some (.ref 0), some (.ref 1000), some (.ref 1099), some (.ref 1109), some (.ref 1110), some (.int x5), w6, some (.int x7), w8] [] h r) : tr_L g d m_law 1738 [some (.ref 0), some (.ref 1000), some (.ref 1099), some (.ref 1109), some (.ref 1110), some (.int x5), w6, some (.int x7), w8] [] h r := by
  refine tr_s (.aload_n 3) 1 1739 [some (.ref 0), some (.ref 1000), some (.ref 1099), some (.ref 1109), some (.ref 1110), some (.int x5), w6, some (.int x7), w8] [.ref 1109] h rfl rfl rfl ?_
  refine tr_ic 0 0 (by decide) rfl ?_
  refine tr_lald 1109 u0 _ rfl (by decide) (hh_rd (hh_obj hL (k := 109) rfl).1) (hh_obj hL (k := 109) rfl).2 p0 ?_
  refine tr_s (.iload 7) 2 1743 [some (.ref 0), some (.ref 1000), some (.ref 1099), some (.ref 1109), some (.ref 1110), some (.int x5), w6, some (.int x7), w8] [.int x7, .long u0] h rfl rfl rfl ?_
  refine tr_s .i2l 1 1744 [some (.ref 0), some (.ref 1000), some (.ref 1099), some (.ref 1109), some (.ref 1110), some (.int x5), w6, some (.int x7), w8] [.long x7.toInt64, .long u0] h rfl rfl rfl ?_
  refine tr_s .lcmp 1 1745 [some (.ref 0), some (.ref 1000), some (.ref 1099), some (.ref 1109), some (.ref 1110), some (.int x5), w6, some (.int x7), w8] [.int (lg_cmp u0 x7.toInt64)] h rfl rfl rfl ?_
  exact tr_if1 .eq 5 1750 (lg_cmp u0 x7.toInt64) rfl rfl rfl (fun hc => t ((tr_eq hc).1 rfl)) (fun hc => f ((tr_eq hc).2 rfl))
theorem sg_law_1748 {g : tr_g} {d : Nat} {h : ev_AH} {r : ev_O × ev_AH} {w0 w1 w2 w3 w4 w5 w6 w7 w8 : Option Value} (hL : hh_L h) (hr : r = (.inl (some (.int 0)), h)) : tr_L g d m_law 1748 [w0, w1, w2, w3, w4, w5, w6, w7, w8] [] h r := by
  refine tr_ic 0 0 (by decide) rfl ?_
  exact tl_ret hL .ireturn 1 (some (.int 0)) rfl rfl rfl rfl hr
theorem sg_law_1750 {g : tr_g} {d : Nat} {h : ev_AH} {r : ev_O × ev_AH} {x5 : Int32} {w6 w7 w8 : Option Value} (hL : hh_L h) (k : tr_L g d m_law 28 [some (.ref 0), some (.ref 1000), some (.ref 1099), some (.ref 1109), some (.ref 1110), some (.int (x5 + 5)), w6, w7, w8] [] h r) : tr_L g d m_law 1750 [some (.ref 0), some (.ref 1000), some (.ref 1099), some (.ref 1109), some (.ref 1110), some (.int x5), w6, w7, w8] [] h r := by
  refine tr_goto 1211 2961 rfl rfl rfl ?_
  refine tr_inc 5 5 x5 5 (by decide) rfl rfl rfl ?_
  refine tr_goto (-2936) 28 rfl rfl rfl ?_
  exact k
theorem sg_law_1753 {g : tr_g} {d : Nat} {h : ev_AH} {r : ev_O × ev_AH} {x5 v0 v1 v2 : Int32} {w6 w7 w8 : Option Value} {j0 j1 j2 j3 : Nat} {h1 h2 h3 : ev_AH} (hL : hh_L h) (e0 : x5 + 1 = Int32.ofNat j0) (b0 : j0 < g.1.length) (z0 : g.1.length < 2147483648) (e1 : x5 + 2 = Int32.ofNat j1) (b1 : j1 < g.1.length) (z1 : g.1.length < 2147483648) (c_0 : tr_L g d m_L_strengthByTrying 0 [some (.ref 1000), some (.int (((g.1.getD j0 0).toUInt32 % 65536).toInt32)), some (.int (((g.1.getD j1 0).toUInt32 % 65536).toInt32)), some (.ref 1109), none] [] h (.inl (some (.int v0)), h1)) (e2 : x5 + 1 = Int32.ofNat j2) (b2 : j2 < g.1.length) (z2 : g.1.length < 2147483648) (e3 : x5 + 2 = Int32.ofNat j3) (b3 : j3 < g.1.length) (z3 : g.1.length < 2147483648) (c_1 : tr_L g d m_X9_strengthByTrying 0 [some (.ref 1099), some (.int (((g.1.getD j2 0).toUInt32 % 65536).toInt32)), some (.int (((g.1.getD j3 0).toUInt32 % 65536).toInt32))] [] h1 (.inl (some (.int v1)), h2)) (c_2 : tr_L g d m_X9_thrown 0 [some (.ref 1099)] [] h2 (.inl (some (.int v2)), h3)) (t : v2 = v0 → tr_L g (d + 1) m_law 1805 [some (.ref 0), some (.ref 1000), some (.ref 1099), some (.ref 1109), some (.ref 1110), some (.int x5), some (.int v0), some (.int v1), w8] [] h3 r) (f : v2 ≠ v0 → tr_L g (d + 1) m_law 1803 [some (.ref 0), some (.ref 1000), some (.ref 1099), some (.ref 1109), some (.ref 1110), some (.int x5), some (.int v0), some (.int v1), w8] [] h3 r) : tr_L g (d + 1) m_law 1753 [some (.ref 0), some (.ref 1000), some (.ref 1099), some (.ref 1109), some (.ref 1110), some (.int x5), w6, w7, w8] [] h r := by
  refine tr_s (.aload_n 1) 1 1754 [some (.ref 0), some (.ref 1000), some (.ref 1099), some (.ref 1109), some (.ref 1110), some (.int x5), w6, w7, w8] [.ref 1000] h rfl rfl rfl ?_
  refine tr_s (.aload_n 0) 1 1755 [some (.ref 0), some (.ref 1000), some (.ref 1099), some (.ref 1109), some (.ref 1110), some (.int x5), w6, w7, w8] [.ref 0, .ref 1000] h rfl rfl rfl ?_
  refine tr_s (.iload 5) 2 1757 [some (.ref 0), some (.ref 1000), some (.ref 1099), some (.ref 1109), some (.ref 1110), some (.int x5), w6, w7, w8] [.int x5, .ref 0, .ref 1000] h rfl rfl rfl ?_
  refine tr_ic 1 1 (by decide) rfl ?_
  refine tr_s .iadd 1 1759 [some (.ref 0), some (.ref 1000), some (.ref 1099), some (.ref 1109), some (.ref 1110), some (.int x5), w6, w7, w8] [.int (x5 + 1), .ref 0, .ref 1000] h rfl rfl rfl ?_
  refine tr_ald .iaload 0 0 j0 (x5 + 1) g.1 (Or.inl ⟨rfl, rfl⟩) rfl rfl e0 b0 z0 ?_
  refine tr_s .i2c 1 1761 [some (.ref 0), some (.ref 1000), some (.ref 1099), some (.ref 1109), some (.ref 1110), some (.int x5), w6, w7, w8] [.int (((g.1.getD j0 0).toUInt32 % 65536).toInt32), .ref 1000] h rfl rfl rfl ?_
  refine tr_s (.aload_n 0) 1 1762 [some (.ref 0), some (.ref 1000), some (.ref 1099), some (.ref 1109), some (.ref 1110), some (.int x5), w6, w7, w8] [.ref 0, .int (((g.1.getD j0 0).toUInt32 % 65536).toInt32), .ref 1000] h rfl rfl rfl ?_
  refine tr_s (.iload 5) 2 1764 [some (.ref 0), some (.ref 1000), some (.ref 1099), some (.ref 1109), some (.ref 1110), some (.int x5), w6, w7, w8] [.int x5, .ref 0, .int (((g.1.getD j0 0).toUInt32 % 65536).toInt32), .ref 1000] h rfl rfl rfl ?_
  refine tr_ic 2 2 (by decide) rfl ?_
  refine tr_s .iadd 1 1766 [some (.ref 0), some (.ref 1000), some (.ref 1099), some (.ref 1109), some (.ref 1110), some (.int x5), w6, w7, w8] [.int (x5 + 2), .ref 0, .int (((g.1.getD j0 0).toUInt32 % 65536).toInt32), .ref 1000] h rfl rfl rfl ?_
  refine tr_ald .iaload 0 0 j1 (x5 + 2) g.1 (Or.inl ⟨rfl, rfl⟩) rfl rfl e1 b1 z1 ?_
  refine tr_s .i2c 1 1768 [some (.ref 0), some (.ref 1000), some (.ref 1099), some (.ref 1109), some (.ref 1110), some (.int x5), w6, w7, w8] [.int (((g.1.getD j1 0).toUInt32 % 65536).toInt32), .int (((g.1.getD j0 0).toUInt32 % 65536).toInt32), .ref 1000] h rfl rfl rfl ?_
  refine tr_s (.aload_n 3) 1 1769 [some (.ref 0), some (.ref 1000), some (.ref 1099), some (.ref 1109), some (.ref 1110), some (.int x5), w6, w7, w8] [.ref 1109, .int (((g.1.getD j1 0).toUInt32 % 65536).toInt32), .int (((g.1.getD j0 0).toUInt32 % 65536).toInt32), .ref 1000] h rfl rfl rfl ?_
  refine tr_call (.invokestatic 262) 262 8 4 0 m_L_strengthByTrying [.ref 1000, .int (((g.1.getD j0 0).toUInt32 % 65536).toInt32), .int (((g.1.getD j1 0).toUInt32 % 65536).toInt32), .ref 1109] [] (some (.int v0)) h1 rfl rfl rfl rfl rfl rfl rfl rfl rfl (tr_cok rfl (Or.inl rfl)) c_0 ?_
  have hL0 := c_0.2
  refine tr_st (.istore 6) 2 6 0 (.int v0) rfl rfl rfl rfl rfl rfl rfl ?_
  refine tr_s (.aload_n 2) 1 1775 [some (.ref 0), some (.ref 1000), some (.ref 1099), some (.ref 1109), some (.ref 1110), some (.int x5), some (.int v0), w7, w8] [.ref 1099] h1 rfl rfl rfl ?_
  refine tr_s (.aload_n 0) 1 1776 [some (.ref 0), some (.ref 1000), some (.ref 1099), some (.ref 1109), some (.ref 1110), some (.int x5), some (.int v0), w7, w8] [.ref 0, .ref 1099] h1 rfl rfl rfl ?_
  refine tr_s (.iload 5) 2 1778 [some (.ref 0), some (.ref 1000), some (.ref 1099), some (.ref 1109), some (.ref 1110), some (.int x5), some (.int v0), w7, w8] [.int x5, .ref 0, .ref 1099] h1 rfl rfl rfl ?_
  refine tr_ic 1 1 (by decide) rfl ?_
  refine tr_s .iadd 1 1780 [some (.ref 0), some (.ref 1000), some (.ref 1099), some (.ref 1109), some (.ref 1110), some (.int x5), some (.int v0), w7, w8] [.int (x5 + 1), .ref 0, .ref 1099] h1 rfl rfl rfl ?_
  refine tr_ald .iaload 0 0 j2 (x5 + 1) g.1 (Or.inl ⟨rfl, rfl⟩) rfl rfl e2 b2 z2 ?_
  refine tr_s .i2c 1 1782 [some (.ref 0), some (.ref 1000), some (.ref 1099), some (.ref 1109), some (.ref 1110), some (.int x5), some (.int v0), w7, w8] [.int (((g.1.getD j2 0).toUInt32 % 65536).toInt32), .ref 1099] h1 rfl rfl rfl ?_
  refine tr_s (.aload_n 0) 1 1783 [some (.ref 0), some (.ref 1000), some (.ref 1099), some (.ref 1109), some (.ref 1110), some (.int x5), some (.int v0), w7, w8] [.ref 0, .int (((g.1.getD j2 0).toUInt32 % 65536).toInt32), .ref 1099] h1 rfl rfl rfl ?_
  refine tr_s (.iload 5) 2 1785 [some (.ref 0), some (.ref 1000), some (.ref 1099), some (.ref 1109), some (.ref 1110), some (.int x5), some (.int v0), w7, w8] [.int x5, .ref 0, .int (((g.1.getD j2 0).toUInt32 % 65536).toInt32), .ref 1099] h1 rfl rfl rfl ?_
  refine tr_ic 2 2 (by decide) rfl ?_
  refine tr_s .iadd 1 1787 [some (.ref 0), some (.ref 1000), some (.ref 1099), some (.ref 1109), some (.ref 1110), some (.int x5), some (.int v0), w7, w8] [.int (x5 + 2), .ref 0, .int (((g.1.getD j2 0).toUInt32 % 65536).toInt32), .ref 1099] h1 rfl rfl rfl ?_
  refine tr_ald .iaload 0 0 j3 (x5 + 2) g.1 (Or.inl ⟨rfl, rfl⟩) rfl rfl e3 b3 z3 ?_
  refine tr_s .i2c 1 1789 [some (.ref 0), some (.ref 1000), some (.ref 1099), some (.ref 1109), some (.ref 1110), some (.int x5), some (.int v0), w7, w8] [.int (((g.1.getD j3 0).toUInt32 % 65536).toInt32), .int (((g.1.getD j2 0).toUInt32 % 65536).toInt32), .ref 1099] h1 rfl rfl rfl ?_
  refine tr_call (.invokevirtual 264) 264 0 2 8 m_X9_strengthByTrying [.ref 1099, .int (((g.1.getD j2 0).toUInt32 % 65536).toInt32), .int (((g.1.getD j3 0).toUInt32 % 65536).toInt32)] [] (some (.int v1)) h2 rfl rfl rfl rfl rfl rfl rfl rfl rfl (tr_cok rfl (Or.inr ⟨_, _, rfl, tr_rc (hh_rd (hh_obj hL0 (k := 99) rfl).1) (by decide)⟩)) c_1 ?_
  have hL1 := c_1.2
  refine tr_st (.istore 7) 2 7 0 (.int v1) rfl rfl rfl rfl rfl rfl rfl ?_
  refine tr_s (.aload_n 2) 1 1795 [some (.ref 0), some (.ref 1000), some (.ref 1099), some (.ref 1109), some (.ref 1110), some (.int x5), some (.int v0), some (.int v1), w8] [.ref 1099] h2 rfl rfl rfl ?_
  refine tr_call (.invokevirtual 180) 180 0 0 8 m_X9_thrown [.ref 1099] [] (some (.int v2)) h3 rfl rfl rfl rfl rfl rfl rfl rfl rfl (tr_cok rfl (Or.inr ⟨_, _, rfl, tr_rc (hh_rd (hh_obj hL1 (k := 99) rfl).1) (by decide)⟩)) c_2 ?_
  have hL2 := c_2.2
  refine tr_s (.iload 6) 2 1800 [some (.ref 0), some (.ref 1000), some (.ref 1099), some (.ref 1109), some (.ref 1110), some (.int x5), some (.int v0), some (.int v1), w8] [.int v0, .int v2] h3 rfl rfl rfl ?_
  exact tr_if2 .eq 5 1805 v2 v0 rfl rfl rfl (fun hc => t ((tr_eq hc).1 rfl)) (fun hc => f ((tr_eq hc).2 rfl))
theorem sg_law_1803 {g : tr_g} {d : Nat} {h : ev_AH} {r : ev_O × ev_AH} {w0 w1 w2 w3 w4 w5 w6 w7 w8 : Option Value} (hL : hh_L h) (hr : r = (.inl (some (.int 0)), h)) : tr_L g d m_law 1803 [w0, w1, w2, w3, w4, w5, w6, w7, w8] [] h r := by
  refine tr_ic 0 0 (by decide) rfl ?_
  exact tl_ret hL .ireturn 1 (some (.int 0)) rfl rfl rfl rfl hr
theorem sg_law_1805 {g : tr_g} {d : Nat} {h : ev_AH} {r : ev_O × ev_AH} {x5 x6 x7 : Int32} {w8 : Option Value} (hL : hh_L h) (t : x6 ≠ 0 → tr_L g d m_law 1822 [some (.ref 0), some (.ref 1000), some (.ref 1099), some (.ref 1109), some (.ref 1110), some (.int x5), some (.int x6), some (.int x7), w8] [] h r) (f : x6 = 0 → tr_L g d m_law 1810 [some (.ref 0), some (.ref 1000), some (.ref 1099), some (.ref 1109), some (.ref 1110), some (.int x5), some (.int x6), some (.int x7), w8] [] h r) : tr_L g d m_law 1805 [some (.ref 0), some (.ref 1000), some (.ref 1099), some (.ref 1109), some (.ref 1110), some (.int x5), some (.int x6), some (.int x7), w8] [] h r := by
  refine tr_s (.iload 6) 2 1807 [some (.ref 0), some (.ref 1000), some (.ref 1099), some (.ref 1109), some (.ref 1110), some (.int x5), some (.int x6), some (.int x7), w8] [.int x6] h rfl rfl rfl ?_
  exact tr_if1 .ne 15 1822 x6 rfl rfl rfl (fun hc => t ((tr_ne hc).1 rfl)) (fun hc => f ((tr_ne hc).2 rfl))
theorem sg_law_1810 {g : tr_g} {d : Nat} {h : ev_AH} {r : ev_O × ev_AH} {x5 x7 : Int32} {w6 w8 : Option Value} {u0 : Int64} (hL : hh_L h) (p0 : (hh_v h 109)[0]? = some (.long u0)) (t : (lg_cmp u0 x7.toInt64) = 0 → tr_L g d m_law 1822 [some (.ref 0), some (.ref 1000), some (.ref 1099), some (.ref 1109), some (.ref 1110), some (.int x5), w6, some (.int x7), w8] [] h r) (f : (lg_cmp u0 x7.toInt64) ≠ 0 → tr_L g d m_law 1820 [some (.ref 0), some (.ref 1000), some (.ref 1099), some (.ref 1109), some (.ref 1110), some (.int x5), w6, some (.int x7), w8] [] h r) : tr_L g d m_law 1810 [some (.ref 0), some (.ref 1000), some (.ref 1099), some (.ref 1109), some (.ref 1110), some (.int x5), w6, some (.int x7), w8] [] h r := by
  refine tr_s (.aload_n 3) 1 1811 [some (.ref 0), some (.ref 1000), some (.ref 1099), some (.ref 1109), some (.ref 1110), some (.int x5), w6, some (.int x7), w8] [.ref 1109] h rfl rfl rfl ?_
  refine tr_ic 0 0 (by decide) rfl ?_
  refine tr_lald 1109 u0 _ rfl (by decide) (hh_rd (hh_obj hL (k := 109) rfl).1) (hh_obj hL (k := 109) rfl).2 p0 ?_
  refine tr_s (.iload 7) 2 1815 [some (.ref 0), some (.ref 1000), some (.ref 1099), some (.ref 1109), some (.ref 1110), some (.int x5), w6, some (.int x7), w8] [.int x7, .long u0] h rfl rfl rfl ?_
  refine tr_s .i2l 1 1816 [some (.ref 0), some (.ref 1000), some (.ref 1099), some (.ref 1109), some (.ref 1110), some (.int x5), w6, some (.int x7), w8] [.long x7.toInt64, .long u0] h rfl rfl rfl ?_
  refine tr_s .lcmp 1 1817 [some (.ref 0), some (.ref 1000), some (.ref 1099), some (.ref 1109), some (.ref 1110), some (.int x5), w6, some (.int x7), w8] [.int (lg_cmp u0 x7.toInt64)] h rfl rfl rfl ?_
  exact tr_if1 .eq 5 1822 (lg_cmp u0 x7.toInt64) rfl rfl rfl (fun hc => t ((tr_eq hc).1 rfl)) (fun hc => f ((tr_eq hc).2 rfl))
theorem sg_law_1820 {g : tr_g} {d : Nat} {h : ev_AH} {r : ev_O × ev_AH} {w0 w1 w2 w3 w4 w5 w6 w7 w8 : Option Value} (hL : hh_L h) (hr : r = (.inl (some (.int 0)), h)) : tr_L g d m_law 1820 [w0, w1, w2, w3, w4, w5, w6, w7, w8] [] h r := by
  refine tr_ic 0 0 (by decide) rfl ?_
  exact tl_ret hL .ireturn 1 (some (.int 0)) rfl rfl rfl rfl hr
theorem sg_law_1822 {g : tr_g} {d : Nat} {h : ev_AH} {r : ev_O × ev_AH} {x5 : Int32} {w6 w7 w8 : Option Value} (hL : hh_L h) (k : tr_L g d m_law 28 [some (.ref 0), some (.ref 1000), some (.ref 1099), some (.ref 1109), some (.ref 1110), some (.int (x5 + 5)), w6, w7, w8] [] h r) : tr_L g d m_law 1822 [some (.ref 0), some (.ref 1000), some (.ref 1099), some (.ref 1109), some (.ref 1110), some (.int x5), w6, w7, w8] [] h r := by
  refine tr_goto 1139 2961 rfl rfl rfl ?_
  refine tr_inc 5 5 x5 5 (by decide) rfl rfl rfl ?_
  refine tr_goto (-2936) 28 rfl rfl rfl ?_
  exact k
theorem sg_law_1825 {g : tr_g} {d : Nat} {h : ev_AH} {r : ev_O × ev_AH} {x5 v0 v1 v2 : Int32} {w6 w7 w8 : Option Value} {h1 h2 h3 : ev_AH} (hL : hh_L h) (c_0 : tr_L g d m_L_strengthWinner 0 [some (.ref 1000), some (.ref 1109), none] [] h (.inl (some (.int v0)), h1)) (c_1 : tr_L g d m_X9_strengthWinner 0 [some (.ref 1099)] [] h1 (.inl (some (.int v1)), h2)) (c_2 : tr_L g d m_X9_thrown 0 [some (.ref 1099)] [] h2 (.inl (some (.int v2)), h3)) (t : v2 = v0 → tr_L g (d + 1) m_law 1849 [some (.ref 0), some (.ref 1000), some (.ref 1099), some (.ref 1109), some (.ref 1110), some (.int x5), some (.int v0), some (.int v1), w8] [] h3 r) (f : v2 ≠ v0 → tr_L g (d + 1) m_law 1847 [some (.ref 0), some (.ref 1000), some (.ref 1099), some (.ref 1109), some (.ref 1110), some (.int x5), some (.int v0), some (.int v1), w8] [] h3 r) : tr_L g (d + 1) m_law 1825 [some (.ref 0), some (.ref 1000), some (.ref 1099), some (.ref 1109), some (.ref 1110), some (.int x5), w6, w7, w8] [] h r := by
  refine tr_s (.aload_n 1) 1 1826 [some (.ref 0), some (.ref 1000), some (.ref 1099), some (.ref 1109), some (.ref 1110), some (.int x5), w6, w7, w8] [.ref 1000] h rfl rfl rfl ?_
  refine tr_s (.aload_n 3) 1 1827 [some (.ref 0), some (.ref 1000), some (.ref 1099), some (.ref 1109), some (.ref 1110), some (.int x5), w6, w7, w8] [.ref 1109, .ref 1000] h rfl rfl rfl ?_
  refine tr_call (.invokestatic 265) 265 8 2 0 m_L_strengthWinner [.ref 1000, .ref 1109] [] (some (.int v0)) h1 rfl rfl rfl rfl rfl rfl rfl rfl rfl (tr_cok rfl (Or.inl rfl)) c_0 ?_
  have hL0 := c_0.2
  refine tr_st (.istore 6) 2 6 0 (.int v0) rfl rfl rfl rfl rfl rfl rfl ?_
  refine tr_s (.aload_n 2) 1 1833 [some (.ref 0), some (.ref 1000), some (.ref 1099), some (.ref 1109), some (.ref 1110), some (.int x5), some (.int v0), w7, w8] [.ref 1099] h1 rfl rfl rfl ?_
  refine tr_call (.invokevirtual 267) 267 0 0 8 m_X9_strengthWinner [.ref 1099] [] (some (.int v1)) h2 rfl rfl rfl rfl rfl rfl rfl rfl rfl (tr_cok rfl (Or.inr ⟨_, _, rfl, tr_rc (hh_rd (hh_obj hL0 (k := 99) rfl).1) (by decide)⟩)) c_1 ?_
  have hL1 := c_1.2
  refine tr_st (.istore 7) 2 7 0 (.int v1) rfl rfl rfl rfl rfl rfl rfl ?_
  refine tr_s (.aload_n 2) 1 1839 [some (.ref 0), some (.ref 1000), some (.ref 1099), some (.ref 1109), some (.ref 1110), some (.int x5), some (.int v0), some (.int v1), w8] [.ref 1099] h2 rfl rfl rfl ?_
  refine tr_call (.invokevirtual 180) 180 0 0 8 m_X9_thrown [.ref 1099] [] (some (.int v2)) h3 rfl rfl rfl rfl rfl rfl rfl rfl rfl (tr_cok rfl (Or.inr ⟨_, _, rfl, tr_rc (hh_rd (hh_obj hL1 (k := 99) rfl).1) (by decide)⟩)) c_2 ?_
  have hL2 := c_2.2
  refine tr_s (.iload 6) 2 1844 [some (.ref 0), some (.ref 1000), some (.ref 1099), some (.ref 1109), some (.ref 1110), some (.int x5), some (.int v0), some (.int v1), w8] [.int v0, .int v2] h3 rfl rfl rfl ?_
  exact tr_if2 .eq 5 1849 v2 v0 rfl rfl rfl (fun hc => t ((tr_eq hc).1 rfl)) (fun hc => f ((tr_eq hc).2 rfl))
theorem sg_law_1847 {g : tr_g} {d : Nat} {h : ev_AH} {r : ev_O × ev_AH} {w0 w1 w2 w3 w4 w5 w6 w7 w8 : Option Value} (hL : hh_L h) (hr : r = (.inl (some (.int 0)), h)) : tr_L g d m_law 1847 [w0, w1, w2, w3, w4, w5, w6, w7, w8] [] h r := by
  refine tr_ic 0 0 (by decide) rfl ?_
  exact tl_ret hL .ireturn 1 (some (.int 0)) rfl rfl rfl rfl hr
theorem sg_law_1849 {g : tr_g} {d : Nat} {h : ev_AH} {r : ev_O × ev_AH} {x5 x6 x7 : Int32} {w8 : Option Value} (hL : hh_L h) (t : x6 ≠ 0 → tr_L g d m_law 1866 [some (.ref 0), some (.ref 1000), some (.ref 1099), some (.ref 1109), some (.ref 1110), some (.int x5), some (.int x6), some (.int x7), w8] [] h r) (f : x6 = 0 → tr_L g d m_law 1854 [some (.ref 0), some (.ref 1000), some (.ref 1099), some (.ref 1109), some (.ref 1110), some (.int x5), some (.int x6), some (.int x7), w8] [] h r) : tr_L g d m_law 1849 [some (.ref 0), some (.ref 1000), some (.ref 1099), some (.ref 1109), some (.ref 1110), some (.int x5), some (.int x6), some (.int x7), w8] [] h r := by
  refine tr_s (.iload 6) 2 1851 [some (.ref 0), some (.ref 1000), some (.ref 1099), some (.ref 1109), some (.ref 1110), some (.int x5), some (.int x6), some (.int x7), w8] [.int x6] h rfl rfl rfl ?_
  exact tr_if1 .ne 15 1866 x6 rfl rfl rfl (fun hc => t ((tr_ne hc).1 rfl)) (fun hc => f ((tr_ne hc).2 rfl))
theorem sg_law_1854 {g : tr_g} {d : Nat} {h : ev_AH} {r : ev_O × ev_AH} {x5 x7 : Int32} {w6 w8 : Option Value} {u0 : Int64} (hL : hh_L h) (p0 : (hh_v h 109)[0]? = some (.long u0)) (t : (lg_cmp u0 x7.toInt64) = 0 → tr_L g d m_law 1866 [some (.ref 0), some (.ref 1000), some (.ref 1099), some (.ref 1109), some (.ref 1110), some (.int x5), w6, some (.int x7), w8] [] h r) (f : (lg_cmp u0 x7.toInt64) ≠ 0 → tr_L g d m_law 1864 [some (.ref 0), some (.ref 1000), some (.ref 1099), some (.ref 1109), some (.ref 1110), some (.int x5), w6, some (.int x7), w8] [] h r) : tr_L g d m_law 1854 [some (.ref 0), some (.ref 1000), some (.ref 1099), some (.ref 1109), some (.ref 1110), some (.int x5), w6, some (.int x7), w8] [] h r := by
  refine tr_s (.aload_n 3) 1 1855 [some (.ref 0), some (.ref 1000), some (.ref 1099), some (.ref 1109), some (.ref 1110), some (.int x5), w6, some (.int x7), w8] [.ref 1109] h rfl rfl rfl ?_
  refine tr_ic 0 0 (by decide) rfl ?_
  refine tr_lald 1109 u0 _ rfl (by decide) (hh_rd (hh_obj hL (k := 109) rfl).1) (hh_obj hL (k := 109) rfl).2 p0 ?_
  refine tr_s (.iload 7) 2 1859 [some (.ref 0), some (.ref 1000), some (.ref 1099), some (.ref 1109), some (.ref 1110), some (.int x5), w6, some (.int x7), w8] [.int x7, .long u0] h rfl rfl rfl ?_
  refine tr_s .i2l 1 1860 [some (.ref 0), some (.ref 1000), some (.ref 1099), some (.ref 1109), some (.ref 1110), some (.int x5), w6, some (.int x7), w8] [.long x7.toInt64, .long u0] h rfl rfl rfl ?_
  refine tr_s .lcmp 1 1861 [some (.ref 0), some (.ref 1000), some (.ref 1099), some (.ref 1109), some (.ref 1110), some (.int x5), w6, some (.int x7), w8] [.int (lg_cmp u0 x7.toInt64)] h rfl rfl rfl ?_
  exact tr_if1 .eq 5 1866 (lg_cmp u0 x7.toInt64) rfl rfl rfl (fun hc => t ((tr_eq hc).1 rfl)) (fun hc => f ((tr_eq hc).2 rfl))
theorem sg_law_1864 {g : tr_g} {d : Nat} {h : ev_AH} {r : ev_O × ev_AH} {w0 w1 w2 w3 w4 w5 w6 w7 w8 : Option Value} (hL : hh_L h) (hr : r = (.inl (some (.int 0)), h)) : tr_L g d m_law 1864 [w0, w1, w2, w3, w4, w5, w6, w7, w8] [] h r := by
  refine tr_ic 0 0 (by decide) rfl ?_
  exact tl_ret hL .ireturn 1 (some (.int 0)) rfl rfl rfl rfl hr
theorem sg_law_1866 {g : tr_g} {d : Nat} {h : ev_AH} {r : ev_O × ev_AH} {x5 : Int32} {w6 w7 w8 : Option Value} (hL : hh_L h) (k : tr_L g d m_law 28 [some (.ref 0), some (.ref 1000), some (.ref 1099), some (.ref 1109), some (.ref 1110), some (.int (x5 + 5)), w6, w7, w8] [] h r) : tr_L g d m_law 1866 [some (.ref 0), some (.ref 1000), some (.ref 1099), some (.ref 1109), some (.ref 1110), some (.int x5), w6, w7, w8] [] h r := by
  refine tr_goto 1095 2961 rfl rfl rfl ?_
  refine tr_inc 5 5 x5 5 (by decide) rfl rfl rfl ?_
  refine tr_goto (-2936) 28 rfl rfl rfl ?_
  exact k
theorem sg_law_1869 {g : tr_g} {d : Nat} {h : ev_AH} {r : ev_O × ev_AH} {x5 v0 v1 v2 : Int32} {w6 w7 w8 : Option Value} {j0 j1 : Nat} {h1 h2 h3 : ev_AH} (hL : hh_L h) (e0 : x5 + 1 = Int32.ofNat j0) (b0 : j0 < g.1.length) (z0 : g.1.length < 2147483648) (c_0 : tr_L g d m_L_isDominant 0 [some (.ref 1000), some (.int (((g.1.getD j0 0).toUInt32 % 65536).toInt32)), some (.ref 1109), none] [] h (.inl (some (.int v0)), h1)) (e1 : x5 + 1 = Int32.ofNat j1) (b1 : j1 < g.1.length) (z1 : g.1.length < 2147483648) (c_1 : tr_L g d m_X9_isDominant 0 [some (.ref 1099), some (.int (((g.1.getD j1 0).toUInt32 % 65536).toInt32))] [] h1 (.inl (some (.int v1)), h2)) (c_2 : tr_L g d m_X9_thrown 0 [some (.ref 1099)] [] h2 (.inl (some (.int v2)), h3)) (t : v2 = v0 → tr_L g (d + 1) m_law 1907 [some (.ref 0), some (.ref 1000), some (.ref 1099), some (.ref 1109), some (.ref 1110), some (.int x5), some (.int v0), some (.int v1), w8] [] h3 r) (f : v2 ≠ v0 → tr_L g (d + 1) m_law 1905 [some (.ref 0), some (.ref 1000), some (.ref 1099), some (.ref 1109), some (.ref 1110), some (.int x5), some (.int v0), some (.int v1), w8] [] h3 r) : tr_L g (d + 1) m_law 1869 [some (.ref 0), some (.ref 1000), some (.ref 1099), some (.ref 1109), some (.ref 1110), some (.int x5), w6, w7, w8] [] h r := by
  refine tr_s (.aload_n 1) 1 1870 [some (.ref 0), some (.ref 1000), some (.ref 1099), some (.ref 1109), some (.ref 1110), some (.int x5), w6, w7, w8] [.ref 1000] h rfl rfl rfl ?_
  refine tr_s (.aload_n 0) 1 1871 [some (.ref 0), some (.ref 1000), some (.ref 1099), some (.ref 1109), some (.ref 1110), some (.int x5), w6, w7, w8] [.ref 0, .ref 1000] h rfl rfl rfl ?_
  refine tr_s (.iload 5) 2 1873 [some (.ref 0), some (.ref 1000), some (.ref 1099), some (.ref 1109), some (.ref 1110), some (.int x5), w6, w7, w8] [.int x5, .ref 0, .ref 1000] h rfl rfl rfl ?_
  refine tr_ic 1 1 (by decide) rfl ?_
  refine tr_s .iadd 1 1875 [some (.ref 0), some (.ref 1000), some (.ref 1099), some (.ref 1109), some (.ref 1110), some (.int x5), w6, w7, w8] [.int (x5 + 1), .ref 0, .ref 1000] h rfl rfl rfl ?_
  refine tr_ald .iaload 0 0 j0 (x5 + 1) g.1 (Or.inl ⟨rfl, rfl⟩) rfl rfl e0 b0 z0 ?_
  refine tr_s .i2c 1 1877 [some (.ref 0), some (.ref 1000), some (.ref 1099), some (.ref 1109), some (.ref 1110), some (.int x5), w6, w7, w8] [.int (((g.1.getD j0 0).toUInt32 % 65536).toInt32), .ref 1000] h rfl rfl rfl ?_
  refine tr_s (.aload_n 3) 1 1878 [some (.ref 0), some (.ref 1000), some (.ref 1099), some (.ref 1109), some (.ref 1110), some (.int x5), w6, w7, w8] [.ref 1109, .int (((g.1.getD j0 0).toUInt32 % 65536).toInt32), .ref 1000] h rfl rfl rfl ?_
  refine tr_call (.invokestatic 268) 268 8 3 0 m_L_isDominant [.ref 1000, .int (((g.1.getD j0 0).toUInt32 % 65536).toInt32), .ref 1109] [] (some (.int v0)) h1 rfl rfl rfl rfl rfl rfl rfl rfl rfl (tr_cok rfl (Or.inl rfl)) c_0 ?_
  have hL0 := c_0.2
  refine tr_st (.istore 6) 2 6 0 (.int v0) rfl rfl rfl rfl rfl rfl rfl ?_
  refine tr_s (.aload_n 2) 1 1884 [some (.ref 0), some (.ref 1000), some (.ref 1099), some (.ref 1109), some (.ref 1110), some (.int x5), some (.int v0), w7, w8] [.ref 1099] h1 rfl rfl rfl ?_
  refine tr_s (.aload_n 0) 1 1885 [some (.ref 0), some (.ref 1000), some (.ref 1099), some (.ref 1109), some (.ref 1110), some (.int x5), some (.int v0), w7, w8] [.ref 0, .ref 1099] h1 rfl rfl rfl ?_
  refine tr_s (.iload 5) 2 1887 [some (.ref 0), some (.ref 1000), some (.ref 1099), some (.ref 1109), some (.ref 1110), some (.int x5), some (.int v0), w7, w8] [.int x5, .ref 0, .ref 1099] h1 rfl rfl rfl ?_
  refine tr_ic 1 1 (by decide) rfl ?_
  refine tr_s .iadd 1 1889 [some (.ref 0), some (.ref 1000), some (.ref 1099), some (.ref 1109), some (.ref 1110), some (.int x5), some (.int v0), w7, w8] [.int (x5 + 1), .ref 0, .ref 1099] h1 rfl rfl rfl ?_
  refine tr_ald .iaload 0 0 j1 (x5 + 1) g.1 (Or.inl ⟨rfl, rfl⟩) rfl rfl e1 b1 z1 ?_
  refine tr_s .i2c 1 1891 [some (.ref 0), some (.ref 1000), some (.ref 1099), some (.ref 1109), some (.ref 1110), some (.int x5), some (.int v0), w7, w8] [.int (((g.1.getD j1 0).toUInt32 % 65536).toInt32), .ref 1099] h1 rfl rfl rfl ?_
  refine tr_call (.invokevirtual 270) 270 0 1 8 m_X9_isDominant [.ref 1099, .int (((g.1.getD j1 0).toUInt32 % 65536).toInt32)] [] (some (.int v1)) h2 rfl rfl rfl rfl rfl rfl rfl rfl rfl (tr_cok rfl (Or.inr ⟨_, _, rfl, tr_rc (hh_rd (hh_obj hL0 (k := 99) rfl).1) (by decide)⟩)) c_1 ?_
  have hL1 := c_1.2
  refine tr_st (.istore 7) 2 7 0 (.int v1) rfl rfl rfl rfl rfl rfl rfl ?_
  refine tr_s (.aload_n 2) 1 1897 [some (.ref 0), some (.ref 1000), some (.ref 1099), some (.ref 1109), some (.ref 1110), some (.int x5), some (.int v0), some (.int v1), w8] [.ref 1099] h2 rfl rfl rfl ?_
  refine tr_call (.invokevirtual 180) 180 0 0 8 m_X9_thrown [.ref 1099] [] (some (.int v2)) h3 rfl rfl rfl rfl rfl rfl rfl rfl rfl (tr_cok rfl (Or.inr ⟨_, _, rfl, tr_rc (hh_rd (hh_obj hL1 (k := 99) rfl).1) (by decide)⟩)) c_2 ?_
  have hL2 := c_2.2
  refine tr_s (.iload 6) 2 1902 [some (.ref 0), some (.ref 1000), some (.ref 1099), some (.ref 1109), some (.ref 1110), some (.int x5), some (.int v0), some (.int v1), w8] [.int v0, .int v2] h3 rfl rfl rfl ?_
  exact tr_if2 .eq 5 1907 v2 v0 rfl rfl rfl (fun hc => t ((tr_eq hc).1 rfl)) (fun hc => f ((tr_eq hc).2 rfl))
theorem sg_law_1905 {g : tr_g} {d : Nat} {h : ev_AH} {r : ev_O × ev_AH} {w0 w1 w2 w3 w4 w5 w6 w7 w8 : Option Value} (hL : hh_L h) (hr : r = (.inl (some (.int 0)), h)) : tr_L g d m_law 1905 [w0, w1, w2, w3, w4, w5, w6, w7, w8] [] h r := by
  refine tr_ic 0 0 (by decide) rfl ?_
  exact tl_ret hL .ireturn 1 (some (.int 0)) rfl rfl rfl rfl hr
theorem sg_law_1907 {g : tr_g} {d : Nat} {h : ev_AH} {r : ev_O × ev_AH} {x5 x6 x7 : Int32} {w8 : Option Value} (hL : hh_L h) (t : x6 ≠ 0 → tr_L g d m_law 1931 [some (.ref 0), some (.ref 1000), some (.ref 1099), some (.ref 1109), some (.ref 1110), some (.int x5), some (.int x6), some (.int x7), w8] [] h r) (f : x6 = 0 → tr_L g d m_law 1912 [some (.ref 0), some (.ref 1000), some (.ref 1099), some (.ref 1109), some (.ref 1110), some (.int x5), some (.int x6), some (.int x7), w8] [] h r) : tr_L g d m_law 1907 [some (.ref 0), some (.ref 1000), some (.ref 1099), some (.ref 1109), some (.ref 1110), some (.int x5), some (.int x6), some (.int x7), w8] [] h r := by
  refine tr_s (.iload 6) 2 1909 [some (.ref 0), some (.ref 1000), some (.ref 1099), some (.ref 1109), some (.ref 1110), some (.int x5), some (.int x6), some (.int x7), w8] [.int x6] h rfl rfl rfl ?_
  exact tr_if1 .ne 22 1931 x6 rfl rfl rfl (fun hc => t ((tr_ne hc).1 rfl)) (fun hc => f ((tr_ne hc).2 rfl))
theorem sg_law_1912 {g : tr_g} {d : Nat} {h : ev_AH} {r : ev_O × ev_AH} {x5 x7 : Int32} {w6 w8 : Option Value} {u0 : Int64} (hL : hh_L h) (p0 : (hh_v h 109)[0]? = some (.long u0)) (t : x7 = 0 → tr_L g d m_law 1924 [some (.ref 0), some (.ref 1000), some (.ref 1099), some (.ref 1109), some (.ref 1110), some (.int x5), w6, some (.int x7), w8] [.long u0] h r) (f : x7 ≠ 0 → tr_L g d m_law 1920 [some (.ref 0), some (.ref 1000), some (.ref 1099), some (.ref 1109), some (.ref 1110), some (.int x5), w6, some (.int x7), w8] [.long u0] h r) : tr_L g d m_law 1912 [some (.ref 0), some (.ref 1000), some (.ref 1099), some (.ref 1109), some (.ref 1110), some (.int x5), w6, some (.int x7), w8] [] h r := by
  refine tr_s (.aload_n 3) 1 1913 [some (.ref 0), some (.ref 1000), some (.ref 1099), some (.ref 1109), some (.ref 1110), some (.int x5), w6, some (.int x7), w8] [.ref 1109] h rfl rfl rfl ?_
  refine tr_ic 0 0 (by decide) rfl ?_
  refine tr_lald 1109 u0 _ rfl (by decide) (hh_rd (hh_obj hL (k := 109) rfl).1) (hh_obj hL (k := 109) rfl).2 p0 ?_
  refine tr_s (.iload 7) 2 1917 [some (.ref 0), some (.ref 1000), some (.ref 1099), some (.ref 1109), some (.ref 1110), some (.int x5), w6, some (.int x7), w8] [.int x7, .long u0] h rfl rfl rfl ?_
  exact tr_if1 .eq 7 1924 x7 rfl rfl rfl (fun hc => t ((tr_eq hc).1 rfl)) (fun hc => f ((tr_eq hc).2 rfl))
theorem sg_law_1920 {g : tr_g} {d : Nat} {h : ev_AH} {r : ev_O × ev_AH} {x5 : Int32} {w6 w7 w8 : Option Value} {s0 : Int64} (hL : hh_L h) (t : (lg_cmp s0 (1 : Int64)) = 0 → tr_L g d m_law 1931 [some (.ref 0), some (.ref 1000), some (.ref 1099), some (.ref 1109), some (.ref 1110), some (.int x5), w6, w7, w8] [] h r) (f : (lg_cmp s0 (1 : Int64)) ≠ 0 → tr_L g d m_law 1929 [some (.ref 0), some (.ref 1000), some (.ref 1099), some (.ref 1109), some (.ref 1110), some (.int x5), w6, w7, w8] [] h r) : tr_L g d m_law 1920 [some (.ref 0), some (.ref 1000), some (.ref 1099), some (.ref 1109), some (.ref 1110), some (.int x5), w6, w7, w8] [.long s0] h r := by
  refine tr_s (.lconst 1) 1 1921 [some (.ref 0), some (.ref 1000), some (.ref 1099), some (.ref 1109), some (.ref 1110), some (.int x5), w6, w7, w8] [.long (1 : Int64), .long s0] h rfl rfl rfl ?_
  refine tr_goto 4 1925 rfl rfl rfl ?_
  refine tr_s .lcmp 1 1926 [some (.ref 0), some (.ref 1000), some (.ref 1099), some (.ref 1109), some (.ref 1110), some (.int x5), w6, w7, w8] [.int (lg_cmp s0 (1 : Int64))] h rfl rfl rfl ?_
  exact tr_if1 .eq 5 1931 (lg_cmp s0 (1 : Int64)) rfl rfl rfl (fun hc => t ((tr_eq hc).1 rfl)) (fun hc => f ((tr_eq hc).2 rfl))
theorem sg_law_1924 {g : tr_g} {d : Nat} {h : ev_AH} {r : ev_O × ev_AH} {x5 : Int32} {w6 w7 w8 : Option Value} {s0 : Int64} (hL : hh_L h) (t : (lg_cmp s0 (0 : Int64)) = 0 → tr_L g d m_law 1931 [some (.ref 0), some (.ref 1000), some (.ref 1099), some (.ref 1109), some (.ref 1110), some (.int x5), w6, w7, w8] [] h r) (f : (lg_cmp s0 (0 : Int64)) ≠ 0 → tr_L g d m_law 1929 [some (.ref 0), some (.ref 1000), some (.ref 1099), some (.ref 1109), some (.ref 1110), some (.int x5), w6, w7, w8] [] h r) : tr_L g d m_law 1924 [some (.ref 0), some (.ref 1000), some (.ref 1099), some (.ref 1109), some (.ref 1110), some (.int x5), w6, w7, w8] [.long s0] h r := by
  refine tr_s (.lconst 0) 1 1925 [some (.ref 0), some (.ref 1000), some (.ref 1099), some (.ref 1109), some (.ref 1110), some (.int x5), w6, w7, w8] [.long (0 : Int64), .long s0] h rfl rfl rfl ?_
  refine tr_s .lcmp 1 1926 [some (.ref 0), some (.ref 1000), some (.ref 1099), some (.ref 1109), some (.ref 1110), some (.int x5), w6, w7, w8] [.int (lg_cmp s0 (0 : Int64))] h rfl rfl rfl ?_
  exact tr_if1 .eq 5 1931 (lg_cmp s0 (0 : Int64)) rfl rfl rfl (fun hc => t ((tr_eq hc).1 rfl)) (fun hc => f ((tr_eq hc).2 rfl))
theorem sg_law_1929 {g : tr_g} {d : Nat} {h : ev_AH} {r : ev_O × ev_AH} {w0 w1 w2 w3 w4 w5 w6 w7 w8 : Option Value} (hL : hh_L h) (hr : r = (.inl (some (.int 0)), h)) : tr_L g d m_law 1929 [w0, w1, w2, w3, w4, w5, w6, w7, w8] [] h r := by
  refine tr_ic 0 0 (by decide) rfl ?_
  exact tl_ret hL .ireturn 1 (some (.int 0)) rfl rfl rfl rfl hr
theorem sg_law_1931 {g : tr_g} {d : Nat} {h : ev_AH} {r : ev_O × ev_AH} {x5 : Int32} {w6 w7 w8 : Option Value} (hL : hh_L h) (k : tr_L g d m_law 28 [some (.ref 0), some (.ref 1000), some (.ref 1099), some (.ref 1109), some (.ref 1110), some (.int (x5 + 5)), w6, w7, w8] [] h r) : tr_L g d m_law 1931 [some (.ref 0), some (.ref 1000), some (.ref 1099), some (.ref 1109), some (.ref 1110), some (.int x5), w6, w7, w8] [] h r := by
  refine tr_goto 1030 2961 rfl rfl rfl ?_
  refine tr_inc 5 5 x5 5 (by decide) rfl rfl rfl ?_
  refine tr_goto (-2936) 28 rfl rfl rfl ?_
  exact k
theorem sg_law_1934 {g : tr_g} {d : Nat} {h : ev_AH} {r : ev_O × ev_AH} {x5 v0 v1 v2 : Int32} {w6 w7 w8 : Option Value} {j0 j1 : Nat} {h1 h2 h3 : ev_AH} (hL : hh_L h) (e0 : x5 + 1 = Int32.ofNat j0) (b0 : j0 < g.1.length) (z0 : g.1.length < 2147483648) (c_0 : tr_L g d m_L_setMethod 0 [some (.ref 1000), some (.int (((g.1.getD j0 0).toUInt32 % 65536).toInt32)), some (.ref 1109), none] [] h (.inl (some (.int v0)), h1)) (e1 : x5 + 1 = Int32.ofNat j1) (b1 : j1 < g.1.length) (z1 : g.1.length < 2147483648) (c_1 : tr_L g d m_X9_setMethod 0 [some (.ref 1099), some (.int (((g.1.getD j1 0).toUInt32 % 65536).toInt32))] [] h1 (.inl (some (.int v1)), h2)) (c_2 : tr_L g d m_X9_thrown 0 [some (.ref 1099)] [] h2 (.inl (some (.int v2)), h3)) (t : v2 = v0 → tr_L g (d + 1) m_law 1972 [some (.ref 0), some (.ref 1000), some (.ref 1099), some (.ref 1109), some (.ref 1110), some (.int x5), some (.int v0), some (.int v1), w8] [] h3 r) (f : v2 ≠ v0 → tr_L g (d + 1) m_law 1970 [some (.ref 0), some (.ref 1000), some (.ref 1099), some (.ref 1109), some (.ref 1110), some (.int x5), some (.int v0), some (.int v1), w8] [] h3 r) : tr_L g (d + 1) m_law 1934 [some (.ref 0), some (.ref 1000), some (.ref 1099), some (.ref 1109), some (.ref 1110), some (.int x5), w6, w7, w8] [] h r := by
  refine tr_s (.aload_n 1) 1 1935 [some (.ref 0), some (.ref 1000), some (.ref 1099), some (.ref 1109), some (.ref 1110), some (.int x5), w6, w7, w8] [.ref 1000] h rfl rfl rfl ?_
  refine tr_s (.aload_n 0) 1 1936 [some (.ref 0), some (.ref 1000), some (.ref 1099), some (.ref 1109), some (.ref 1110), some (.int x5), w6, w7, w8] [.ref 0, .ref 1000] h rfl rfl rfl ?_
  refine tr_s (.iload 5) 2 1938 [some (.ref 0), some (.ref 1000), some (.ref 1099), some (.ref 1109), some (.ref 1110), some (.int x5), w6, w7, w8] [.int x5, .ref 0, .ref 1000] h rfl rfl rfl ?_
  refine tr_ic 1 1 (by decide) rfl ?_
  refine tr_s .iadd 1 1940 [some (.ref 0), some (.ref 1000), some (.ref 1099), some (.ref 1109), some (.ref 1110), some (.int x5), w6, w7, w8] [.int (x5 + 1), .ref 0, .ref 1000] h rfl rfl rfl ?_
  refine tr_ald .iaload 0 0 j0 (x5 + 1) g.1 (Or.inl ⟨rfl, rfl⟩) rfl rfl e0 b0 z0 ?_
  refine tr_s .i2c 1 1942 [some (.ref 0), some (.ref 1000), some (.ref 1099), some (.ref 1109), some (.ref 1110), some (.int x5), w6, w7, w8] [.int (((g.1.getD j0 0).toUInt32 % 65536).toInt32), .ref 1000] h rfl rfl rfl ?_
  refine tr_s (.aload_n 3) 1 1943 [some (.ref 0), some (.ref 1000), some (.ref 1099), some (.ref 1109), some (.ref 1110), some (.int x5), w6, w7, w8] [.ref 1109, .int (((g.1.getD j0 0).toUInt32 % 65536).toInt32), .ref 1000] h rfl rfl rfl ?_
  refine tr_call (.invokestatic 271) 271 8 3 0 m_L_setMethod [.ref 1000, .int (((g.1.getD j0 0).toUInt32 % 65536).toInt32), .ref 1109] [] (some (.int v0)) h1 rfl rfl rfl rfl rfl rfl rfl rfl rfl (tr_cok rfl (Or.inl rfl)) c_0 ?_
  have hL0 := c_0.2
  refine tr_st (.istore 6) 2 6 0 (.int v0) rfl rfl rfl rfl rfl rfl rfl ?_
  refine tr_s (.aload_n 2) 1 1949 [some (.ref 0), some (.ref 1000), some (.ref 1099), some (.ref 1109), some (.ref 1110), some (.int x5), some (.int v0), w7, w8] [.ref 1099] h1 rfl rfl rfl ?_
  refine tr_s (.aload_n 0) 1 1950 [some (.ref 0), some (.ref 1000), some (.ref 1099), some (.ref 1109), some (.ref 1110), some (.int x5), some (.int v0), w7, w8] [.ref 0, .ref 1099] h1 rfl rfl rfl ?_
  refine tr_s (.iload 5) 2 1952 [some (.ref 0), some (.ref 1000), some (.ref 1099), some (.ref 1109), some (.ref 1110), some (.int x5), some (.int v0), w7, w8] [.int x5, .ref 0, .ref 1099] h1 rfl rfl rfl ?_
  refine tr_ic 1 1 (by decide) rfl ?_
  refine tr_s .iadd 1 1954 [some (.ref 0), some (.ref 1000), some (.ref 1099), some (.ref 1109), some (.ref 1110), some (.int x5), some (.int v0), w7, w8] [.int (x5 + 1), .ref 0, .ref 1099] h1 rfl rfl rfl ?_
  refine tr_ald .iaload 0 0 j1 (x5 + 1) g.1 (Or.inl ⟨rfl, rfl⟩) rfl rfl e1 b1 z1 ?_
  refine tr_s .i2c 1 1956 [some (.ref 0), some (.ref 1000), some (.ref 1099), some (.ref 1109), some (.ref 1110), some (.int x5), some (.int v0), w7, w8] [.int (((g.1.getD j1 0).toUInt32 % 65536).toInt32), .ref 1099] h1 rfl rfl rfl ?_
  refine tr_call (.invokevirtual 273) 273 0 1 8 m_X9_setMethod [.ref 1099, .int (((g.1.getD j1 0).toUInt32 % 65536).toInt32)] [] (some (.int v1)) h2 rfl rfl rfl rfl rfl rfl rfl rfl rfl (tr_cok rfl (Or.inr ⟨_, _, rfl, tr_rc (hh_rd (hh_obj hL0 (k := 99) rfl).1) (by decide)⟩)) c_1 ?_
  have hL1 := c_1.2
  refine tr_st (.istore 7) 2 7 0 (.int v1) rfl rfl rfl rfl rfl rfl rfl ?_
  refine tr_s (.aload_n 2) 1 1962 [some (.ref 0), some (.ref 1000), some (.ref 1099), some (.ref 1109), some (.ref 1110), some (.int x5), some (.int v0), some (.int v1), w8] [.ref 1099] h2 rfl rfl rfl ?_
  refine tr_call (.invokevirtual 180) 180 0 0 8 m_X9_thrown [.ref 1099] [] (some (.int v2)) h3 rfl rfl rfl rfl rfl rfl rfl rfl rfl (tr_cok rfl (Or.inr ⟨_, _, rfl, tr_rc (hh_rd (hh_obj hL1 (k := 99) rfl).1) (by decide)⟩)) c_2 ?_
  have hL2 := c_2.2
  refine tr_s (.iload 6) 2 1967 [some (.ref 0), some (.ref 1000), some (.ref 1099), some (.ref 1109), some (.ref 1110), some (.int x5), some (.int v0), some (.int v1), w8] [.int v0, .int v2] h3 rfl rfl rfl ?_
  exact tr_if2 .eq 5 1972 v2 v0 rfl rfl rfl (fun hc => t ((tr_eq hc).1 rfl)) (fun hc => f ((tr_eq hc).2 rfl))
theorem sg_law_1970 {g : tr_g} {d : Nat} {h : ev_AH} {r : ev_O × ev_AH} {w0 w1 w2 w3 w4 w5 w6 w7 w8 : Option Value} (hL : hh_L h) (hr : r = (.inl (some (.int 0)), h)) : tr_L g d m_law 1970 [w0, w1, w2, w3, w4, w5, w6, w7, w8] [] h r := by
  refine tr_ic 0 0 (by decide) rfl ?_
  exact tl_ret hL .ireturn 1 (some (.int 0)) rfl rfl rfl rfl hr
theorem sg_law_1972 {g : tr_g} {d : Nat} {h : ev_AH} {r : ev_O × ev_AH} {x5 x6 x7 : Int32} {w8 : Option Value} (hL : hh_L h) (t : x6 ≠ 0 → tr_L g d m_law 1989 [some (.ref 0), some (.ref 1000), some (.ref 1099), some (.ref 1109), some (.ref 1110), some (.int x5), some (.int x6), some (.int x7), w8] [] h r) (f : x6 = 0 → tr_L g d m_law 1977 [some (.ref 0), some (.ref 1000), some (.ref 1099), some (.ref 1109), some (.ref 1110), some (.int x5), some (.int x6), some (.int x7), w8] [] h r) : tr_L g d m_law 1972 [some (.ref 0), some (.ref 1000), some (.ref 1099), some (.ref 1109), some (.ref 1110), some (.int x5), some (.int x6), some (.int x7), w8] [] h r := by
  refine tr_s (.iload 6) 2 1974 [some (.ref 0), some (.ref 1000), some (.ref 1099), some (.ref 1109), some (.ref 1110), some (.int x5), some (.int x6), some (.int x7), w8] [.int x6] h rfl rfl rfl ?_
  exact tr_if1 .ne 15 1989 x6 rfl rfl rfl (fun hc => t ((tr_ne hc).1 rfl)) (fun hc => f ((tr_ne hc).2 rfl))
theorem sg_law_1977 {g : tr_g} {d : Nat} {h : ev_AH} {r : ev_O × ev_AH} {x5 x7 : Int32} {w6 w8 : Option Value} {u0 : Int64} (hL : hh_L h) (p0 : (hh_v h 109)[0]? = some (.long u0)) (t : (lg_cmp u0 x7.toInt64) = 0 → tr_L g d m_law 1989 [some (.ref 0), some (.ref 1000), some (.ref 1099), some (.ref 1109), some (.ref 1110), some (.int x5), w6, some (.int x7), w8] [] h r) (f : (lg_cmp u0 x7.toInt64) ≠ 0 → tr_L g d m_law 1987 [some (.ref 0), some (.ref 1000), some (.ref 1099), some (.ref 1109), some (.ref 1110), some (.int x5), w6, some (.int x7), w8] [] h r) : tr_L g d m_law 1977 [some (.ref 0), some (.ref 1000), some (.ref 1099), some (.ref 1109), some (.ref 1110), some (.int x5), w6, some (.int x7), w8] [] h r := by
  refine tr_s (.aload_n 3) 1 1978 [some (.ref 0), some (.ref 1000), some (.ref 1099), some (.ref 1109), some (.ref 1110), some (.int x5), w6, some (.int x7), w8] [.ref 1109] h rfl rfl rfl ?_
  refine tr_ic 0 0 (by decide) rfl ?_
  refine tr_lald 1109 u0 _ rfl (by decide) (hh_rd (hh_obj hL (k := 109) rfl).1) (hh_obj hL (k := 109) rfl).2 p0 ?_
  refine tr_s (.iload 7) 2 1982 [some (.ref 0), some (.ref 1000), some (.ref 1099), some (.ref 1109), some (.ref 1110), some (.int x5), w6, some (.int x7), w8] [.int x7, .long u0] h rfl rfl rfl ?_
  refine tr_s .i2l 1 1983 [some (.ref 0), some (.ref 1000), some (.ref 1099), some (.ref 1109), some (.ref 1110), some (.int x5), w6, some (.int x7), w8] [.long x7.toInt64, .long u0] h rfl rfl rfl ?_
  refine tr_s .lcmp 1 1984 [some (.ref 0), some (.ref 1000), some (.ref 1099), some (.ref 1109), some (.ref 1110), some (.int x5), w6, some (.int x7), w8] [.int (lg_cmp u0 x7.toInt64)] h rfl rfl rfl ?_
  exact tr_if1 .eq 5 1989 (lg_cmp u0 x7.toInt64) rfl rfl rfl (fun hc => t ((tr_eq hc).1 rfl)) (fun hc => f ((tr_eq hc).2 rfl))
theorem sg_law_1987 {g : tr_g} {d : Nat} {h : ev_AH} {r : ev_O × ev_AH} {w0 w1 w2 w3 w4 w5 w6 w7 w8 : Option Value} (hL : hh_L h) (hr : r = (.inl (some (.int 0)), h)) : tr_L g d m_law 1987 [w0, w1, w2, w3, w4, w5, w6, w7, w8] [] h r := by
  refine tr_ic 0 0 (by decide) rfl ?_
  exact tl_ret hL .ireturn 1 (some (.int 0)) rfl rfl rfl rfl hr
theorem sg_law_1989 {g : tr_g} {d : Nat} {h : ev_AH} {r : ev_O × ev_AH} {x5 : Int32} {w6 w7 w8 : Option Value} (hL : hh_L h) (k : tr_L g d m_law 28 [some (.ref 0), some (.ref 1000), some (.ref 1099), some (.ref 1109), some (.ref 1110), some (.int (x5 + 5)), w6, w7, w8] [] h r) : tr_L g d m_law 1989 [some (.ref 0), some (.ref 1000), some (.ref 1099), some (.ref 1109), some (.ref 1110), some (.int x5), w6, w7, w8] [] h r := by
  refine tr_goto 972 2961 rfl rfl rfl ?_
  refine tr_inc 5 5 x5 5 (by decide) rfl rfl rfl ?_
  refine tr_goto (-2936) 28 rfl rfl rfl ?_
  exact k
theorem sx_law_1992_1993 {g : tr_g} {d : Nat} {h : ev_AH} {r : ev_O × ev_AH} {x5 v0 : Int32} {w6 w7 w8 : Option Value} {h1 hx : ev_AH} {E : Nat} (hL : hh_L h) (cx : tr_L g d m_X8_method 0 [some (.ref 1000)] [] h (.inr E, hx)) (hr : r = (.inr E, hx)) : tr_L g (d + 1) m_law 1992 [some (.ref 0), some (.ref 1000), some (.ref 1099), some (.ref 1109), some (.ref 1110), some (.int x5), w6, w7, w8] [] h r := by
  refine tr_s (.aload_n 1) 1 1993 [some (.ref 0), some (.ref 1000), some (.ref 1099), some (.ref 1109), some (.ref 1110), some (.int x5), w6, w7, w8] [.ref 1000] h rfl rfl rfl ?_
  exact tr_callx (.invokevirtual 274) 274 0 0 0 m_X8_method [.ref 1000] [] E hx rfl rfl rfl rfl rfl rfl rfl rfl rfl (tr_cok rfl (Or.inr ⟨_, _, rfl, tr_rc (hh_rd (hh_obj hL (k := 0) rfl).1) (by decide)⟩)) rfl cx hr
theorem sg_law_1992 {g : tr_g} {d : Nat} {h : ev_AH} {r : ev_O × ev_AH} {x5 v0 v1 : Int32} {w6 w7 w8 : Option Value} {h1 h2 : ev_AH} (hL : hh_L h) (c_0 : tr_L g d m_X8_method 0 [some (.ref 1000)] [] h (.inl (some (.int v0)), h1)) (c_1 : tr_L g d m_X9_method 0 [some (.ref 1099)] [] h1 (.inl (some (.int v1)), h2)) (t : v0 = v1 → tr_L g (d + 1) m_law 2961 [some (.ref 0), some (.ref 1000), some (.ref 1099), some (.ref 1109), some (.ref 1110), some (.int x5), w6, w7, w8] [] h2 r) (f : v0 ≠ v1 → tr_L g (d + 1) m_law 2003 [some (.ref 0), some (.ref 1000), some (.ref 1099), some (.ref 1109), some (.ref 1110), some (.int x5), w6, w7, w8] [] h2 r) : tr_L g (d + 1) m_law 1992 [some (.ref 0), some (.ref 1000), some (.ref 1099), some (.ref 1109), some (.ref 1110), some (.int x5), w6, w7, w8] [] h r := by
  refine tr_s (.aload_n 1) 1 1993 [some (.ref 0), some (.ref 1000), some (.ref 1099), some (.ref 1109), some (.ref 1110), some (.int x5), w6, w7, w8] [.ref 1000] h rfl rfl rfl ?_
  refine tr_call (.invokevirtual 274) 274 0 0 0 m_X8_method [.ref 1000] [] (some (.int v0)) h1 rfl rfl rfl rfl rfl rfl rfl rfl rfl (tr_cok rfl (Or.inr ⟨_, _, rfl, tr_rc (hh_rd (hh_obj hL (k := 0) rfl).1) (by decide)⟩)) c_0 ?_
  have hL0 := c_0.2
  refine tr_s (.aload_n 2) 1 1997 [some (.ref 0), some (.ref 1000), some (.ref 1099), some (.ref 1109), some (.ref 1110), some (.int x5), w6, w7, w8] [.ref 1099, .int v0] h1 rfl rfl rfl ?_
  refine tr_call (.invokevirtual 277) 277 0 0 8 m_X9_method [.ref 1099] [.int v0] (some (.int v1)) h2 rfl rfl rfl rfl rfl rfl rfl rfl rfl (tr_cok rfl (Or.inr ⟨_, _, rfl, tr_rc (hh_rd (hh_obj hL0 (k := 99) rfl).1) (by decide)⟩)) c_1 ?_
  have hL1 := c_1.2
  exact tr_if2 .eq 961 2961 v0 v1 rfl rfl rfl (fun hc => t ((tr_eq hc).1 rfl)) (fun hc => f ((tr_eq hc).2 rfl))
theorem sg_law_2003 {g : tr_g} {d : Nat} {h : ev_AH} {r : ev_O × ev_AH} {w0 w1 w2 w3 w4 w5 w6 w7 w8 : Option Value} (hL : hh_L h) (hr : r = (.inl (some (.int 0)), h)) : tr_L g d m_law 2003 [w0, w1, w2, w3, w4, w5, w6, w7, w8] [] h r := by
  refine tr_ic 0 0 (by decide) rfl ?_
  exact tl_ret hL .ireturn 1 (some (.int 0)) rfl rfl rfl rfl hr
theorem sg_law_2005 {g : tr_g} {d : Nat} {h : ev_AH} {r : ev_O × ev_AH} {x5 v0 v1 v2 : Int32} {w6 w7 w8 : Option Value} {h1 h2 h3 : ev_AH} (hL : hh_L h) (c_0 : tr_L g d m_L_deliberate 0 [some (.ref 1000), some (.ref 1109), none] [] h (.inl (some (.int v0)), h1)) (c_1 : tr_L g d m_X9_deliberate 0 [some (.ref 1099)] [] h1 (.inl (some (.int v1)), h2)) (c_2 : tr_L g d m_X9_thrown 0 [some (.ref 1099)] [] h2 (.inl (some (.int v2)), h3)) (t : v2 = v0 → tr_L g (d + 1) m_law 2029 [some (.ref 0), some (.ref 1000), some (.ref 1099), some (.ref 1109), some (.ref 1110), some (.int x5), some (.int v0), some (.int v1), w8] [] h3 r) (f : v2 ≠ v0 → tr_L g (d + 1) m_law 2027 [some (.ref 0), some (.ref 1000), some (.ref 1099), some (.ref 1109), some (.ref 1110), some (.int x5), some (.int v0), some (.int v1), w8] [] h3 r) : tr_L g (d + 1) m_law 2005 [some (.ref 0), some (.ref 1000), some (.ref 1099), some (.ref 1109), some (.ref 1110), some (.int x5), w6, w7, w8] [] h r := by
  refine tr_s (.aload_n 1) 1 2006 [some (.ref 0), some (.ref 1000), some (.ref 1099), some (.ref 1109), some (.ref 1110), some (.int x5), w6, w7, w8] [.ref 1000] h rfl rfl rfl ?_
  refine tr_s (.aload_n 3) 1 2007 [some (.ref 0), some (.ref 1000), some (.ref 1099), some (.ref 1109), some (.ref 1110), some (.int x5), w6, w7, w8] [.ref 1109, .ref 1000] h rfl rfl rfl ?_
  refine tr_call (.invokestatic 278) 278 8 2 0 m_L_deliberate [.ref 1000, .ref 1109] [] (some (.int v0)) h1 rfl rfl rfl rfl rfl rfl rfl rfl rfl (tr_cok rfl (Or.inl rfl)) c_0 ?_
  have hL0 := c_0.2
  refine tr_st (.istore 6) 2 6 0 (.int v0) rfl rfl rfl rfl rfl rfl rfl ?_
  refine tr_s (.aload_n 2) 1 2013 [some (.ref 0), some (.ref 1000), some (.ref 1099), some (.ref 1109), some (.ref 1110), some (.int x5), some (.int v0), w7, w8] [.ref 1099] h1 rfl rfl rfl ?_
  refine tr_call (.invokevirtual 280) 280 0 0 8 m_X9_deliberate [.ref 1099] [] (some (.int v1)) h2 rfl rfl rfl rfl rfl rfl rfl rfl rfl (tr_cok rfl (Or.inr ⟨_, _, rfl, tr_rc (hh_rd (hh_obj hL0 (k := 99) rfl).1) (by decide)⟩)) c_1 ?_
  have hL1 := c_1.2
  refine tr_st (.istore 7) 2 7 0 (.int v1) rfl rfl rfl rfl rfl rfl rfl ?_
  refine tr_s (.aload_n 2) 1 2019 [some (.ref 0), some (.ref 1000), some (.ref 1099), some (.ref 1109), some (.ref 1110), some (.int x5), some (.int v0), some (.int v1), w8] [.ref 1099] h2 rfl rfl rfl ?_
  refine tr_call (.invokevirtual 180) 180 0 0 8 m_X9_thrown [.ref 1099] [] (some (.int v2)) h3 rfl rfl rfl rfl rfl rfl rfl rfl rfl (tr_cok rfl (Or.inr ⟨_, _, rfl, tr_rc (hh_rd (hh_obj hL1 (k := 99) rfl).1) (by decide)⟩)) c_2 ?_
  have hL2 := c_2.2
  refine tr_s (.iload 6) 2 2024 [some (.ref 0), some (.ref 1000), some (.ref 1099), some (.ref 1109), some (.ref 1110), some (.int x5), some (.int v0), some (.int v1), w8] [.int v0, .int v2] h3 rfl rfl rfl ?_
  exact tr_if2 .eq 5 2029 v2 v0 rfl rfl rfl (fun hc => t ((tr_eq hc).1 rfl)) (fun hc => f ((tr_eq hc).2 rfl))
theorem sg_law_2027 {g : tr_g} {d : Nat} {h : ev_AH} {r : ev_O × ev_AH} {w0 w1 w2 w3 w4 w5 w6 w7 w8 : Option Value} (hL : hh_L h) (hr : r = (.inl (some (.int 0)), h)) : tr_L g d m_law 2027 [w0, w1, w2, w3, w4, w5, w6, w7, w8] [] h r := by
  refine tr_ic 0 0 (by decide) rfl ?_
  exact tl_ret hL .ireturn 1 (some (.int 0)) rfl rfl rfl rfl hr
theorem sg_law_2029 {g : tr_g} {d : Nat} {h : ev_AH} {r : ev_O × ev_AH} {x5 x6 x7 : Int32} {w8 : Option Value} (hL : hh_L h) (t : x6 ≠ 0 → tr_L g d m_law 2046 [some (.ref 0), some (.ref 1000), some (.ref 1099), some (.ref 1109), some (.ref 1110), some (.int x5), some (.int x6), some (.int x7), w8] [] h r) (f : x6 = 0 → tr_L g d m_law 2034 [some (.ref 0), some (.ref 1000), some (.ref 1099), some (.ref 1109), some (.ref 1110), some (.int x5), some (.int x6), some (.int x7), w8] [] h r) : tr_L g d m_law 2029 [some (.ref 0), some (.ref 1000), some (.ref 1099), some (.ref 1109), some (.ref 1110), some (.int x5), some (.int x6), some (.int x7), w8] [] h r := by
  refine tr_s (.iload 6) 2 2031 [some (.ref 0), some (.ref 1000), some (.ref 1099), some (.ref 1109), some (.ref 1110), some (.int x5), some (.int x6), some (.int x7), w8] [.int x6] h rfl rfl rfl ?_
  exact tr_if1 .ne 15 2046 x6 rfl rfl rfl (fun hc => t ((tr_ne hc).1 rfl)) (fun hc => f ((tr_ne hc).2 rfl))
theorem sg_law_2034 {g : tr_g} {d : Nat} {h : ev_AH} {r : ev_O × ev_AH} {x5 x7 : Int32} {w6 w8 : Option Value} {u0 : Int64} (hL : hh_L h) (p0 : (hh_v h 109)[0]? = some (.long u0)) (t : (lg_cmp u0 x7.toInt64) = 0 → tr_L g d m_law 2046 [some (.ref 0), some (.ref 1000), some (.ref 1099), some (.ref 1109), some (.ref 1110), some (.int x5), w6, some (.int x7), w8] [] h r) (f : (lg_cmp u0 x7.toInt64) ≠ 0 → tr_L g d m_law 2044 [some (.ref 0), some (.ref 1000), some (.ref 1099), some (.ref 1109), some (.ref 1110), some (.int x5), w6, some (.int x7), w8] [] h r) : tr_L g d m_law 2034 [some (.ref 0), some (.ref 1000), some (.ref 1099), some (.ref 1109), some (.ref 1110), some (.int x5), w6, some (.int x7), w8] [] h r := by
  refine tr_s (.aload_n 3) 1 2035 [some (.ref 0), some (.ref 1000), some (.ref 1099), some (.ref 1109), some (.ref 1110), some (.int x5), w6, some (.int x7), w8] [.ref 1109] h rfl rfl rfl ?_
  refine tr_ic 0 0 (by decide) rfl ?_
  refine tr_lald 1109 u0 _ rfl (by decide) (hh_rd (hh_obj hL (k := 109) rfl).1) (hh_obj hL (k := 109) rfl).2 p0 ?_
  refine tr_s (.iload 7) 2 2039 [some (.ref 0), some (.ref 1000), some (.ref 1099), some (.ref 1109), some (.ref 1110), some (.int x5), w6, some (.int x7), w8] [.int x7, .long u0] h rfl rfl rfl ?_
  refine tr_s .i2l 1 2040 [some (.ref 0), some (.ref 1000), some (.ref 1099), some (.ref 1109), some (.ref 1110), some (.int x5), w6, some (.int x7), w8] [.long x7.toInt64, .long u0] h rfl rfl rfl ?_
  refine tr_s .lcmp 1 2041 [some (.ref 0), some (.ref 1000), some (.ref 1099), some (.ref 1109), some (.ref 1110), some (.int x5), w6, some (.int x7), w8] [.int (lg_cmp u0 x7.toInt64)] h rfl rfl rfl ?_
  exact tr_if1 .eq 5 2046 (lg_cmp u0 x7.toInt64) rfl rfl rfl (fun hc => t ((tr_eq hc).1 rfl)) (fun hc => f ((tr_eq hc).2 rfl))
theorem sg_law_2044 {g : tr_g} {d : Nat} {h : ev_AH} {r : ev_O × ev_AH} {w0 w1 w2 w3 w4 w5 w6 w7 w8 : Option Value} (hL : hh_L h) (hr : r = (.inl (some (.int 0)), h)) : tr_L g d m_law 2044 [w0, w1, w2, w3, w4, w5, w6, w7, w8] [] h r := by
  refine tr_ic 0 0 (by decide) rfl ?_
  exact tl_ret hL .ireturn 1 (some (.int 0)) rfl rfl rfl rfl hr
theorem sg_law_2046 {g : tr_g} {d : Nat} {h : ev_AH} {r : ev_O × ev_AH} {x5 : Int32} {w6 w7 w8 : Option Value} (hL : hh_L h) (k : tr_L g d m_law 28 [some (.ref 0), some (.ref 1000), some (.ref 1099), some (.ref 1109), some (.ref 1110), some (.int (x5 + 5)), w6, w7, w8] [] h r) : tr_L g d m_law 2046 [some (.ref 0), some (.ref 1000), some (.ref 1099), some (.ref 1109), some (.ref 1110), some (.int x5), w6, w7, w8] [] h r := by
  refine tr_goto 915 2961 rfl rfl rfl ?_
  refine tr_inc 5 5 x5 5 (by decide) rfl rfl rfl ?_
  refine tr_goto (-2936) 28 rfl rfl rfl ?_
  exact k
theorem sg_law_2049 {g : tr_g} {d : Nat} {h : ev_AH} {r : ev_O × ev_AH} {x5 v0 v1 v2 : Int32} {w6 w7 w8 : Option Value} {h1 h2 h3 : ev_AH} (hL : hh_L h) (c_0 : tr_L g d m_L_retry 0 [some (.ref 1000), some (.ref 1109), none] [] h (.inl (some (.int v0)), h1)) (c_1 : tr_L g d m_X9_retry 0 [some (.ref 1099)] [] h1 (.inl (some (.int v1)), h2)) (c_2 : tr_L g d m_X9_thrown 0 [some (.ref 1099)] [] h2 (.inl (some (.int v2)), h3)) (t : v2 = v0 → tr_L g (d + 1) m_law 2073 [some (.ref 0), some (.ref 1000), some (.ref 1099), some (.ref 1109), some (.ref 1110), some (.int x5), some (.int v0), some (.int v1), w8] [] h3 r) (f : v2 ≠ v0 → tr_L g (d + 1) m_law 2071 [some (.ref 0), some (.ref 1000), some (.ref 1099), some (.ref 1109), some (.ref 1110), some (.int x5), some (.int v0), some (.int v1), w8] [] h3 r) : tr_L g (d + 1) m_law 2049 [some (.ref 0), some (.ref 1000), some (.ref 1099), some (.ref 1109), some (.ref 1110), some (.int x5), w6, w7, w8] [] h r := by
  refine tr_s (.aload_n 1) 1 2050 [some (.ref 0), some (.ref 1000), some (.ref 1099), some (.ref 1109), some (.ref 1110), some (.int x5), w6, w7, w8] [.ref 1000] h rfl rfl rfl ?_
  refine tr_s (.aload_n 3) 1 2051 [some (.ref 0), some (.ref 1000), some (.ref 1099), some (.ref 1109), some (.ref 1110), some (.int x5), w6, w7, w8] [.ref 1109, .ref 1000] h rfl rfl rfl ?_
  refine tr_call (.invokestatic 281) 281 8 2 0 m_L_retry [.ref 1000, .ref 1109] [] (some (.int v0)) h1 rfl rfl rfl rfl rfl rfl rfl rfl rfl (tr_cok rfl (Or.inl rfl)) c_0 ?_
  have hL0 := c_0.2
  refine tr_st (.istore 6) 2 6 0 (.int v0) rfl rfl rfl rfl rfl rfl rfl ?_
  refine tr_s (.aload_n 2) 1 2057 [some (.ref 0), some (.ref 1000), some (.ref 1099), some (.ref 1109), some (.ref 1110), some (.int x5), some (.int v0), w7, w8] [.ref 1099] h1 rfl rfl rfl ?_
  refine tr_call (.invokevirtual 283) 283 0 0 8 m_X9_retry [.ref 1099] [] (some (.int v1)) h2 rfl rfl rfl rfl rfl rfl rfl rfl rfl (tr_cok rfl (Or.inr ⟨_, _, rfl, tr_rc (hh_rd (hh_obj hL0 (k := 99) rfl).1) (by decide)⟩)) c_1 ?_
  have hL1 := c_1.2
  refine tr_st (.istore 7) 2 7 0 (.int v1) rfl rfl rfl rfl rfl rfl rfl ?_
  refine tr_s (.aload_n 2) 1 2063 [some (.ref 0), some (.ref 1000), some (.ref 1099), some (.ref 1109), some (.ref 1110), some (.int x5), some (.int v0), some (.int v1), w8] [.ref 1099] h2 rfl rfl rfl ?_
  refine tr_call (.invokevirtual 180) 180 0 0 8 m_X9_thrown [.ref 1099] [] (some (.int v2)) h3 rfl rfl rfl rfl rfl rfl rfl rfl rfl (tr_cok rfl (Or.inr ⟨_, _, rfl, tr_rc (hh_rd (hh_obj hL1 (k := 99) rfl).1) (by decide)⟩)) c_2 ?_
  have hL2 := c_2.2
  refine tr_s (.iload 6) 2 2068 [some (.ref 0), some (.ref 1000), some (.ref 1099), some (.ref 1109), some (.ref 1110), some (.int x5), some (.int v0), some (.int v1), w8] [.int v0, .int v2] h3 rfl rfl rfl ?_
  exact tr_if2 .eq 5 2073 v2 v0 rfl rfl rfl (fun hc => t ((tr_eq hc).1 rfl)) (fun hc => f ((tr_eq hc).2 rfl))
theorem sg_law_2071 {g : tr_g} {d : Nat} {h : ev_AH} {r : ev_O × ev_AH} {w0 w1 w2 w3 w4 w5 w6 w7 w8 : Option Value} (hL : hh_L h) (hr : r = (.inl (some (.int 0)), h)) : tr_L g d m_law 2071 [w0, w1, w2, w3, w4, w5, w6, w7, w8] [] h r := by
  refine tr_ic 0 0 (by decide) rfl ?_
  exact tl_ret hL .ireturn 1 (some (.int 0)) rfl rfl rfl rfl hr
theorem sg_law_2073 {g : tr_g} {d : Nat} {h : ev_AH} {r : ev_O × ev_AH} {x5 x6 x7 : Int32} {w8 : Option Value} (hL : hh_L h) (t : x6 ≠ 0 → tr_L g d m_law 2090 [some (.ref 0), some (.ref 1000), some (.ref 1099), some (.ref 1109), some (.ref 1110), some (.int x5), some (.int x6), some (.int x7), w8] [] h r) (f : x6 = 0 → tr_L g d m_law 2078 [some (.ref 0), some (.ref 1000), some (.ref 1099), some (.ref 1109), some (.ref 1110), some (.int x5), some (.int x6), some (.int x7), w8] [] h r) : tr_L g d m_law 2073 [some (.ref 0), some (.ref 1000), some (.ref 1099), some (.ref 1109), some (.ref 1110), some (.int x5), some (.int x6), some (.int x7), w8] [] h r := by
  refine tr_s (.iload 6) 2 2075 [some (.ref 0), some (.ref 1000), some (.ref 1099), some (.ref 1109), some (.ref 1110), some (.int x5), some (.int x6), some (.int x7), w8] [.int x6] h rfl rfl rfl ?_
  exact tr_if1 .ne 15 2090 x6 rfl rfl rfl (fun hc => t ((tr_ne hc).1 rfl)) (fun hc => f ((tr_ne hc).2 rfl))
theorem sg_law_2078 {g : tr_g} {d : Nat} {h : ev_AH} {r : ev_O × ev_AH} {x5 x7 : Int32} {w6 w8 : Option Value} {u0 : Int64} (hL : hh_L h) (p0 : (hh_v h 109)[0]? = some (.long u0)) (t : (lg_cmp u0 x7.toInt64) = 0 → tr_L g d m_law 2090 [some (.ref 0), some (.ref 1000), some (.ref 1099), some (.ref 1109), some (.ref 1110), some (.int x5), w6, some (.int x7), w8] [] h r) (f : (lg_cmp u0 x7.toInt64) ≠ 0 → tr_L g d m_law 2088 [some (.ref 0), some (.ref 1000), some (.ref 1099), some (.ref 1109), some (.ref 1110), some (.int x5), w6, some (.int x7), w8] [] h r) : tr_L g d m_law 2078 [some (.ref 0), some (.ref 1000), some (.ref 1099), some (.ref 1109), some (.ref 1110), some (.int x5), w6, some (.int x7), w8] [] h r := by
  refine tr_s (.aload_n 3) 1 2079 [some (.ref 0), some (.ref 1000), some (.ref 1099), some (.ref 1109), some (.ref 1110), some (.int x5), w6, some (.int x7), w8] [.ref 1109] h rfl rfl rfl ?_
  refine tr_ic 0 0 (by decide) rfl ?_
  refine tr_lald 1109 u0 _ rfl (by decide) (hh_rd (hh_obj hL (k := 109) rfl).1) (hh_obj hL (k := 109) rfl).2 p0 ?_
  refine tr_s (.iload 7) 2 2083 [some (.ref 0), some (.ref 1000), some (.ref 1099), some (.ref 1109), some (.ref 1110), some (.int x5), w6, some (.int x7), w8] [.int x7, .long u0] h rfl rfl rfl ?_
  refine tr_s .i2l 1 2084 [some (.ref 0), some (.ref 1000), some (.ref 1099), some (.ref 1109), some (.ref 1110), some (.int x5), w6, some (.int x7), w8] [.long x7.toInt64, .long u0] h rfl rfl rfl ?_
  refine tr_s .lcmp 1 2085 [some (.ref 0), some (.ref 1000), some (.ref 1099), some (.ref 1109), some (.ref 1110), some (.int x5), w6, some (.int x7), w8] [.int (lg_cmp u0 x7.toInt64)] h rfl rfl rfl ?_
  exact tr_if1 .eq 5 2090 (lg_cmp u0 x7.toInt64) rfl rfl rfl (fun hc => t ((tr_eq hc).1 rfl)) (fun hc => f ((tr_eq hc).2 rfl))
theorem sg_law_2088 {g : tr_g} {d : Nat} {h : ev_AH} {r : ev_O × ev_AH} {w0 w1 w2 w3 w4 w5 w6 w7 w8 : Option Value} (hL : hh_L h) (hr : r = (.inl (some (.int 0)), h)) : tr_L g d m_law 2088 [w0, w1, w2, w3, w4, w5, w6, w7, w8] [] h r := by
  refine tr_ic 0 0 (by decide) rfl ?_
  exact tl_ret hL .ireturn 1 (some (.int 0)) rfl rfl rfl rfl hr
theorem sg_law_2090 {g : tr_g} {d : Nat} {h : ev_AH} {r : ev_O × ev_AH} {x5 : Int32} {w6 w7 w8 : Option Value} (hL : hh_L h) (k : tr_L g d m_law 28 [some (.ref 0), some (.ref 1000), some (.ref 1099), some (.ref 1109), some (.ref 1110), some (.int (x5 + 5)), w6, w7, w8] [] h r) : tr_L g d m_law 2090 [some (.ref 0), some (.ref 1000), some (.ref 1099), some (.ref 1109), some (.ref 1110), some (.int x5), w6, w7, w8] [] h r := by
  refine tr_goto 871 2961 rfl rfl rfl ?_
  refine tr_inc 5 5 x5 5 (by decide) rfl rfl rfl ?_
  refine tr_goto (-2936) 28 rfl rfl rfl ?_
  exact k
theorem sx_law_2093_2094 {g : tr_g} {d : Nat} {h : ev_AH} {r : ev_O × ev_AH} {x5 v0 : Int32} {w6 w7 w8 : Option Value} {h1 hx : ev_AH} {E : Nat} (hL : hh_L h) (cx : tr_L g d m_X8_hasCause 0 [some (.ref 1000)] [] h (.inr E, hx)) (hr : r = (.inr E, hx)) : tr_L g (d + 1) m_law 2093 [some (.ref 0), some (.ref 1000), some (.ref 1099), some (.ref 1109), some (.ref 1110), some (.int x5), w6, w7, w8] [] h r := by
  refine tr_s (.aload_n 1) 1 2094 [some (.ref 0), some (.ref 1000), some (.ref 1099), some (.ref 1109), some (.ref 1110), some (.int x5), w6, w7, w8] [.ref 1000] h rfl rfl rfl ?_
  exact tr_callx (.invokevirtual 284) 284 0 0 0 m_X8_hasCause [.ref 1000] [] E hx rfl rfl rfl rfl rfl rfl rfl rfl rfl (tr_cok rfl (Or.inr ⟨_, _, rfl, tr_rc (hh_rd (hh_obj hL (k := 0) rfl).1) (by decide)⟩)) rfl cx hr
theorem sg_law_2093 {g : tr_g} {d : Nat} {h : ev_AH} {r : ev_O × ev_AH} {x5 v0 v1 : Int32} {w6 w7 w8 : Option Value} {h1 h2 : ev_AH} (hL : hh_L h) (c_0 : tr_L g d m_X8_hasCause 0 [some (.ref 1000)] [] h (.inl (some (.int v0)), h1)) (c_1 : tr_L g d m_X9_hasCause 0 [some (.ref 1099)] [] h1 (.inl (some (.int v1)), h2)) (t : v0 = v1 → tr_L g (d + 1) m_law 2961 [some (.ref 0), some (.ref 1000), some (.ref 1099), some (.ref 1109), some (.ref 1110), some (.int x5), w6, w7, w8] [] h2 r) (f : v0 ≠ v1 → tr_L g (d + 1) m_law 2104 [some (.ref 0), some (.ref 1000), some (.ref 1099), some (.ref 1109), some (.ref 1110), some (.int x5), w6, w7, w8] [] h2 r) : tr_L g (d + 1) m_law 2093 [some (.ref 0), some (.ref 1000), some (.ref 1099), some (.ref 1109), some (.ref 1110), some (.int x5), w6, w7, w8] [] h r := by
  refine tr_s (.aload_n 1) 1 2094 [some (.ref 0), some (.ref 1000), some (.ref 1099), some (.ref 1109), some (.ref 1110), some (.int x5), w6, w7, w8] [.ref 1000] h rfl rfl rfl ?_
  refine tr_call (.invokevirtual 284) 284 0 0 0 m_X8_hasCause [.ref 1000] [] (some (.int v0)) h1 rfl rfl rfl rfl rfl rfl rfl rfl rfl (tr_cok rfl (Or.inr ⟨_, _, rfl, tr_rc (hh_rd (hh_obj hL (k := 0) rfl).1) (by decide)⟩)) c_0 ?_
  have hL0 := c_0.2
  refine tr_s (.aload_n 2) 1 2098 [some (.ref 0), some (.ref 1000), some (.ref 1099), some (.ref 1109), some (.ref 1110), some (.int x5), w6, w7, w8] [.ref 1099, .int v0] h1 rfl rfl rfl ?_
  refine tr_call (.invokevirtual 288) 288 0 0 8 m_X9_hasCause [.ref 1099] [.int v0] (some (.int v1)) h2 rfl rfl rfl rfl rfl rfl rfl rfl rfl (tr_cok rfl (Or.inr ⟨_, _, rfl, tr_rc (hh_rd (hh_obj hL0 (k := 99) rfl).1) (by decide)⟩)) c_1 ?_
  have hL1 := c_1.2
  exact tr_if2 .eq 860 2961 v0 v1 rfl rfl rfl (fun hc => t ((tr_eq hc).1 rfl)) (fun hc => f ((tr_eq hc).2 rfl))
theorem sg_law_2104 {g : tr_g} {d : Nat} {h : ev_AH} {r : ev_O × ev_AH} {w0 w1 w2 w3 w4 w5 w6 w7 w8 : Option Value} (hL : hh_L h) (hr : r = (.inl (some (.int 0)), h)) : tr_L g d m_law 2104 [w0, w1, w2, w3, w4, w5, w6, w7, w8] [] h r := by
  refine tr_ic 0 0 (by decide) rfl ?_
  exact tl_ret hL .ireturn 1 (some (.int 0)) rfl rfl rfl rfl hr
theorem sx_law_2106_2107 {g : tr_g} {d : Nat} {h : ev_AH} {r : ev_O × ev_AH} {x5 v0 : Int32} {w6 w7 w8 : Option Value} {h1 hx : ev_AH} {E : Nat} (hL : hh_L h) (cx : tr_L g d m_X8_deliberations 0 [some (.ref 1000)] [] h (.inr E, hx)) (hr : r = (.inr E, hx)) : tr_L g (d + 1) m_law 2106 [some (.ref 0), some (.ref 1000), some (.ref 1099), some (.ref 1109), some (.ref 1110), some (.int x5), w6, w7, w8] [] h r := by
  refine tr_s (.aload_n 1) 1 2107 [some (.ref 0), some (.ref 1000), some (.ref 1099), some (.ref 1109), some (.ref 1110), some (.int x5), w6, w7, w8] [.ref 1000] h rfl rfl rfl ?_
  exact tr_callx (.invokevirtual 289) 289 0 0 0 m_X8_deliberations [.ref 1000] [] E hx rfl rfl rfl rfl rfl rfl rfl rfl rfl (tr_cok rfl (Or.inr ⟨_, _, rfl, tr_rc (hh_rd (hh_obj hL (k := 0) rfl).1) (by decide)⟩)) rfl cx hr
theorem sg_law_2106 {g : tr_g} {d : Nat} {h : ev_AH} {r : ev_O × ev_AH} {x5 v0 v1 : Int32} {w6 w7 w8 : Option Value} {h1 h2 : ev_AH} (hL : hh_L h) (c_0 : tr_L g d m_X8_deliberations 0 [some (.ref 1000)] [] h (.inl (some (.int v0)), h1)) (c_1 : tr_L g d m_X9_deliberations 0 [some (.ref 1099)] [] h1 (.inl (some (.int v1)), h2)) (t : v0 = v1 → tr_L g (d + 1) m_law 2961 [some (.ref 0), some (.ref 1000), some (.ref 1099), some (.ref 1109), some (.ref 1110), some (.int x5), w6, w7, w8] [] h2 r) (f : v0 ≠ v1 → tr_L g (d + 1) m_law 2117 [some (.ref 0), some (.ref 1000), some (.ref 1099), some (.ref 1109), some (.ref 1110), some (.int x5), w6, w7, w8] [] h2 r) : tr_L g (d + 1) m_law 2106 [some (.ref 0), some (.ref 1000), some (.ref 1099), some (.ref 1109), some (.ref 1110), some (.int x5), w6, w7, w8] [] h r := by
  refine tr_s (.aload_n 1) 1 2107 [some (.ref 0), some (.ref 1000), some (.ref 1099), some (.ref 1109), some (.ref 1110), some (.int x5), w6, w7, w8] [.ref 1000] h rfl rfl rfl ?_
  refine tr_call (.invokevirtual 289) 289 0 0 0 m_X8_deliberations [.ref 1000] [] (some (.int v0)) h1 rfl rfl rfl rfl rfl rfl rfl rfl rfl (tr_cok rfl (Or.inr ⟨_, _, rfl, tr_rc (hh_rd (hh_obj hL (k := 0) rfl).1) (by decide)⟩)) c_0 ?_
  have hL0 := c_0.2
  refine tr_s (.aload_n 2) 1 2111 [some (.ref 0), some (.ref 1000), some (.ref 1099), some (.ref 1109), some (.ref 1110), some (.int x5), w6, w7, w8] [.ref 1099, .int v0] h1 rfl rfl rfl ?_
  refine tr_call (.invokevirtual 292) 292 0 0 8 m_X9_deliberations [.ref 1099] [.int v0] (some (.int v1)) h2 rfl rfl rfl rfl rfl rfl rfl rfl rfl (tr_cok rfl (Or.inr ⟨_, _, rfl, tr_rc (hh_rd (hh_obj hL0 (k := 99) rfl).1) (by decide)⟩)) c_1 ?_
  have hL1 := c_1.2
  exact tr_if2 .eq 847 2961 v0 v1 rfl rfl rfl (fun hc => t ((tr_eq hc).1 rfl)) (fun hc => f ((tr_eq hc).2 rfl))
theorem sg_law_2117 {g : tr_g} {d : Nat} {h : ev_AH} {r : ev_O × ev_AH} {w0 w1 w2 w3 w4 w5 w6 w7 w8 : Option Value} (hL : hh_L h) (hr : r = (.inl (some (.int 0)), h)) : tr_L g d m_law 2117 [w0, w1, w2, w3, w4, w5, w6, w7, w8] [] h r := by
  refine tr_ic 0 0 (by decide) rfl ?_
  exact tl_ret hL .ireturn 1 (some (.int 0)) rfl rfl rfl rfl hr
theorem sg_law_2119 {g : tr_g} {d : Nat} {h : ev_AH} {r : ev_O × ev_AH} {x5 v0 v1 v2 : Int32} {w6 w7 w8 : Option Value} {j0 j1 : Nat} {h1 h2 h3 : ev_AH} (hL : hh_L h) (e0 : x5 + 1 = Int32.ofNat j0) (b0 : j0 < g.1.length) (z0 : g.1.length < 2147483648) (c_0 : tr_L g d m_L_verdictAt 0 [some (.ref 1000), some (.int (g.1.getD j0 0)), some (.ref 1109), none] [] h (.inl (some (.int v0)), h1)) (e1 : x5 + 1 = Int32.ofNat j1) (b1 : j1 < g.1.length) (z1 : g.1.length < 2147483648) (c_1 : tr_L g d m_X9_verdictAt 0 [some (.ref 1099), some (.int (g.1.getD j1 0))] [] h1 (.inl (some (.int v1)), h2)) (c_2 : tr_L g d m_X9_thrown 0 [some (.ref 1099)] [] h2 (.inl (some (.int v2)), h3)) (t : v2 = v0 → tr_L g (d + 1) m_law 2155 [some (.ref 0), some (.ref 1000), some (.ref 1099), some (.ref 1109), some (.ref 1110), some (.int x5), some (.int v0), some (.int v1), w8] [] h3 r) (f : v2 ≠ v0 → tr_L g (d + 1) m_law 2153 [some (.ref 0), some (.ref 1000), some (.ref 1099), some (.ref 1109), some (.ref 1110), some (.int x5), some (.int v0), some (.int v1), w8] [] h3 r) : tr_L g (d + 1) m_law 2119 [some (.ref 0), some (.ref 1000), some (.ref 1099), some (.ref 1109), some (.ref 1110), some (.int x5), w6, w7, w8] [] h r := by
  refine tr_s (.aload_n 1) 1 2120 [some (.ref 0), some (.ref 1000), some (.ref 1099), some (.ref 1109), some (.ref 1110), some (.int x5), w6, w7, w8] [.ref 1000] h rfl rfl rfl ?_
  refine tr_s (.aload_n 0) 1 2121 [some (.ref 0), some (.ref 1000), some (.ref 1099), some (.ref 1109), some (.ref 1110), some (.int x5), w6, w7, w8] [.ref 0, .ref 1000] h rfl rfl rfl ?_
  refine tr_s (.iload 5) 2 2123 [some (.ref 0), some (.ref 1000), some (.ref 1099), some (.ref 1109), some (.ref 1110), some (.int x5), w6, w7, w8] [.int x5, .ref 0, .ref 1000] h rfl rfl rfl ?_
  refine tr_ic 1 1 (by decide) rfl ?_
  refine tr_s .iadd 1 2125 [some (.ref 0), some (.ref 1000), some (.ref 1099), some (.ref 1109), some (.ref 1110), some (.int x5), w6, w7, w8] [.int (x5 + 1), .ref 0, .ref 1000] h rfl rfl rfl ?_
  refine tr_ald .iaload 0 0 j0 (x5 + 1) g.1 (Or.inl ⟨rfl, rfl⟩) rfl rfl e0 b0 z0 ?_
  refine tr_s (.aload_n 3) 1 2127 [some (.ref 0), some (.ref 1000), some (.ref 1099), some (.ref 1109), some (.ref 1110), some (.int x5), w6, w7, w8] [.ref 1109, .int (g.1.getD j0 0), .ref 1000] h rfl rfl rfl ?_
  refine tr_call (.invokestatic 293) 293 8 3 0 m_L_verdictAt [.ref 1000, .int (g.1.getD j0 0), .ref 1109] [] (some (.int v0)) h1 rfl rfl rfl rfl rfl rfl rfl rfl rfl (tr_cok rfl (Or.inl rfl)) c_0 ?_
  have hL0 := c_0.2
  refine tr_st (.istore 6) 2 6 0 (.int v0) rfl rfl rfl rfl rfl rfl rfl ?_
  refine tr_s (.aload_n 2) 1 2133 [some (.ref 0), some (.ref 1000), some (.ref 1099), some (.ref 1109), some (.ref 1110), some (.int x5), some (.int v0), w7, w8] [.ref 1099] h1 rfl rfl rfl ?_
  refine tr_s (.aload_n 0) 1 2134 [some (.ref 0), some (.ref 1000), some (.ref 1099), some (.ref 1109), some (.ref 1110), some (.int x5), some (.int v0), w7, w8] [.ref 0, .ref 1099] h1 rfl rfl rfl ?_
  refine tr_s (.iload 5) 2 2136 [some (.ref 0), some (.ref 1000), some (.ref 1099), some (.ref 1109), some (.ref 1110), some (.int x5), some (.int v0), w7, w8] [.int x5, .ref 0, .ref 1099] h1 rfl rfl rfl ?_
  refine tr_ic 1 1 (by decide) rfl ?_
  refine tr_s .iadd 1 2138 [some (.ref 0), some (.ref 1000), some (.ref 1099), some (.ref 1109), some (.ref 1110), some (.int x5), some (.int v0), w7, w8] [.int (x5 + 1), .ref 0, .ref 1099] h1 rfl rfl rfl ?_
  refine tr_ald .iaload 0 0 j1 (x5 + 1) g.1 (Or.inl ⟨rfl, rfl⟩) rfl rfl e1 b1 z1 ?_
  refine tr_call (.invokevirtual 295) 295 0 1 8 m_X9_verdictAt [.ref 1099, .int (g.1.getD j1 0)] [] (some (.int v1)) h2 rfl rfl rfl rfl rfl rfl rfl rfl rfl (tr_cok rfl (Or.inr ⟨_, _, rfl, tr_rc (hh_rd (hh_obj hL0 (k := 99) rfl).1) (by decide)⟩)) c_1 ?_
  have hL1 := c_1.2
  refine tr_st (.istore 7) 2 7 0 (.int v1) rfl rfl rfl rfl rfl rfl rfl ?_
  refine tr_s (.aload_n 2) 1 2145 [some (.ref 0), some (.ref 1000), some (.ref 1099), some (.ref 1109), some (.ref 1110), some (.int x5), some (.int v0), some (.int v1), w8] [.ref 1099] h2 rfl rfl rfl ?_
  refine tr_call (.invokevirtual 180) 180 0 0 8 m_X9_thrown [.ref 1099] [] (some (.int v2)) h3 rfl rfl rfl rfl rfl rfl rfl rfl rfl (tr_cok rfl (Or.inr ⟨_, _, rfl, tr_rc (hh_rd (hh_obj hL1 (k := 99) rfl).1) (by decide)⟩)) c_2 ?_
  have hL2 := c_2.2
  refine tr_s (.iload 6) 2 2150 [some (.ref 0), some (.ref 1000), some (.ref 1099), some (.ref 1109), some (.ref 1110), some (.int x5), some (.int v0), some (.int v1), w8] [.int v0, .int v2] h3 rfl rfl rfl ?_
  exact tr_if2 .eq 5 2155 v2 v0 rfl rfl rfl (fun hc => t ((tr_eq hc).1 rfl)) (fun hc => f ((tr_eq hc).2 rfl))
theorem sg_law_2153 {g : tr_g} {d : Nat} {h : ev_AH} {r : ev_O × ev_AH} {w0 w1 w2 w3 w4 w5 w6 w7 w8 : Option Value} (hL : hh_L h) (hr : r = (.inl (some (.int 0)), h)) : tr_L g d m_law 2153 [w0, w1, w2, w3, w4, w5, w6, w7, w8] [] h r := by
  refine tr_ic 0 0 (by decide) rfl ?_
  exact tl_ret hL .ireturn 1 (some (.int 0)) rfl rfl rfl rfl hr
theorem sg_law_2155 {g : tr_g} {d : Nat} {h : ev_AH} {r : ev_O × ev_AH} {x5 x6 x7 : Int32} {w8 : Option Value} (hL : hh_L h) (t : x6 ≠ 0 → tr_L g d m_law 2172 [some (.ref 0), some (.ref 1000), some (.ref 1099), some (.ref 1109), some (.ref 1110), some (.int x5), some (.int x6), some (.int x7), w8] [] h r) (f : x6 = 0 → tr_L g d m_law 2160 [some (.ref 0), some (.ref 1000), some (.ref 1099), some (.ref 1109), some (.ref 1110), some (.int x5), some (.int x6), some (.int x7), w8] [] h r) : tr_L g d m_law 2155 [some (.ref 0), some (.ref 1000), some (.ref 1099), some (.ref 1109), some (.ref 1110), some (.int x5), some (.int x6), some (.int x7), w8] [] h r := by
  refine tr_s (.iload 6) 2 2157 [some (.ref 0), some (.ref 1000), some (.ref 1099), some (.ref 1109), some (.ref 1110), some (.int x5), some (.int x6), some (.int x7), w8] [.int x6] h rfl rfl rfl ?_
  exact tr_if1 .ne 15 2172 x6 rfl rfl rfl (fun hc => t ((tr_ne hc).1 rfl)) (fun hc => f ((tr_ne hc).2 rfl))
theorem sg_law_2160 {g : tr_g} {d : Nat} {h : ev_AH} {r : ev_O × ev_AH} {x5 x7 : Int32} {w6 w8 : Option Value} {u0 : Int64} (hL : hh_L h) (p0 : (hh_v h 109)[0]? = some (.long u0)) (t : (lg_cmp u0 x7.toInt64) = 0 → tr_L g d m_law 2172 [some (.ref 0), some (.ref 1000), some (.ref 1099), some (.ref 1109), some (.ref 1110), some (.int x5), w6, some (.int x7), w8] [] h r) (f : (lg_cmp u0 x7.toInt64) ≠ 0 → tr_L g d m_law 2170 [some (.ref 0), some (.ref 1000), some (.ref 1099), some (.ref 1109), some (.ref 1110), some (.int x5), w6, some (.int x7), w8] [] h r) : tr_L g d m_law 2160 [some (.ref 0), some (.ref 1000), some (.ref 1099), some (.ref 1109), some (.ref 1110), some (.int x5), w6, some (.int x7), w8] [] h r := by
  refine tr_s (.aload_n 3) 1 2161 [some (.ref 0), some (.ref 1000), some (.ref 1099), some (.ref 1109), some (.ref 1110), some (.int x5), w6, some (.int x7), w8] [.ref 1109] h rfl rfl rfl ?_
  refine tr_ic 0 0 (by decide) rfl ?_
  refine tr_lald 1109 u0 _ rfl (by decide) (hh_rd (hh_obj hL (k := 109) rfl).1) (hh_obj hL (k := 109) rfl).2 p0 ?_
  refine tr_s (.iload 7) 2 2165 [some (.ref 0), some (.ref 1000), some (.ref 1099), some (.ref 1109), some (.ref 1110), some (.int x5), w6, some (.int x7), w8] [.int x7, .long u0] h rfl rfl rfl ?_
  refine tr_s .i2l 1 2166 [some (.ref 0), some (.ref 1000), some (.ref 1099), some (.ref 1109), some (.ref 1110), some (.int x5), w6, some (.int x7), w8] [.long x7.toInt64, .long u0] h rfl rfl rfl ?_
  refine tr_s .lcmp 1 2167 [some (.ref 0), some (.ref 1000), some (.ref 1099), some (.ref 1109), some (.ref 1110), some (.int x5), w6, some (.int x7), w8] [.int (lg_cmp u0 x7.toInt64)] h rfl rfl rfl ?_
  exact tr_if1 .eq 5 2172 (lg_cmp u0 x7.toInt64) rfl rfl rfl (fun hc => t ((tr_eq hc).1 rfl)) (fun hc => f ((tr_eq hc).2 rfl))
theorem sg_law_2170 {g : tr_g} {d : Nat} {h : ev_AH} {r : ev_O × ev_AH} {w0 w1 w2 w3 w4 w5 w6 w7 w8 : Option Value} (hL : hh_L h) (hr : r = (.inl (some (.int 0)), h)) : tr_L g d m_law 2170 [w0, w1, w2, w3, w4, w5, w6, w7, w8] [] h r := by
  refine tr_ic 0 0 (by decide) rfl ?_
  exact tl_ret hL .ireturn 1 (some (.int 0)) rfl rfl rfl rfl hr
theorem sg_law_2172 {g : tr_g} {d : Nat} {h : ev_AH} {r : ev_O × ev_AH} {x5 : Int32} {w6 w7 w8 : Option Value} (hL : hh_L h) (k : tr_L g d m_law 28 [some (.ref 0), some (.ref 1000), some (.ref 1099), some (.ref 1109), some (.ref 1110), some (.int (x5 + 5)), w6, w7, w8] [] h r) : tr_L g d m_law 2172 [some (.ref 0), some (.ref 1000), some (.ref 1099), some (.ref 1109), some (.ref 1110), some (.int x5), w6, w7, w8] [] h r := by
  refine tr_goto 789 2961 rfl rfl rfl ?_
  refine tr_inc 5 5 x5 5 (by decide) rfl rfl rfl ?_
  refine tr_goto (-2936) 28 rfl rfl rfl ?_
  exact k
theorem sx_law_2175_2176 {g : tr_g} {d : Nat} {h : ev_AH} {r : ev_O × ev_AH} {x5 v0 : Int32} {w6 w7 w8 : Option Value} {h1 hx : ev_AH} {E : Nat} (hL : hh_L h) (cx : tr_L g d m_X8_hungCount 0 [some (.ref 1000)] [] h (.inr E, hx)) (hr : r = (.inr E, hx)) : tr_L g (d + 1) m_law 2175 [some (.ref 0), some (.ref 1000), some (.ref 1099), some (.ref 1109), some (.ref 1110), some (.int x5), w6, w7, w8] [] h r := by
  refine tr_s (.aload_n 1) 1 2176 [some (.ref 0), some (.ref 1000), some (.ref 1099), some (.ref 1109), some (.ref 1110), some (.int x5), w6, w7, w8] [.ref 1000] h rfl rfl rfl ?_
  exact tr_callx (.invokevirtual 296) 296 0 0 0 m_X8_hungCount [.ref 1000] [] E hx rfl rfl rfl rfl rfl rfl rfl rfl rfl (tr_cok rfl (Or.inr ⟨_, _, rfl, tr_rc (hh_rd (hh_obj hL (k := 0) rfl).1) (by decide)⟩)) rfl cx hr
theorem sg_law_2175 {g : tr_g} {d : Nat} {h : ev_AH} {r : ev_O × ev_AH} {x5 v0 v1 : Int32} {w6 w7 w8 : Option Value} {h1 h2 : ev_AH} (hL : hh_L h) (c_0 : tr_L g d m_X8_hungCount 0 [some (.ref 1000)] [] h (.inl (some (.int v0)), h1)) (c_1 : tr_L g d m_X9_hungCount 0 [some (.ref 1099)] [] h1 (.inl (some (.int v1)), h2)) (t : v0 = v1 → tr_L g (d + 1) m_law 2961 [some (.ref 0), some (.ref 1000), some (.ref 1099), some (.ref 1109), some (.ref 1110), some (.int x5), w6, w7, w8] [] h2 r) (f : v0 ≠ v1 → tr_L g (d + 1) m_law 2186 [some (.ref 0), some (.ref 1000), some (.ref 1099), some (.ref 1109), some (.ref 1110), some (.int x5), w6, w7, w8] [] h2 r) : tr_L g (d + 1) m_law 2175 [some (.ref 0), some (.ref 1000), some (.ref 1099), some (.ref 1109), some (.ref 1110), some (.int x5), w6, w7, w8] [] h r := by
  refine tr_s (.aload_n 1) 1 2176 [some (.ref 0), some (.ref 1000), some (.ref 1099), some (.ref 1109), some (.ref 1110), some (.int x5), w6, w7, w8] [.ref 1000] h rfl rfl rfl ?_
  refine tr_call (.invokevirtual 296) 296 0 0 0 m_X8_hungCount [.ref 1000] [] (some (.int v0)) h1 rfl rfl rfl rfl rfl rfl rfl rfl rfl (tr_cok rfl (Or.inr ⟨_, _, rfl, tr_rc (hh_rd (hh_obj hL (k := 0) rfl).1) (by decide)⟩)) c_0 ?_
  have hL0 := c_0.2
  refine tr_s (.aload_n 2) 1 2180 [some (.ref 0), some (.ref 1000), some (.ref 1099), some (.ref 1109), some (.ref 1110), some (.int x5), w6, w7, w8] [.ref 1099, .int v0] h1 rfl rfl rfl ?_
  refine tr_call (.invokevirtual 299) 299 0 0 8 m_X9_hungCount [.ref 1099] [.int v0] (some (.int v1)) h2 rfl rfl rfl rfl rfl rfl rfl rfl rfl (tr_cok rfl (Or.inr ⟨_, _, rfl, tr_rc (hh_rd (hh_obj hL0 (k := 99) rfl).1) (by decide)⟩)) c_1 ?_
  have hL1 := c_1.2
  exact tr_if2 .eq 778 2961 v0 v1 rfl rfl rfl (fun hc => t ((tr_eq hc).1 rfl)) (fun hc => f ((tr_eq hc).2 rfl))
theorem sg_law_2186 {g : tr_g} {d : Nat} {h : ev_AH} {r : ev_O × ev_AH} {w0 w1 w2 w3 w4 w5 w6 w7 w8 : Option Value} (hL : hh_L h) (hr : r = (.inl (some (.int 0)), h)) : tr_L g d m_law 2186 [w0, w1, w2, w3, w4, w5, w6, w7, w8] [] h r := by
  refine tr_ic 0 0 (by decide) rfl ?_
  exact tl_ret hL .ireturn 1 (some (.int 0)) rfl rfl rfl rfl hr
theorem sx_law_2188_2189 {g : tr_g} {d : Nat} {h : ev_AH} {r : ev_O × ev_AH} {x5 v0 : Int32} {w6 w7 w8 : Option Value} {h1 hx : ev_AH} {E : Nat} (hL : hh_L h) (cx : tr_L g d m_X8_retrials 0 [some (.ref 1000)] [] h (.inr E, hx)) (hr : r = (.inr E, hx)) : tr_L g (d + 1) m_law 2188 [some (.ref 0), some (.ref 1000), some (.ref 1099), some (.ref 1109), some (.ref 1110), some (.int x5), w6, w7, w8] [] h r := by
  refine tr_s (.aload_n 1) 1 2189 [some (.ref 0), some (.ref 1000), some (.ref 1099), some (.ref 1109), some (.ref 1110), some (.int x5), w6, w7, w8] [.ref 1000] h rfl rfl rfl ?_
  exact tr_callx (.invokevirtual 300) 300 0 0 0 m_X8_retrials [.ref 1000] [] E hx rfl rfl rfl rfl rfl rfl rfl rfl rfl (tr_cok rfl (Or.inr ⟨_, _, rfl, tr_rc (hh_rd (hh_obj hL (k := 0) rfl).1) (by decide)⟩)) rfl cx hr
theorem sg_law_2188 {g : tr_g} {d : Nat} {h : ev_AH} {r : ev_O × ev_AH} {x5 v0 v1 : Int32} {w6 w7 w8 : Option Value} {h1 h2 : ev_AH} (hL : hh_L h) (c_0 : tr_L g d m_X8_retrials 0 [some (.ref 1000)] [] h (.inl (some (.int v0)), h1)) (c_1 : tr_L g d m_X9_retrials 0 [some (.ref 1099)] [] h1 (.inl (some (.int v1)), h2)) (t : v0 = v1 → tr_L g (d + 1) m_law 2961 [some (.ref 0), some (.ref 1000), some (.ref 1099), some (.ref 1109), some (.ref 1110), some (.int x5), w6, w7, w8] [] h2 r) (f : v0 ≠ v1 → tr_L g (d + 1) m_law 2199 [some (.ref 0), some (.ref 1000), some (.ref 1099), some (.ref 1109), some (.ref 1110), some (.int x5), w6, w7, w8] [] h2 r) : tr_L g (d + 1) m_law 2188 [some (.ref 0), some (.ref 1000), some (.ref 1099), some (.ref 1109), some (.ref 1110), some (.int x5), w6, w7, w8] [] h r := by
  refine tr_s (.aload_n 1) 1 2189 [some (.ref 0), some (.ref 1000), some (.ref 1099), some (.ref 1109), some (.ref 1110), some (.int x5), w6, w7, w8] [.ref 1000] h rfl rfl rfl ?_
  refine tr_call (.invokevirtual 300) 300 0 0 0 m_X8_retrials [.ref 1000] [] (some (.int v0)) h1 rfl rfl rfl rfl rfl rfl rfl rfl rfl (tr_cok rfl (Or.inr ⟨_, _, rfl, tr_rc (hh_rd (hh_obj hL (k := 0) rfl).1) (by decide)⟩)) c_0 ?_
  have hL0 := c_0.2
  refine tr_s (.aload_n 2) 1 2193 [some (.ref 0), some (.ref 1000), some (.ref 1099), some (.ref 1109), some (.ref 1110), some (.int x5), w6, w7, w8] [.ref 1099, .int v0] h1 rfl rfl rfl ?_
  refine tr_call (.invokevirtual 303) 303 0 0 8 m_X9_retrials [.ref 1099] [.int v0] (some (.int v1)) h2 rfl rfl rfl rfl rfl rfl rfl rfl rfl (tr_cok rfl (Or.inr ⟨_, _, rfl, tr_rc (hh_rd (hh_obj hL0 (k := 99) rfl).1) (by decide)⟩)) c_1 ?_
  have hL1 := c_1.2
  exact tr_if2 .eq 765 2961 v0 v1 rfl rfl rfl (fun hc => t ((tr_eq hc).1 rfl)) (fun hc => f ((tr_eq hc).2 rfl))
theorem sg_law_2199 {g : tr_g} {d : Nat} {h : ev_AH} {r : ev_O × ev_AH} {w0 w1 w2 w3 w4 w5 w6 w7 w8 : Option Value} (hL : hh_L h) (hr : r = (.inl (some (.int 0)), h)) : tr_L g d m_law 2199 [w0, w1, w2, w3, w4, w5, w6, w7, w8] [] h r := by
  refine tr_ic 0 0 (by decide) rfl ?_
  exact tl_ret hL .ireturn 1 (some (.int 0)) rfl rfl rfl rfl hr
theorem sx_law_2201_2202 {g : tr_g} {d : Nat} {h : ev_AH} {r : ev_O × ev_AH} {x5 v0 : Int32} {w6 w7 w8 : Option Value} {h1 hx : ev_AH} {E : Nat} (hL : hh_L h) (cx : tr_L g d m_X8_testimonies 0 [some (.ref 1000)] [] h (.inr E, hx)) (hr : r = (.inr E, hx)) : tr_L g (d + 1) m_law 2201 [some (.ref 0), some (.ref 1000), some (.ref 1099), some (.ref 1109), some (.ref 1110), some (.int x5), w6, w7, w8] [] h r := by
  refine tr_s (.aload_n 1) 1 2202 [some (.ref 0), some (.ref 1000), some (.ref 1099), some (.ref 1109), some (.ref 1110), some (.int x5), w6, w7, w8] [.ref 1000] h rfl rfl rfl ?_
  exact tr_callx (.invokevirtual 304) 304 0 0 0 m_X8_testimonies [.ref 1000] [] E hx rfl rfl rfl rfl rfl rfl rfl rfl rfl (tr_cok rfl (Or.inr ⟨_, _, rfl, tr_rc (hh_rd (hh_obj hL (k := 0) rfl).1) (by decide)⟩)) rfl cx hr
theorem sg_law_2201 {g : tr_g} {d : Nat} {h : ev_AH} {r : ev_O × ev_AH} {x5 v0 v1 : Int32} {w6 w7 w8 : Option Value} {h1 h2 : ev_AH} (hL : hh_L h) (c_0 : tr_L g d m_X8_testimonies 0 [some (.ref 1000)] [] h (.inl (some (.int v0)), h1)) (c_1 : tr_L g d m_X9_testimonies 0 [some (.ref 1099)] [] h1 (.inl (some (.int v1)), h2)) (t : v0 = v1 → tr_L g (d + 1) m_law 2961 [some (.ref 0), some (.ref 1000), some (.ref 1099), some (.ref 1109), some (.ref 1110), some (.int x5), w6, w7, w8] [] h2 r) (f : v0 ≠ v1 → tr_L g (d + 1) m_law 2212 [some (.ref 0), some (.ref 1000), some (.ref 1099), some (.ref 1109), some (.ref 1110), some (.int x5), w6, w7, w8] [] h2 r) : tr_L g (d + 1) m_law 2201 [some (.ref 0), some (.ref 1000), some (.ref 1099), some (.ref 1109), some (.ref 1110), some (.int x5), w6, w7, w8] [] h r := by
  refine tr_s (.aload_n 1) 1 2202 [some (.ref 0), some (.ref 1000), some (.ref 1099), some (.ref 1109), some (.ref 1110), some (.int x5), w6, w7, w8] [.ref 1000] h rfl rfl rfl ?_
  refine tr_call (.invokevirtual 304) 304 0 0 0 m_X8_testimonies [.ref 1000] [] (some (.int v0)) h1 rfl rfl rfl rfl rfl rfl rfl rfl rfl (tr_cok rfl (Or.inr ⟨_, _, rfl, tr_rc (hh_rd (hh_obj hL (k := 0) rfl).1) (by decide)⟩)) c_0 ?_
  have hL0 := c_0.2
  refine tr_s (.aload_n 2) 1 2206 [some (.ref 0), some (.ref 1000), some (.ref 1099), some (.ref 1109), some (.ref 1110), some (.int x5), w6, w7, w8] [.ref 1099, .int v0] h1 rfl rfl rfl ?_
  refine tr_call (.invokevirtual 307) 307 0 0 8 m_X9_testimonies [.ref 1099] [.int v0] (some (.int v1)) h2 rfl rfl rfl rfl rfl rfl rfl rfl rfl (tr_cok rfl (Or.inr ⟨_, _, rfl, tr_rc (hh_rd (hh_obj hL0 (k := 99) rfl).1) (by decide)⟩)) c_1 ?_
  have hL1 := c_1.2
  exact tr_if2 .eq 752 2961 v0 v1 rfl rfl rfl (fun hc => t ((tr_eq hc).1 rfl)) (fun hc => f ((tr_eq hc).2 rfl))
theorem sg_law_2212 {g : tr_g} {d : Nat} {h : ev_AH} {r : ev_O × ev_AH} {w0 w1 w2 w3 w4 w5 w6 w7 w8 : Option Value} (hL : hh_L h) (hr : r = (.inl (some (.int 0)), h)) : tr_L g d m_law 2212 [w0, w1, w2, w3, w4, w5, w6, w7, w8] [] h r := by
  refine tr_ic 0 0 (by decide) rfl ?_
  exact tl_ret hL .ireturn 1 (some (.int 0)) rfl rfl rfl rfl hr
theorem sg_law_2214 {g : tr_g} {d : Nat} {h : ev_AH} {r : ev_O × ev_AH} {x5 v0 v1 v2 : Int32} {w6 w7 w8 : Option Value} {j0 j1 : Nat} {h1 h2 h3 : ev_AH} (hL : hh_L h) (e0 : x5 + 1 = Int32.ofNat j0) (b0 : j0 < g.1.length) (z0 : g.1.length < 2147483648) (c_0 : tr_L g d m_L_catByHeard 0 [some (.ref 1000), some (.int (g.1.getD j0 0)), some (.ref 1109), none] [] h (.inl (some (.int v0)), h1)) (e1 : x5 + 1 = Int32.ofNat j1) (b1 : j1 < g.1.length) (z1 : g.1.length < 2147483648) (c_1 : tr_L g d m_X9_catByHeard 0 [some (.ref 1099), some (.int (g.1.getD j1 0)), none, none, none, none] [] h1 (.inl (some (.int v1)), h2)) (c_2 : tr_L g d m_X9_thrown 0 [some (.ref 1099)] [] h2 (.inl (some (.int v2)), h3)) (t : v2 = v0 → tr_L g (d + 1) m_law 2250 [some (.ref 0), some (.ref 1000), some (.ref 1099), some (.ref 1109), some (.ref 1110), some (.int x5), some (.int v0), some (.int v1), w8] [] h3 r) (f : v2 ≠ v0 → tr_L g (d + 1) m_law 2248 [some (.ref 0), some (.ref 1000), some (.ref 1099), some (.ref 1109), some (.ref 1110), some (.int x5), some (.int v0), some (.int v1), w8] [] h3 r) : tr_L g (d + 1) m_law 2214 [some (.ref 0), some (.ref 1000), some (.ref 1099), some (.ref 1109), some (.ref 1110), some (.int x5), w6, w7, w8] [] h r := by
  refine tr_s (.aload_n 1) 1 2215 [some (.ref 0), some (.ref 1000), some (.ref 1099), some (.ref 1109), some (.ref 1110), some (.int x5), w6, w7, w8] [.ref 1000] h rfl rfl rfl ?_
  refine tr_s (.aload_n 0) 1 2216 [some (.ref 0), some (.ref 1000), some (.ref 1099), some (.ref 1109), some (.ref 1110), some (.int x5), w6, w7, w8] [.ref 0, .ref 1000] h rfl rfl rfl ?_
  refine tr_s (.iload 5) 2 2218 [some (.ref 0), some (.ref 1000), some (.ref 1099), some (.ref 1109), some (.ref 1110), some (.int x5), w6, w7, w8] [.int x5, .ref 0, .ref 1000] h rfl rfl rfl ?_
  refine tr_ic 1 1 (by decide) rfl ?_
  refine tr_s .iadd 1 2220 [some (.ref 0), some (.ref 1000), some (.ref 1099), some (.ref 1109), some (.ref 1110), some (.int x5), w6, w7, w8] [.int (x5 + 1), .ref 0, .ref 1000] h rfl rfl rfl ?_
  refine tr_ald .iaload 0 0 j0 (x5 + 1) g.1 (Or.inl ⟨rfl, rfl⟩) rfl rfl e0 b0 z0 ?_
  refine tr_s (.aload_n 3) 1 2222 [some (.ref 0), some (.ref 1000), some (.ref 1099), some (.ref 1109), some (.ref 1110), some (.int x5), w6, w7, w8] [.ref 1109, .int (g.1.getD j0 0), .ref 1000] h rfl rfl rfl ?_
  refine tr_call (.invokestatic 308) 308 8 3 0 m_L_catByHeard [.ref 1000, .int (g.1.getD j0 0), .ref 1109] [] (some (.int v0)) h1 rfl rfl rfl rfl rfl rfl rfl rfl rfl (tr_cok rfl (Or.inl rfl)) c_0 ?_
  have hL0 := c_0.2
  refine tr_st (.istore 6) 2 6 0 (.int v0) rfl rfl rfl rfl rfl rfl rfl ?_
  refine tr_s (.aload_n 2) 1 2228 [some (.ref 0), some (.ref 1000), some (.ref 1099), some (.ref 1109), some (.ref 1110), some (.int x5), some (.int v0), w7, w8] [.ref 1099] h1 rfl rfl rfl ?_
  refine tr_s (.aload_n 0) 1 2229 [some (.ref 0), some (.ref 1000), some (.ref 1099), some (.ref 1109), some (.ref 1110), some (.int x5), some (.int v0), w7, w8] [.ref 0, .ref 1099] h1 rfl rfl rfl ?_
  refine tr_s (.iload 5) 2 2231 [some (.ref 0), some (.ref 1000), some (.ref 1099), some (.ref 1109), some (.ref 1110), some (.int x5), some (.int v0), w7, w8] [.int x5, .ref 0, .ref 1099] h1 rfl rfl rfl ?_
  refine tr_ic 1 1 (by decide) rfl ?_
  refine tr_s .iadd 1 2233 [some (.ref 0), some (.ref 1000), some (.ref 1099), some (.ref 1109), some (.ref 1110), some (.int x5), some (.int v0), w7, w8] [.int (x5 + 1), .ref 0, .ref 1099] h1 rfl rfl rfl ?_
  refine tr_ald .iaload 0 0 j1 (x5 + 1) g.1 (Or.inl ⟨rfl, rfl⟩) rfl rfl e1 b1 z1 ?_
  refine tr_call (.invokevirtual 310) 310 0 1 8 m_X9_catByHeard [.ref 1099, .int (g.1.getD j1 0)] [] (some (.int v1)) h2 rfl rfl rfl rfl rfl rfl rfl rfl rfl (tr_cok rfl (Or.inr ⟨_, _, rfl, tr_rc (hh_rd (hh_obj hL0 (k := 99) rfl).1) (by decide)⟩)) c_1 ?_
  have hL1 := c_1.2
  refine tr_st (.istore 7) 2 7 0 (.int v1) rfl rfl rfl rfl rfl rfl rfl ?_
  refine tr_s (.aload_n 2) 1 2240 [some (.ref 0), some (.ref 1000), some (.ref 1099), some (.ref 1109), some (.ref 1110), some (.int x5), some (.int v0), some (.int v1), w8] [.ref 1099] h2 rfl rfl rfl ?_
  refine tr_call (.invokevirtual 180) 180 0 0 8 m_X9_thrown [.ref 1099] [] (some (.int v2)) h3 rfl rfl rfl rfl rfl rfl rfl rfl rfl (tr_cok rfl (Or.inr ⟨_, _, rfl, tr_rc (hh_rd (hh_obj hL1 (k := 99) rfl).1) (by decide)⟩)) c_2 ?_
  have hL2 := c_2.2
  refine tr_s (.iload 6) 2 2245 [some (.ref 0), some (.ref 1000), some (.ref 1099), some (.ref 1109), some (.ref 1110), some (.int x5), some (.int v0), some (.int v1), w8] [.int v0, .int v2] h3 rfl rfl rfl ?_
  exact tr_if2 .eq 5 2250 v2 v0 rfl rfl rfl (fun hc => t ((tr_eq hc).1 rfl)) (fun hc => f ((tr_eq hc).2 rfl))
theorem sg_law_2248 {g : tr_g} {d : Nat} {h : ev_AH} {r : ev_O × ev_AH} {w0 w1 w2 w3 w4 w5 w6 w7 w8 : Option Value} (hL : hh_L h) (hr : r = (.inl (some (.int 0)), h)) : tr_L g d m_law 2248 [w0, w1, w2, w3, w4, w5, w6, w7, w8] [] h r := by
  refine tr_ic 0 0 (by decide) rfl ?_
  exact tl_ret hL .ireturn 1 (some (.int 0)) rfl rfl rfl rfl hr
theorem sg_law_2250 {g : tr_g} {d : Nat} {h : ev_AH} {r : ev_O × ev_AH} {x5 x6 x7 : Int32} {w8 : Option Value} (hL : hh_L h) (t : x6 ≠ 0 → tr_L g d m_law 2267 [some (.ref 0), some (.ref 1000), some (.ref 1099), some (.ref 1109), some (.ref 1110), some (.int x5), some (.int x6), some (.int x7), w8] [] h r) (f : x6 = 0 → tr_L g d m_law 2255 [some (.ref 0), some (.ref 1000), some (.ref 1099), some (.ref 1109), some (.ref 1110), some (.int x5), some (.int x6), some (.int x7), w8] [] h r) : tr_L g d m_law 2250 [some (.ref 0), some (.ref 1000), some (.ref 1099), some (.ref 1109), some (.ref 1110), some (.int x5), some (.int x6), some (.int x7), w8] [] h r := by
  refine tr_s (.iload 6) 2 2252 [some (.ref 0), some (.ref 1000), some (.ref 1099), some (.ref 1109), some (.ref 1110), some (.int x5), some (.int x6), some (.int x7), w8] [.int x6] h rfl rfl rfl ?_
  exact tr_if1 .ne 15 2267 x6 rfl rfl rfl (fun hc => t ((tr_ne hc).1 rfl)) (fun hc => f ((tr_ne hc).2 rfl))
theorem sg_law_2255 {g : tr_g} {d : Nat} {h : ev_AH} {r : ev_O × ev_AH} {x5 x7 : Int32} {w6 w8 : Option Value} {u0 : Int64} (hL : hh_L h) (p0 : (hh_v h 109)[0]? = some (.long u0)) (t : (lg_cmp u0 x7.toInt64) = 0 → tr_L g d m_law 2267 [some (.ref 0), some (.ref 1000), some (.ref 1099), some (.ref 1109), some (.ref 1110), some (.int x5), w6, some (.int x7), w8] [] h r) (f : (lg_cmp u0 x7.toInt64) ≠ 0 → tr_L g d m_law 2265 [some (.ref 0), some (.ref 1000), some (.ref 1099), some (.ref 1109), some (.ref 1110), some (.int x5), w6, some (.int x7), w8] [] h r) : tr_L g d m_law 2255 [some (.ref 0), some (.ref 1000), some (.ref 1099), some (.ref 1109), some (.ref 1110), some (.int x5), w6, some (.int x7), w8] [] h r := by
  refine tr_s (.aload_n 3) 1 2256 [some (.ref 0), some (.ref 1000), some (.ref 1099), some (.ref 1109), some (.ref 1110), some (.int x5), w6, some (.int x7), w8] [.ref 1109] h rfl rfl rfl ?_
  refine tr_ic 0 0 (by decide) rfl ?_
  refine tr_lald 1109 u0 _ rfl (by decide) (hh_rd (hh_obj hL (k := 109) rfl).1) (hh_obj hL (k := 109) rfl).2 p0 ?_
  refine tr_s (.iload 7) 2 2260 [some (.ref 0), some (.ref 1000), some (.ref 1099), some (.ref 1109), some (.ref 1110), some (.int x5), w6, some (.int x7), w8] [.int x7, .long u0] h rfl rfl rfl ?_
  refine tr_s .i2l 1 2261 [some (.ref 0), some (.ref 1000), some (.ref 1099), some (.ref 1109), some (.ref 1110), some (.int x5), w6, some (.int x7), w8] [.long x7.toInt64, .long u0] h rfl rfl rfl ?_
  refine tr_s .lcmp 1 2262 [some (.ref 0), some (.ref 1000), some (.ref 1099), some (.ref 1109), some (.ref 1110), some (.int x5), w6, some (.int x7), w8] [.int (lg_cmp u0 x7.toInt64)] h rfl rfl rfl ?_
  exact tr_if1 .eq 5 2267 (lg_cmp u0 x7.toInt64) rfl rfl rfl (fun hc => t ((tr_eq hc).1 rfl)) (fun hc => f ((tr_eq hc).2 rfl))
theorem sg_law_2265 {g : tr_g} {d : Nat} {h : ev_AH} {r : ev_O × ev_AH} {w0 w1 w2 w3 w4 w5 w6 w7 w8 : Option Value} (hL : hh_L h) (hr : r = (.inl (some (.int 0)), h)) : tr_L g d m_law 2265 [w0, w1, w2, w3, w4, w5, w6, w7, w8] [] h r := by
  refine tr_ic 0 0 (by decide) rfl ?_
  exact tl_ret hL .ireturn 1 (some (.int 0)) rfl rfl rfl rfl hr
theorem sg_law_2267 {g : tr_g} {d : Nat} {h : ev_AH} {r : ev_O × ev_AH} {x5 : Int32} {w6 w7 w8 : Option Value} (hL : hh_L h) (k : tr_L g d m_law 28 [some (.ref 0), some (.ref 1000), some (.ref 1099), some (.ref 1109), some (.ref 1110), some (.int (x5 + 5)), w6, w7, w8] [] h r) : tr_L g d m_law 2267 [some (.ref 0), some (.ref 1000), some (.ref 1099), some (.ref 1109), some (.ref 1110), some (.int x5), w6, w7, w8] [] h r := by
  refine tr_goto 694 2961 rfl rfl rfl ?_
  refine tr_inc 5 5 x5 5 (by decide) rfl rfl rfl ?_
  refine tr_goto (-2936) 28 rfl rfl rfl ?_
  exact k
theorem sg_law_2270 {g : tr_g} {d : Nat} {h : ev_AH} {r : ev_O × ev_AH} {x5 v0 v2 : Int32} {w6 w7 w8 : Option Value} {h1 h2 h3 : ev_AH} {v1 : UInt64} (hL : hh_L h) (c_0 : tr_L g d m_L_meanHeard 0 [some (.ref 1000), some (.ref 1110), none] [] h (.inl (some (.int v0)), h1)) (c_1 : tr_L g d m_X9_meanHeard 0 [some (.ref 1099)] [] h1 (.inl (some (.double v1)), h2)) (c_2 : tr_L g d m_X9_thrown 0 [some (.ref 1099)] [] h2 (.inl (some (.int v2)), h3)) (t : v2 = v0 → tr_L g (d + 1) m_law 2295 [some (.ref 0), some (.ref 1000), some (.ref 1099), some (.ref 1109), some (.ref 1110), some (.int x5), some (.int v0), some (.double v1), none] [] h3 r) (f : v2 ≠ v0 → tr_L g (d + 1) m_law 2293 [some (.ref 0), some (.ref 1000), some (.ref 1099), some (.ref 1109), some (.ref 1110), some (.int x5), some (.int v0), some (.double v1), none] [] h3 r) : tr_L g (d + 1) m_law 2270 [some (.ref 0), some (.ref 1000), some (.ref 1099), some (.ref 1109), some (.ref 1110), some (.int x5), w6, w7, w8] [] h r := by
  refine tr_s (.aload_n 1) 1 2271 [some (.ref 0), some (.ref 1000), some (.ref 1099), some (.ref 1109), some (.ref 1110), some (.int x5), w6, w7, w8] [.ref 1000] h rfl rfl rfl ?_
  refine tr_s (.aload 4) 2 2273 [some (.ref 0), some (.ref 1000), some (.ref 1099), some (.ref 1109), some (.ref 1110), some (.int x5), w6, w7, w8] [.ref 1110, .ref 1000] h rfl rfl rfl ?_
  refine tr_call (.invokestatic 311) 311 8 2 0 m_L_meanHeard [.ref 1000, .ref 1110] [] (some (.int v0)) h1 rfl rfl rfl rfl rfl rfl rfl rfl rfl (tr_cok rfl (Or.inl rfl)) c_0 ?_
  have hL0 := c_0.2
  refine tr_st (.istore 6) 2 6 0 (.int v0) rfl rfl rfl rfl rfl rfl rfl ?_
  refine tr_s (.aload_n 2) 1 2279 [some (.ref 0), some (.ref 1000), some (.ref 1099), some (.ref 1109), some (.ref 1110), some (.int x5), some (.int v0), w7, w8] [.ref 1099] h1 rfl rfl rfl ?_
  refine tr_call (.invokevirtual 314) 314 0 0 8 m_X9_meanHeard [.ref 1099] [] (some (.double v1)) h2 rfl rfl rfl rfl rfl rfl rfl rfl rfl (tr_cok rfl (Or.inr ⟨_, _, rfl, tr_rc (hh_rd (hh_obj hL0 (k := 99) rfl).1) (by decide)⟩)) c_1 ?_
  have hL1 := c_1.2
  refine tr_s (.dstore 7) 2 2284 [some (.ref 0), some (.ref 1000), some (.ref 1099), some (.ref 1109), some (.ref 1110), some (.int x5), some (.int v0), some (.double v1), none] [] h2 rfl rfl rfl ?_
  refine tr_s (.aload_n 2) 1 2285 [some (.ref 0), some (.ref 1000), some (.ref 1099), some (.ref 1109), some (.ref 1110), some (.int x5), some (.int v0), some (.double v1), none] [.ref 1099] h2 rfl rfl rfl ?_
  refine tr_call (.invokevirtual 180) 180 0 0 8 m_X9_thrown [.ref 1099] [] (some (.int v2)) h3 rfl rfl rfl rfl rfl rfl rfl rfl rfl (tr_cok rfl (Or.inr ⟨_, _, rfl, tr_rc (hh_rd (hh_obj hL1 (k := 99) rfl).1) (by decide)⟩)) c_2 ?_
  have hL2 := c_2.2
  refine tr_s (.iload 6) 2 2290 [some (.ref 0), some (.ref 1000), some (.ref 1099), some (.ref 1109), some (.ref 1110), some (.int x5), some (.int v0), some (.double v1), none] [.int v0, .int v2] h3 rfl rfl rfl ?_
  exact tr_if2 .eq 5 2295 v2 v0 rfl rfl rfl (fun hc => t ((tr_eq hc).1 rfl)) (fun hc => f ((tr_eq hc).2 rfl))
theorem sg_law_2293 {g : tr_g} {d : Nat} {h : ev_AH} {r : ev_O × ev_AH} {w0 w1 w2 w3 w4 w5 w6 w7 w8 : Option Value} (hL : hh_L h) (hr : r = (.inl (some (.int 0)), h)) : tr_L g d m_law 2293 [w0, w1, w2, w3, w4, w5, w6, w7, w8] [] h r := by
  refine tr_ic 0 0 (by decide) rfl ?_
  exact tl_ret hL .ireturn 1 (some (.int 0)) rfl rfl rfl rfl hr
theorem sg_law_2295 {g : tr_g} {d : Nat} {h : ev_AH} {r : ev_O × ev_AH} {x5 x6 : Int32} {x7 : UInt64} {w8 : Option Value} (hL : hh_L h) (t : x6 ≠ 0 → tr_L g d m_law 2332 [some (.ref 0), some (.ref 1000), some (.ref 1099), some (.ref 1109), some (.ref 1110), some (.int x5), some (.int x6), some (.double x7), w8] [] h r) (f : x6 = 0 → tr_L g d m_law 2300 [some (.ref 0), some (.ref 1000), some (.ref 1099), some (.ref 1109), some (.ref 1110), some (.int x5), some (.int x6), some (.double x7), w8] [] h r) : tr_L g d m_law 2295 [some (.ref 0), some (.ref 1000), some (.ref 1099), some (.ref 1109), some (.ref 1110), some (.int x5), some (.int x6), some (.double x7), w8] [] h r := by
  refine tr_s (.iload 6) 2 2297 [some (.ref 0), some (.ref 1000), some (.ref 1099), some (.ref 1109), some (.ref 1110), some (.int x5), some (.int x6), some (.double x7), w8] [.int x6] h rfl rfl rfl ?_
  exact tr_if1 .ne 35 2332 x6 rfl rfl rfl (fun hc => t ((tr_ne hc).1 rfl)) (fun hc => f ((tr_ne hc).2 rfl))
theorem sg_law_2300 {g : tr_g} {d : Nat} {h : ev_AH} {r : ev_O × ev_AH} {x5 : Int32} {w6 w8 : Option Value} {x7 u0 : UInt64} (hL : hh_L h) (p0 : (hh_v h 110)[0]? = some (.double u0)) (t : (Op.cmpValue (FP.dcmp u0 x7) .l) = 0 → tr_L g d m_law 2332 [some (.ref 0), some (.ref 1000), some (.ref 1099), some (.ref 1109), some (.ref 1110), some (.int x5), w6, some (.double x7), w8] [] h r) (f : (Op.cmpValue (FP.dcmp u0 x7) .l) ≠ 0 → tr_L g d m_law 2310 [some (.ref 0), some (.ref 1000), some (.ref 1099), some (.ref 1109), some (.ref 1110), some (.int x5), w6, some (.double x7), w8] [] h r) : tr_L g d m_law 2300 [some (.ref 0), some (.ref 1000), some (.ref 1099), some (.ref 1109), some (.ref 1110), some (.int x5), w6, some (.double x7), w8] [] h r := by
  refine tr_s (.aload 4) 2 2302 [some (.ref 0), some (.ref 1000), some (.ref 1099), some (.ref 1109), some (.ref 1110), some (.int x5), w6, some (.double x7), w8] [.ref 1110] h rfl rfl rfl ?_
  refine tr_ic 0 0 (by decide) rfl ?_
  refine tr_dald 1110 u0 _ rfl (by decide) (hh_rd (hh_obj hL (k := 110) rfl).1) (hh_obj hL (k := 110) rfl).2 p0 ?_
  refine tr_s (.dload 7) 2 2306 [some (.ref 0), some (.ref 1000), some (.ref 1099), some (.ref 1109), some (.ref 1110), some (.int x5), w6, some (.double x7), w8] [.double x7, .double u0] h rfl rfl rfl ?_
  refine tr_s (.dcmp .l) 1 2307 [some (.ref 0), some (.ref 1000), some (.ref 1099), some (.ref 1109), some (.ref 1110), some (.int x5), w6, some (.double x7), w8] [.int (Op.cmpValue (FP.dcmp u0 x7) .l)] h rfl rfl rfl ?_
  exact tr_if1 .eq 25 2332 (Op.cmpValue (FP.dcmp u0 x7) .l) rfl rfl rfl (fun hc => t ((tr_eq hc).1 rfl)) (fun hc => f ((tr_eq hc).2 rfl))
theorem sg_law_2310 {g : tr_g} {d : Nat} {h : ev_AH} {r : ev_O × ev_AH} {x5 : Int32} {w6 w8 : Option Value} {x7 u0 u1 : UInt64} (hL : hh_L h) (p0 : (hh_v h 110)[0]? = some (.double u0)) (p1 : (hh_v h 110)[0]? = some (.double u1)) (t : (Op.cmpValue (FP.dcmp u0 u1) .l) = 0 → tr_L g d m_law 2330 [some (.ref 0), some (.ref 1000), some (.ref 1099), some (.ref 1109), some (.ref 1110), some (.int x5), w6, some (.double x7), w8] [] h r) (f : (Op.cmpValue (FP.dcmp u0 u1) .l) ≠ 0 → tr_L g d m_law 2322 [some (.ref 0), some (.ref 1000), some (.ref 1099), some (.ref 1109), some (.ref 1110), some (.int x5), w6, some (.double x7), w8] [] h r) : tr_L g d m_law 2310 [some (.ref 0), some (.ref 1000), some (.ref 1099), some (.ref 1109), some (.ref 1110), some (.int x5), w6, some (.double x7), w8] [] h r := by
  refine tr_s (.aload 4) 2 2312 [some (.ref 0), some (.ref 1000), some (.ref 1099), some (.ref 1109), some (.ref 1110), some (.int x5), w6, some (.double x7), w8] [.ref 1110] h rfl rfl rfl ?_
  refine tr_ic 0 0 (by decide) rfl ?_
  refine tr_dald 1110 u0 _ rfl (by decide) (hh_rd (hh_obj hL (k := 110) rfl).1) (hh_obj hL (k := 110) rfl).2 p0 ?_
  refine tr_s (.aload 4) 2 2316 [some (.ref 0), some (.ref 1000), some (.ref 1099), some (.ref 1109), some (.ref 1110), some (.int x5), w6, some (.double x7), w8] [.ref 1110, .double u0] h rfl rfl rfl ?_
  refine tr_ic 0 0 (by decide) rfl ?_
  refine tr_dald 1110 u1 _ rfl (by decide) (hh_rd (hh_obj hL (k := 110) rfl).1) (hh_obj hL (k := 110) rfl).2 p1 ?_
  refine tr_s (.dcmp .l) 1 2319 [some (.ref 0), some (.ref 1000), some (.ref 1099), some (.ref 1109), some (.ref 1110), some (.int x5), w6, some (.double x7), w8] [.int (Op.cmpValue (FP.dcmp u0 u1) .l)] h rfl rfl rfl ?_
  exact tr_if1 .eq 11 2330 (Op.cmpValue (FP.dcmp u0 u1) .l) rfl rfl rfl (fun hc => t ((tr_eq hc).1 rfl)) (fun hc => f ((tr_eq hc).2 rfl))
theorem sg_law_2322 {g : tr_g} {d : Nat} {h : ev_AH} {r : ev_O × ev_AH} {x5 : Int32} {w6 w8 : Option Value} {x7 : UInt64} (hL : hh_L h) (t : (Op.cmpValue (FP.dcmp x7 x7) .l) ≠ 0 → tr_L g d m_law 2332 [some (.ref 0), some (.ref 1000), some (.ref 1099), some (.ref 1109), some (.ref 1110), some (.int x5), w6, some (.double x7), w8] [] h r) (f : (Op.cmpValue (FP.dcmp x7 x7) .l) = 0 → tr_L g d m_law 2330 [some (.ref 0), some (.ref 1000), some (.ref 1099), some (.ref 1109), some (.ref 1110), some (.int x5), w6, some (.double x7), w8] [] h r) : tr_L g d m_law 2322 [some (.ref 0), some (.ref 1000), some (.ref 1099), some (.ref 1109), some (.ref 1110), some (.int x5), w6, some (.double x7), w8] [] h r := by
  refine tr_s (.dload 7) 2 2324 [some (.ref 0), some (.ref 1000), some (.ref 1099), some (.ref 1109), some (.ref 1110), some (.int x5), w6, some (.double x7), w8] [.double x7] h rfl rfl rfl ?_
  refine tr_s (.dload 7) 2 2326 [some (.ref 0), some (.ref 1000), some (.ref 1099), some (.ref 1109), some (.ref 1110), some (.int x5), w6, some (.double x7), w8] [.double x7, .double x7] h rfl rfl rfl ?_
  refine tr_s (.dcmp .l) 1 2327 [some (.ref 0), some (.ref 1000), some (.ref 1099), some (.ref 1109), some (.ref 1110), some (.int x5), w6, some (.double x7), w8] [.int (Op.cmpValue (FP.dcmp x7 x7) .l)] h rfl rfl rfl ?_
  exact tr_if1 .ne 5 2332 (Op.cmpValue (FP.dcmp x7 x7) .l) rfl rfl rfl (fun hc => t ((tr_ne hc).1 rfl)) (fun hc => f ((tr_ne hc).2 rfl))
theorem sg_law_2330 {g : tr_g} {d : Nat} {h : ev_AH} {r : ev_O × ev_AH} {w0 w1 w2 w3 w4 w5 w6 w7 w8 : Option Value} (hL : hh_L h) (hr : r = (.inl (some (.int 0)), h)) : tr_L g d m_law 2330 [w0, w1, w2, w3, w4, w5, w6, w7, w8] [] h r := by
  refine tr_ic 0 0 (by decide) rfl ?_
  exact tl_ret hL .ireturn 1 (some (.int 0)) rfl rfl rfl rfl hr
theorem sg_law_2332 {g : tr_g} {d : Nat} {h : ev_AH} {r : ev_O × ev_AH} {x5 : Int32} {w6 w7 w8 : Option Value} (hL : hh_L h) (k : tr_L g d m_law 28 [some (.ref 0), some (.ref 1000), some (.ref 1099), some (.ref 1109), some (.ref 1110), some (.int (x5 + 5)), w6, w7, w8] [] h r) : tr_L g d m_law 2332 [some (.ref 0), some (.ref 1000), some (.ref 1099), some (.ref 1109), some (.ref 1110), some (.int x5), w6, w7, w8] [] h r := by
  refine tr_goto 629 2961 rfl rfl rfl ?_
  refine tr_inc 5 5 x5 5 (by decide) rfl rfl rfl ?_
  refine tr_goto (-2936) 28 rfl rfl rfl ?_
  exact k
theorem sg_law_2335 {g : tr_g} {d : Nat} {h : ev_AH} {r : ev_O × ev_AH} {x5 v0 v2 : Int32} {w6 w7 w8 : Option Value} {h1 h2 h3 : ev_AH} {v1 : UInt32} (hL : hh_L h) (c_0 : tr_L g d m_L_hungShare 0 [some (.ref 1000), some (.ref 1110), none] [] h (.inl (some (.int v0)), h1)) (c_1 : tr_L g d m_X9_hungShare 0 [some (.ref 1099)] [] h1 (.inl (some (.float v1)), h2)) (c_2 : tr_L g d m_X9_thrown 0 [some (.ref 1099)] [] h2 (.inl (some (.int v2)), h3)) (t : v2 = v0 → tr_L g (d + 1) m_law 2360 [some (.ref 0), some (.ref 1000), some (.ref 1099), some (.ref 1109), some (.ref 1110), some (.int x5), some (.int v0), some (.float v1), w8] [] h3 r) (f : v2 ≠ v0 → tr_L g (d + 1) m_law 2358 [some (.ref 0), some (.ref 1000), some (.ref 1099), some (.ref 1109), some (.ref 1110), some (.int x5), some (.int v0), some (.float v1), w8] [] h3 r) : tr_L g (d + 1) m_law 2335 [some (.ref 0), some (.ref 1000), some (.ref 1099), some (.ref 1109), some (.ref 1110), some (.int x5), w6, w7, w8] [] h r := by
  refine tr_s (.aload_n 1) 1 2336 [some (.ref 0), some (.ref 1000), some (.ref 1099), some (.ref 1109), some (.ref 1110), some (.int x5), w6, w7, w8] [.ref 1000] h rfl rfl rfl ?_
  refine tr_s (.aload 4) 2 2338 [some (.ref 0), some (.ref 1000), some (.ref 1099), some (.ref 1109), some (.ref 1110), some (.int x5), w6, w7, w8] [.ref 1110, .ref 1000] h rfl rfl rfl ?_
  refine tr_call (.invokestatic 315) 315 8 2 0 m_L_hungShare [.ref 1000, .ref 1110] [] (some (.int v0)) h1 rfl rfl rfl rfl rfl rfl rfl rfl rfl (tr_cok rfl (Or.inl rfl)) c_0 ?_
  have hL0 := c_0.2
  refine tr_st (.istore 6) 2 6 0 (.int v0) rfl rfl rfl rfl rfl rfl rfl ?_
  refine tr_s (.aload_n 2) 1 2344 [some (.ref 0), some (.ref 1000), some (.ref 1099), some (.ref 1109), some (.ref 1110), some (.int x5), some (.int v0), w7, w8] [.ref 1099] h1 rfl rfl rfl ?_
  refine tr_call (.invokevirtual 317) 317 0 0 8 m_X9_hungShare [.ref 1099] [] (some (.float v1)) h2 rfl rfl rfl rfl rfl rfl rfl rfl rfl (tr_cok rfl (Or.inr ⟨_, _, rfl, tr_rc (hh_rd (hh_obj hL0 (k := 99) rfl).1) (by decide)⟩)) c_1 ?_
  have hL1 := c_1.2
  refine tr_s (.fstore 7) 2 2349 [some (.ref 0), some (.ref 1000), some (.ref 1099), some (.ref 1109), some (.ref 1110), some (.int x5), some (.int v0), some (.float v1), w8] [] h2 rfl rfl rfl ?_
  refine tr_s (.aload_n 2) 1 2350 [some (.ref 0), some (.ref 1000), some (.ref 1099), some (.ref 1109), some (.ref 1110), some (.int x5), some (.int v0), some (.float v1), w8] [.ref 1099] h2 rfl rfl rfl ?_
  refine tr_call (.invokevirtual 180) 180 0 0 8 m_X9_thrown [.ref 1099] [] (some (.int v2)) h3 rfl rfl rfl rfl rfl rfl rfl rfl rfl (tr_cok rfl (Or.inr ⟨_, _, rfl, tr_rc (hh_rd (hh_obj hL1 (k := 99) rfl).1) (by decide)⟩)) c_2 ?_
  have hL2 := c_2.2
  refine tr_s (.iload 6) 2 2355 [some (.ref 0), some (.ref 1000), some (.ref 1099), some (.ref 1109), some (.ref 1110), some (.int x5), some (.int v0), some (.float v1), w8] [.int v0, .int v2] h3 rfl rfl rfl ?_
  exact tr_if2 .eq 5 2360 v2 v0 rfl rfl rfl (fun hc => t ((tr_eq hc).1 rfl)) (fun hc => f ((tr_eq hc).2 rfl))
theorem sg_law_2358 {g : tr_g} {d : Nat} {h : ev_AH} {r : ev_O × ev_AH} {w0 w1 w2 w3 w4 w5 w6 w7 w8 : Option Value} (hL : hh_L h) (hr : r = (.inl (some (.int 0)), h)) : tr_L g d m_law 2358 [w0, w1, w2, w3, w4, w5, w6, w7, w8] [] h r := by
  refine tr_ic 0 0 (by decide) rfl ?_
  exact tl_ret hL .ireturn 1 (some (.int 0)) rfl rfl rfl rfl hr
theorem sg_law_2360 {g : tr_g} {d : Nat} {h : ev_AH} {r : ev_O × ev_AH} {x5 x6 : Int32} {x7 : UInt32} {w8 : Option Value} (hL : hh_L h) (t : x6 ≠ 0 → tr_L g d m_law 2398 [some (.ref 0), some (.ref 1000), some (.ref 1099), some (.ref 1109), some (.ref 1110), some (.int x5), some (.int x6), some (.float x7), w8] [] h r) (f : x6 = 0 → tr_L g d m_law 2365 [some (.ref 0), some (.ref 1000), some (.ref 1099), some (.ref 1109), some (.ref 1110), some (.int x5), some (.int x6), some (.float x7), w8] [] h r) : tr_L g d m_law 2360 [some (.ref 0), some (.ref 1000), some (.ref 1099), some (.ref 1109), some (.ref 1110), some (.int x5), some (.int x6), some (.float x7), w8] [] h r := by
  refine tr_s (.iload 6) 2 2362 [some (.ref 0), some (.ref 1000), some (.ref 1099), some (.ref 1109), some (.ref 1110), some (.int x5), some (.int x6), some (.float x7), w8] [.int x6] h rfl rfl rfl ?_
  exact tr_if1 .ne 36 2398 x6 rfl rfl rfl (fun hc => t ((tr_ne hc).1 rfl)) (fun hc => f ((tr_ne hc).2 rfl))
theorem sg_law_2365 {g : tr_g} {d : Nat} {h : ev_AH} {r : ev_O × ev_AH} {x5 : Int32} {w6 w8 : Option Value} {x7 : UInt32} {u0 : UInt64} (hL : hh_L h) (p0 : (hh_v h 110)[0]? = some (.double u0)) (nn0 : FP.f2d x7 &&& 0x7fffffffffffffff ≤ 0x7ff0000000000000) (t : (Op.cmpValue (FP.dcmp u0 (FP.f2d x7)) .l) = 0 → tr_L g d m_law 2398 [some (.ref 0), some (.ref 1000), some (.ref 1099), some (.ref 1109), some (.ref 1110), some (.int x5), w6, some (.float x7), w8] [] h r) (f : (Op.cmpValue (FP.dcmp u0 (FP.f2d x7)) .l) ≠ 0 → tr_L g d m_law 2376 [some (.ref 0), some (.ref 1000), some (.ref 1099), some (.ref 1109), some (.ref 1110), some (.int x5), w6, some (.float x7), w8] [] h r) : tr_L g d m_law 2365 [some (.ref 0), some (.ref 1000), some (.ref 1099), some (.ref 1109), some (.ref 1110), some (.int x5), w6, some (.float x7), w8] [] h r := by
  refine tr_s (.aload 4) 2 2367 [some (.ref 0), some (.ref 1000), some (.ref 1099), some (.ref 1109), some (.ref 1110), some (.int x5), w6, some (.float x7), w8] [.ref 1110] h rfl rfl rfl ?_
  refine tr_ic 0 0 (by decide) rfl ?_
  refine tr_dald 1110 u0 _ rfl (by decide) (hh_rd (hh_obj hL (k := 110) rfl).1) (hh_obj hL (k := 110) rfl).2 p0 ?_
  refine tr_s (.fload 7) 2 2371 [some (.ref 0), some (.ref 1000), some (.ref 1099), some (.ref 1109), some (.ref 1110), some (.int x5), w6, some (.float x7), w8] [.float x7, .double u0] h rfl rfl rfl ?_
  refine tr_s .f2d 1 2372 [some (.ref 0), some (.ref 1000), some (.ref 1099), some (.ref 1109), some (.ref 1110), some (.int x5), w6, some (.float x7), w8] [.double (FP.f2d x7), .double u0] h rfl rfl (by simp only [ev_s, ev_ldi, ev_sti, ev_p, decide_eq_true nn0, cond_true]) ?_
  refine tr_s (.dcmp .l) 1 2373 [some (.ref 0), some (.ref 1000), some (.ref 1099), some (.ref 1109), some (.ref 1110), some (.int x5), w6, some (.float x7), w8] [.int (Op.cmpValue (FP.dcmp u0 (FP.f2d x7)) .l)] h rfl rfl rfl ?_
  exact tr_if1 .eq 25 2398 (Op.cmpValue (FP.dcmp u0 (FP.f2d x7)) .l) rfl rfl rfl (fun hc => t ((tr_eq hc).1 rfl)) (fun hc => f ((tr_eq hc).2 rfl))
theorem sg_law_2376 {g : tr_g} {d : Nat} {h : ev_AH} {r : ev_O × ev_AH} {x5 : Int32} {w6 w8 : Option Value} {x7 : UInt32} {u0 u1 : UInt64} (hL : hh_L h) (p0 : (hh_v h 110)[0]? = some (.double u0)) (p1 : (hh_v h 110)[0]? = some (.double u1)) (t : (Op.cmpValue (FP.dcmp u0 u1) .l) = 0 → tr_L g d m_law 2396 [some (.ref 0), some (.ref 1000), some (.ref 1099), some (.ref 1109), some (.ref 1110), some (.int x5), w6, some (.float x7), w8] [] h r) (f : (Op.cmpValue (FP.dcmp u0 u1) .l) ≠ 0 → tr_L g d m_law 2388 [some (.ref 0), some (.ref 1000), some (.ref 1099), some (.ref 1109), some (.ref 1110), some (.int x5), w6, some (.float x7), w8] [] h r) : tr_L g d m_law 2376 [some (.ref 0), some (.ref 1000), some (.ref 1099), some (.ref 1109), some (.ref 1110), some (.int x5), w6, some (.float x7), w8] [] h r := by
  refine tr_s (.aload 4) 2 2378 [some (.ref 0), some (.ref 1000), some (.ref 1099), some (.ref 1109), some (.ref 1110), some (.int x5), w6, some (.float x7), w8] [.ref 1110] h rfl rfl rfl ?_
  refine tr_ic 0 0 (by decide) rfl ?_
  refine tr_dald 1110 u0 _ rfl (by decide) (hh_rd (hh_obj hL (k := 110) rfl).1) (hh_obj hL (k := 110) rfl).2 p0 ?_
  refine tr_s (.aload 4) 2 2382 [some (.ref 0), some (.ref 1000), some (.ref 1099), some (.ref 1109), some (.ref 1110), some (.int x5), w6, some (.float x7), w8] [.ref 1110, .double u0] h rfl rfl rfl ?_
  refine tr_ic 0 0 (by decide) rfl ?_
  refine tr_dald 1110 u1 _ rfl (by decide) (hh_rd (hh_obj hL (k := 110) rfl).1) (hh_obj hL (k := 110) rfl).2 p1 ?_
  refine tr_s (.dcmp .l) 1 2385 [some (.ref 0), some (.ref 1000), some (.ref 1099), some (.ref 1109), some (.ref 1110), some (.int x5), w6, some (.float x7), w8] [.int (Op.cmpValue (FP.dcmp u0 u1) .l)] h rfl rfl rfl ?_
  exact tr_if1 .eq 11 2396 (Op.cmpValue (FP.dcmp u0 u1) .l) rfl rfl rfl (fun hc => t ((tr_eq hc).1 rfl)) (fun hc => f ((tr_eq hc).2 rfl))
theorem sg_law_2388 {g : tr_g} {d : Nat} {h : ev_AH} {r : ev_O × ev_AH} {x5 : Int32} {w6 w8 : Option Value} {x7 : UInt32} (hL : hh_L h) (t : (Op.cmpValue (FP.fcmp x7 x7) .l) ≠ 0 → tr_L g d m_law 2398 [some (.ref 0), some (.ref 1000), some (.ref 1099), some (.ref 1109), some (.ref 1110), some (.int x5), w6, some (.float x7), w8] [] h r) (f : (Op.cmpValue (FP.fcmp x7 x7) .l) = 0 → tr_L g d m_law 2396 [some (.ref 0), some (.ref 1000), some (.ref 1099), some (.ref 1109), some (.ref 1110), some (.int x5), w6, some (.float x7), w8] [] h r) : tr_L g d m_law 2388 [some (.ref 0), some (.ref 1000), some (.ref 1099), some (.ref 1109), some (.ref 1110), some (.int x5), w6, some (.float x7), w8] [] h r := by
  refine tr_s (.fload 7) 2 2390 [some (.ref 0), some (.ref 1000), some (.ref 1099), some (.ref 1109), some (.ref 1110), some (.int x5), w6, some (.float x7), w8] [.float x7] h rfl rfl rfl ?_
  refine tr_s (.fload 7) 2 2392 [some (.ref 0), some (.ref 1000), some (.ref 1099), some (.ref 1109), some (.ref 1110), some (.int x5), w6, some (.float x7), w8] [.float x7, .float x7] h rfl rfl rfl ?_
  refine tr_s (.fcmp .l) 1 2393 [some (.ref 0), some (.ref 1000), some (.ref 1099), some (.ref 1109), some (.ref 1110), some (.int x5), w6, some (.float x7), w8] [.int (Op.cmpValue (FP.fcmp x7 x7) .l)] h rfl rfl rfl ?_
  exact tr_if1 .ne 5 2398 (Op.cmpValue (FP.fcmp x7 x7) .l) rfl rfl rfl (fun hc => t ((tr_ne hc).1 rfl)) (fun hc => f ((tr_ne hc).2 rfl))
theorem sg_law_2396 {g : tr_g} {d : Nat} {h : ev_AH} {r : ev_O × ev_AH} {w0 w1 w2 w3 w4 w5 w6 w7 w8 : Option Value} (hL : hh_L h) (hr : r = (.inl (some (.int 0)), h)) : tr_L g d m_law 2396 [w0, w1, w2, w3, w4, w5, w6, w7, w8] [] h r := by
  refine tr_ic 0 0 (by decide) rfl ?_
  exact tl_ret hL .ireturn 1 (some (.int 0)) rfl rfl rfl rfl hr
theorem sg_law_2398 {g : tr_g} {d : Nat} {h : ev_AH} {r : ev_O × ev_AH} {x5 : Int32} {w6 w7 w8 : Option Value} (hL : hh_L h) (k : tr_L g d m_law 28 [some (.ref 0), some (.ref 1000), some (.ref 1099), some (.ref 1109), some (.ref 1110), some (.int (x5 + 5)), w6, w7, w8] [] h r) : tr_L g d m_law 2398 [some (.ref 0), some (.ref 1000), some (.ref 1099), some (.ref 1109), some (.ref 1110), some (.int x5), w6, w7, w8] [] h r := by
  refine tr_goto 563 2961 rfl rfl rfl ?_
  refine tr_inc 5 5 x5 5 (by decide) rfl rfl rfl ?_
  refine tr_goto (-2936) 28 rfl rfl rfl ?_
  exact k
theorem sx_law_2401_2402 {g : tr_g} {d : Nat} {h : ev_AH} {r : ev_O × ev_AH} {x5 v0 : Int32} {w6 w7 w8 : Option Value} {h1 hx : ev_AH} {E : Nat} (hL : hh_L h) (cx : tr_L g d m_X8_isConsistent 0 [some (.ref 1000)] [] h (.inr E, hx)) (hr : r = (.inr E, hx)) : tr_L g (d + 1) m_law 2401 [some (.ref 0), some (.ref 1000), some (.ref 1099), some (.ref 1109), some (.ref 1110), some (.int x5), w6, w7, w8] [] h r := by
  refine tr_s (.aload_n 1) 1 2402 [some (.ref 0), some (.ref 1000), some (.ref 1099), some (.ref 1109), some (.ref 1110), some (.int x5), w6, w7, w8] [.ref 1000] h rfl rfl rfl ?_
  exact tr_callx (.invokevirtual 318) 318 0 0 0 m_X8_isConsistent [.ref 1000] [] E hx rfl rfl rfl rfl rfl rfl rfl rfl rfl (tr_cok rfl (Or.inr ⟨_, _, rfl, tr_rc (hh_rd (hh_obj hL (k := 0) rfl).1) (by decide)⟩)) rfl cx hr
theorem sg_law_2401 {g : tr_g} {d : Nat} {h : ev_AH} {r : ev_O × ev_AH} {x5 v0 v1 : Int32} {w6 w7 w8 : Option Value} {h1 h2 : ev_AH} (hL : hh_L h) (c_0 : tr_L g d m_X8_isConsistent 0 [some (.ref 1000)] [] h (.inl (some (.int v0)), h1)) (c_1 : tr_L g d m_X9_isConsistent 0 [some (.ref 1099), none, none] [] h1 (.inl (some (.int v1)), h2)) (t : v0 = v1 → tr_L g (d + 1) m_law 2961 [some (.ref 0), some (.ref 1000), some (.ref 1099), some (.ref 1109), some (.ref 1110), some (.int x5), w6, w7, w8] [] h2 r) (f : v0 ≠ v1 → tr_L g (d + 1) m_law 2412 [some (.ref 0), some (.ref 1000), some (.ref 1099), some (.ref 1109), some (.ref 1110), some (.int x5), w6, w7, w8] [] h2 r) : tr_L g (d + 1) m_law 2401 [some (.ref 0), some (.ref 1000), some (.ref 1099), some (.ref 1109), some (.ref 1110), some (.int x5), w6, w7, w8] [] h r := by
  refine tr_s (.aload_n 1) 1 2402 [some (.ref 0), some (.ref 1000), some (.ref 1099), some (.ref 1109), some (.ref 1110), some (.int x5), w6, w7, w8] [.ref 1000] h rfl rfl rfl ?_
  refine tr_call (.invokevirtual 318) 318 0 0 0 m_X8_isConsistent [.ref 1000] [] (some (.int v0)) h1 rfl rfl rfl rfl rfl rfl rfl rfl rfl (tr_cok rfl (Or.inr ⟨_, _, rfl, tr_rc (hh_rd (hh_obj hL (k := 0) rfl).1) (by decide)⟩)) c_0 ?_
  have hL0 := c_0.2
  refine tr_s (.aload_n 2) 1 2406 [some (.ref 0), some (.ref 1000), some (.ref 1099), some (.ref 1109), some (.ref 1110), some (.int x5), w6, w7, w8] [.ref 1099, .int v0] h1 rfl rfl rfl ?_
  refine tr_call (.invokevirtual 321) 321 0 0 8 m_X9_isConsistent [.ref 1099] [.int v0] (some (.int v1)) h2 rfl rfl rfl rfl rfl rfl rfl rfl rfl (tr_cok rfl (Or.inr ⟨_, _, rfl, tr_rc (hh_rd (hh_obj hL0 (k := 99) rfl).1) (by decide)⟩)) c_1 ?_
  have hL1 := c_1.2
  exact tr_if2 .eq 552 2961 v0 v1 rfl rfl rfl (fun hc => t ((tr_eq hc).1 rfl)) (fun hc => f ((tr_eq hc).2 rfl))
theorem sg_law_2412 {g : tr_g} {d : Nat} {h : ev_AH} {r : ev_O × ev_AH} {w0 w1 w2 w3 w4 w5 w6 w7 w8 : Option Value} (hL : hh_L h) (hr : r = (.inl (some (.int 0)), h)) : tr_L g d m_law 2412 [w0, w1, w2, w3, w4, w5, w6, w7, w8] [] h r := by
  refine tr_ic 0 0 (by decide) rfl ?_
  exact tl_ret hL .ireturn 1 (some (.int 0)) rfl rfl rfl rfl hr
theorem sg_law_2414 {g : tr_g} {d : Nat} {h : ev_AH} {r : ev_O × ev_AH} {x5 v0 v1 v2 : Int32} {w6 w7 w8 : Option Value} {j0 j1 : Nat} {h1 h2 h3 : ev_AH} (hL : hh_L h) (e0 : x5 + 1 = Int32.ofNat j0) (b0 : j0 < g.1.length) (z0 : g.1.length < 2147483648) (c_0 : tr_L g d m_L_writeRow 0 [some (.ref 1000), some (.int (g.1.getD j0 0)), some (.ref 1109), none] [] h (.inl (some (.int v0)), h1)) (e1 : x5 + 1 = Int32.ofNat j1) (b1 : j1 < g.1.length) (z1 : g.1.length < 2147483648) (c_1 : tr_L g d m_X9_writeRow 0 [some (.ref 1099), some (.int (g.1.getD j1 0)), none] [] h1 (.inl (some (.int v1)), h2)) (c_2 : tr_L g d m_X9_thrown 0 [some (.ref 1099)] [] h2 (.inl (some (.int v2)), h3)) (t : v2 = v0 → tr_L g (d + 1) m_law 2450 [some (.ref 0), some (.ref 1000), some (.ref 1099), some (.ref 1109), some (.ref 1110), some (.int x5), some (.int v0), some (.int v1), w8] [] h3 r) (f : v2 ≠ v0 → tr_L g (d + 1) m_law 2448 [some (.ref 0), some (.ref 1000), some (.ref 1099), some (.ref 1109), some (.ref 1110), some (.int x5), some (.int v0), some (.int v1), w8] [] h3 r) : tr_L g (d + 1) m_law 2414 [some (.ref 0), some (.ref 1000), some (.ref 1099), some (.ref 1109), some (.ref 1110), some (.int x5), w6, w7, w8] [] h r := by
  refine tr_s (.aload_n 1) 1 2415 [some (.ref 0), some (.ref 1000), some (.ref 1099), some (.ref 1109), some (.ref 1110), some (.int x5), w6, w7, w8] [.ref 1000] h rfl rfl rfl ?_
  refine tr_s (.aload_n 0) 1 2416 [some (.ref 0), some (.ref 1000), some (.ref 1099), some (.ref 1109), some (.ref 1110), some (.int x5), w6, w7, w8] [.ref 0, .ref 1000] h rfl rfl rfl ?_
  refine tr_s (.iload 5) 2 2418 [some (.ref 0), some (.ref 1000), some (.ref 1099), some (.ref 1109), some (.ref 1110), some (.int x5), w6, w7, w8] [.int x5, .ref 0, .ref 1000] h rfl rfl rfl ?_
  refine tr_ic 1 1 (by decide) rfl ?_
  refine tr_s .iadd 1 2420 [some (.ref 0), some (.ref 1000), some (.ref 1099), some (.ref 1109), some (.ref 1110), some (.int x5), w6, w7, w8] [.int (x5 + 1), .ref 0, .ref 1000] h rfl rfl rfl ?_
  refine tr_ald .iaload 0 0 j0 (x5 + 1) g.1 (Or.inl ⟨rfl, rfl⟩) rfl rfl e0 b0 z0 ?_
  refine tr_s (.aload_n 3) 1 2422 [some (.ref 0), some (.ref 1000), some (.ref 1099), some (.ref 1109), some (.ref 1110), some (.int x5), w6, w7, w8] [.ref 1109, .int (g.1.getD j0 0), .ref 1000] h rfl rfl rfl ?_
  refine tr_call (.invokestatic 322) 322 8 3 0 m_L_writeRow [.ref 1000, .int (g.1.getD j0 0), .ref 1109] [] (some (.int v0)) h1 rfl rfl rfl rfl rfl rfl rfl rfl rfl (tr_cok rfl (Or.inl rfl)) c_0 ?_
  have hL0 := c_0.2
  refine tr_st (.istore 6) 2 6 0 (.int v0) rfl rfl rfl rfl rfl rfl rfl ?_
  refine tr_s (.aload_n 2) 1 2428 [some (.ref 0), some (.ref 1000), some (.ref 1099), some (.ref 1109), some (.ref 1110), some (.int x5), some (.int v0), w7, w8] [.ref 1099] h1 rfl rfl rfl ?_
  refine tr_s (.aload_n 0) 1 2429 [some (.ref 0), some (.ref 1000), some (.ref 1099), some (.ref 1109), some (.ref 1110), some (.int x5), some (.int v0), w7, w8] [.ref 0, .ref 1099] h1 rfl rfl rfl ?_
  refine tr_s (.iload 5) 2 2431 [some (.ref 0), some (.ref 1000), some (.ref 1099), some (.ref 1109), some (.ref 1110), some (.int x5), some (.int v0), w7, w8] [.int x5, .ref 0, .ref 1099] h1 rfl rfl rfl ?_
  refine tr_ic 1 1 (by decide) rfl ?_
  refine tr_s .iadd 1 2433 [some (.ref 0), some (.ref 1000), some (.ref 1099), some (.ref 1109), some (.ref 1110), some (.int x5), some (.int v0), w7, w8] [.int (x5 + 1), .ref 0, .ref 1099] h1 rfl rfl rfl ?_
  refine tr_ald .iaload 0 0 j1 (x5 + 1) g.1 (Or.inl ⟨rfl, rfl⟩) rfl rfl e1 b1 z1 ?_
  refine tr_call (.invokevirtual 324) 324 0 1 8 m_X9_writeRow [.ref 1099, .int (g.1.getD j1 0)] [] (some (.int v1)) h2 rfl rfl rfl rfl rfl rfl rfl rfl rfl (tr_cok rfl (Or.inr ⟨_, _, rfl, tr_rc (hh_rd (hh_obj hL0 (k := 99) rfl).1) (by decide)⟩)) c_1 ?_
  have hL1 := c_1.2
  refine tr_st (.istore 7) 2 7 0 (.int v1) rfl rfl rfl rfl rfl rfl rfl ?_
  refine tr_s (.aload_n 2) 1 2440 [some (.ref 0), some (.ref 1000), some (.ref 1099), some (.ref 1109), some (.ref 1110), some (.int x5), some (.int v0), some (.int v1), w8] [.ref 1099] h2 rfl rfl rfl ?_
  refine tr_call (.invokevirtual 180) 180 0 0 8 m_X9_thrown [.ref 1099] [] (some (.int v2)) h3 rfl rfl rfl rfl rfl rfl rfl rfl rfl (tr_cok rfl (Or.inr ⟨_, _, rfl, tr_rc (hh_rd (hh_obj hL1 (k := 99) rfl).1) (by decide)⟩)) c_2 ?_
  have hL2 := c_2.2
  refine tr_s (.iload 6) 2 2445 [some (.ref 0), some (.ref 1000), some (.ref 1099), some (.ref 1109), some (.ref 1110), some (.int x5), some (.int v0), some (.int v1), w8] [.int v0, .int v2] h3 rfl rfl rfl ?_
  exact tr_if2 .eq 5 2450 v2 v0 rfl rfl rfl (fun hc => t ((tr_eq hc).1 rfl)) (fun hc => f ((tr_eq hc).2 rfl))
theorem sg_law_2448 {g : tr_g} {d : Nat} {h : ev_AH} {r : ev_O × ev_AH} {w0 w1 w2 w3 w4 w5 w6 w7 w8 : Option Value} (hL : hh_L h) (hr : r = (.inl (some (.int 0)), h)) : tr_L g d m_law 2448 [w0, w1, w2, w3, w4, w5, w6, w7, w8] [] h r := by
  refine tr_ic 0 0 (by decide) rfl ?_
  exact tl_ret hL .ireturn 1 (some (.int 0)) rfl rfl rfl rfl hr
theorem sg_law_2450 {g : tr_g} {d : Nat} {h : ev_AH} {r : ev_O × ev_AH} {x5 x6 x7 : Int32} {w8 : Option Value} (hL : hh_L h) (t : x6 ≠ 0 → tr_L g d m_law 2467 [some (.ref 0), some (.ref 1000), some (.ref 1099), some (.ref 1109), some (.ref 1110), some (.int x5), some (.int x6), some (.int x7), w8] [] h r) (f : x6 = 0 → tr_L g d m_law 2455 [some (.ref 0), some (.ref 1000), some (.ref 1099), some (.ref 1109), some (.ref 1110), some (.int x5), some (.int x6), some (.int x7), w8] [] h r) : tr_L g d m_law 2450 [some (.ref 0), some (.ref 1000), some (.ref 1099), some (.ref 1109), some (.ref 1110), some (.int x5), some (.int x6), some (.int x7), w8] [] h r := by
  refine tr_s (.iload 6) 2 2452 [some (.ref 0), some (.ref 1000), some (.ref 1099), some (.ref 1109), some (.ref 1110), some (.int x5), some (.int x6), some (.int x7), w8] [.int x6] h rfl rfl rfl ?_
  exact tr_if1 .ne 15 2467 x6 rfl rfl rfl (fun hc => t ((tr_ne hc).1 rfl)) (fun hc => f ((tr_ne hc).2 rfl))
theorem sg_law_2455 {g : tr_g} {d : Nat} {h : ev_AH} {r : ev_O × ev_AH} {x5 x7 : Int32} {w6 w8 : Option Value} {u0 : Int64} (hL : hh_L h) (p0 : (hh_v h 109)[0]? = some (.long u0)) (t : (lg_cmp u0 x7.toInt64) = 0 → tr_L g d m_law 2467 [some (.ref 0), some (.ref 1000), some (.ref 1099), some (.ref 1109), some (.ref 1110), some (.int x5), w6, some (.int x7), w8] [] h r) (f : (lg_cmp u0 x7.toInt64) ≠ 0 → tr_L g d m_law 2465 [some (.ref 0), some (.ref 1000), some (.ref 1099), some (.ref 1109), some (.ref 1110), some (.int x5), w6, some (.int x7), w8] [] h r) : tr_L g d m_law 2455 [some (.ref 0), some (.ref 1000), some (.ref 1099), some (.ref 1109), some (.ref 1110), some (.int x5), w6, some (.int x7), w8] [] h r := by
  refine tr_s (.aload_n 3) 1 2456 [some (.ref 0), some (.ref 1000), some (.ref 1099), some (.ref 1109), some (.ref 1110), some (.int x5), w6, some (.int x7), w8] [.ref 1109] h rfl rfl rfl ?_
  refine tr_ic 0 0 (by decide) rfl ?_
  refine tr_lald 1109 u0 _ rfl (by decide) (hh_rd (hh_obj hL (k := 109) rfl).1) (hh_obj hL (k := 109) rfl).2 p0 ?_
  refine tr_s (.iload 7) 2 2460 [some (.ref 0), some (.ref 1000), some (.ref 1099), some (.ref 1109), some (.ref 1110), some (.int x5), w6, some (.int x7), w8] [.int x7, .long u0] h rfl rfl rfl ?_
  refine tr_s .i2l 1 2461 [some (.ref 0), some (.ref 1000), some (.ref 1099), some (.ref 1109), some (.ref 1110), some (.int x5), w6, some (.int x7), w8] [.long x7.toInt64, .long u0] h rfl rfl rfl ?_
  refine tr_s .lcmp 1 2462 [some (.ref 0), some (.ref 1000), some (.ref 1099), some (.ref 1109), some (.ref 1110), some (.int x5), w6, some (.int x7), w8] [.int (lg_cmp u0 x7.toInt64)] h rfl rfl rfl ?_
  exact tr_if1 .eq 5 2467 (lg_cmp u0 x7.toInt64) rfl rfl rfl (fun hc => t ((tr_eq hc).1 rfl)) (fun hc => f ((tr_eq hc).2 rfl))
theorem sg_law_2465 {g : tr_g} {d : Nat} {h : ev_AH} {r : ev_O × ev_AH} {w0 w1 w2 w3 w4 w5 w6 w7 w8 : Option Value} (hL : hh_L h) (hr : r = (.inl (some (.int 0)), h)) : tr_L g d m_law 2465 [w0, w1, w2, w3, w4, w5, w6, w7, w8] [] h r := by
  refine tr_ic 0 0 (by decide) rfl ?_
  exact tl_ret hL .ireturn 1 (some (.int 0)) rfl rfl rfl rfl hr
theorem sg_law_2467 {g : tr_g} {d : Nat} {h : ev_AH} {r : ev_O × ev_AH} {x5 : Int32} {w6 w7 w8 : Option Value} (hL : hh_L h) (k : tr_L g d m_law 28 [some (.ref 0), some (.ref 1000), some (.ref 1099), some (.ref 1109), some (.ref 1110), some (.int (x5 + 5)), w6, w7, w8] [] h r) : tr_L g d m_law 2467 [some (.ref 0), some (.ref 1000), some (.ref 1099), some (.ref 1109), some (.ref 1110), some (.int x5), w6, w7, w8] [] h r := by
  refine tr_goto 494 2961 rfl rfl rfl ?_
  refine tr_inc 5 5 x5 5 (by decide) rfl rfl rfl ?_
  refine tr_goto (-2936) 28 rfl rfl rfl ?_
  exact k
theorem sg_law_2470 {g : tr_g} {d : Nat} {h : ev_AH} {r : ev_O × ev_AH} {x5 v0 v1 v2 : Int32} {w6 w7 w8 : Option Value} {j0 j1 : Nat} {h1 h2 h3 : ev_AH} (hL : hh_L h) (e0 : x5 + 1 = Int32.ofNat j0) (b0 : j0 < g.1.length) (z0 : g.1.length < 2147483648) (c_0 : tr_L g d m_L_writeCat 0 [some (.ref 1000), some (.int (g.1.getD j0 0)), some (.ref 1109), none] [] h (.inl (some (.int v0)), h1)) (e1 : x5 + 1 = Int32.ofNat j1) (b1 : j1 < g.1.length) (z1 : g.1.length < 2147483648) (c_1 : tr_L g d m_X9_writeCat 0 [some (.ref 1099), some (.int (g.1.getD j1 0)), none] [] h1 (.inl (some (.int v1)), h2)) (c_2 : tr_L g d m_X9_thrown 0 [some (.ref 1099)] [] h2 (.inl (some (.int v2)), h3)) (t : v2 = v0 → tr_L g (d + 1) m_law 2506 [some (.ref 0), some (.ref 1000), some (.ref 1099), some (.ref 1109), some (.ref 1110), some (.int x5), some (.int v0), some (.int v1), w8] [] h3 r) (f : v2 ≠ v0 → tr_L g (d + 1) m_law 2504 [some (.ref 0), some (.ref 1000), some (.ref 1099), some (.ref 1109), some (.ref 1110), some (.int x5), some (.int v0), some (.int v1), w8] [] h3 r) : tr_L g (d + 1) m_law 2470 [some (.ref 0), some (.ref 1000), some (.ref 1099), some (.ref 1109), some (.ref 1110), some (.int x5), w6, w7, w8] [] h r := by
  refine tr_s (.aload_n 1) 1 2471 [some (.ref 0), some (.ref 1000), some (.ref 1099), some (.ref 1109), some (.ref 1110), some (.int x5), w6, w7, w8] [.ref 1000] h rfl rfl rfl ?_
  refine tr_s (.aload_n 0) 1 2472 [some (.ref 0), some (.ref 1000), some (.ref 1099), some (.ref 1109), some (.ref 1110), some (.int x5), w6, w7, w8] [.ref 0, .ref 1000] h rfl rfl rfl ?_
  refine tr_s (.iload 5) 2 2474 [some (.ref 0), some (.ref 1000), some (.ref 1099), some (.ref 1109), some (.ref 1110), some (.int x5), w6, w7, w8] [.int x5, .ref 0, .ref 1000] h rfl rfl rfl ?_
  refine tr_ic 1 1 (by decide) rfl ?_
  refine tr_s .iadd 1 2476 [some (.ref 0), some (.ref 1000), some (.ref 1099), some (.ref 1109), some (.ref 1110), some (.int x5), w6, w7, w8] [.int (x5 + 1), .ref 0, .ref 1000] h rfl rfl rfl ?_
  refine tr_ald .iaload 0 0 j0 (x5 + 1) g.1 (Or.inl ⟨rfl, rfl⟩) rfl rfl e0 b0 z0 ?_
  refine tr_s (.aload_n 3) 1 2478 [some (.ref 0), some (.ref 1000), some (.ref 1099), some (.ref 1109), some (.ref 1110), some (.int x5), w6, w7, w8] [.ref 1109, .int (g.1.getD j0 0), .ref 1000] h rfl rfl rfl ?_
  refine tr_call (.invokestatic 325) 325 8 3 0 m_L_writeCat [.ref 1000, .int (g.1.getD j0 0), .ref 1109] [] (some (.int v0)) h1 rfl rfl rfl rfl rfl rfl rfl rfl rfl (tr_cok rfl (Or.inl rfl)) c_0 ?_
  have hL0 := c_0.2
  refine tr_st (.istore 6) 2 6 0 (.int v0) rfl rfl rfl rfl rfl rfl rfl ?_
  refine tr_s (.aload_n 2) 1 2484 [some (.ref 0), some (.ref 1000), some (.ref 1099), some (.ref 1109), some (.ref 1110), some (.int x5), some (.int v0), w7, w8] [.ref 1099] h1 rfl rfl rfl ?_
  refine tr_s (.aload_n 0) 1 2485 [some (.ref 0), some (.ref 1000), some (.ref 1099), some (.ref 1109), some (.ref 1110), some (.int x5), some (.int v0), w7, w8] [.ref 0, .ref 1099] h1 rfl rfl rfl ?_
  refine tr_s (.iload 5) 2 2487 [some (.ref 0), some (.ref 1000), some (.ref 1099), some (.ref 1109), some (.ref 1110), some (.int x5), some (.int v0), w7, w8] [.int x5, .ref 0, .ref 1099] h1 rfl rfl rfl ?_
  refine tr_ic 1 1 (by decide) rfl ?_
  refine tr_s .iadd 1 2489 [some (.ref 0), some (.ref 1000), some (.ref 1099), some (.ref 1109), some (.ref 1110), some (.int x5), some (.int v0), w7, w8] [.int (x5 + 1), .ref 0, .ref 1099] h1 rfl rfl rfl ?_
  refine tr_ald .iaload 0 0 j1 (x5 + 1) g.1 (Or.inl ⟨rfl, rfl⟩) rfl rfl e1 b1 z1 ?_
  refine tr_call (.invokevirtual 327) 327 0 1 8 m_X9_writeCat [.ref 1099, .int (g.1.getD j1 0)] [] (some (.int v1)) h2 rfl rfl rfl rfl rfl rfl rfl rfl rfl (tr_cok rfl (Or.inr ⟨_, _, rfl, tr_rc (hh_rd (hh_obj hL0 (k := 99) rfl).1) (by decide)⟩)) c_1 ?_
  have hL1 := c_1.2
  refine tr_st (.istore 7) 2 7 0 (.int v1) rfl rfl rfl rfl rfl rfl rfl ?_
  refine tr_s (.aload_n 2) 1 2496 [some (.ref 0), some (.ref 1000), some (.ref 1099), some (.ref 1109), some (.ref 1110), some (.int x5), some (.int v0), some (.int v1), w8] [.ref 1099] h2 rfl rfl rfl ?_
  refine tr_call (.invokevirtual 180) 180 0 0 8 m_X9_thrown [.ref 1099] [] (some (.int v2)) h3 rfl rfl rfl rfl rfl rfl rfl rfl rfl (tr_cok rfl (Or.inr ⟨_, _, rfl, tr_rc (hh_rd (hh_obj hL1 (k := 99) rfl).1) (by decide)⟩)) c_2 ?_
  have hL2 := c_2.2
  refine tr_s (.iload 6) 2 2501 [some (.ref 0), some (.ref 1000), some (.ref 1099), some (.ref 1109), some (.ref 1110), some (.int x5), some (.int v0), some (.int v1), w8] [.int v0, .int v2] h3 rfl rfl rfl ?_
  exact tr_if2 .eq 5 2506 v2 v0 rfl rfl rfl (fun hc => t ((tr_eq hc).1 rfl)) (fun hc => f ((tr_eq hc).2 rfl))
theorem sg_law_2504 {g : tr_g} {d : Nat} {h : ev_AH} {r : ev_O × ev_AH} {w0 w1 w2 w3 w4 w5 w6 w7 w8 : Option Value} (hL : hh_L h) (hr : r = (.inl (some (.int 0)), h)) : tr_L g d m_law 2504 [w0, w1, w2, w3, w4, w5, w6, w7, w8] [] h r := by
  refine tr_ic 0 0 (by decide) rfl ?_
  exact tl_ret hL .ireturn 1 (some (.int 0)) rfl rfl rfl rfl hr
theorem sg_law_2506 {g : tr_g} {d : Nat} {h : ev_AH} {r : ev_O × ev_AH} {x5 x6 x7 : Int32} {w8 : Option Value} (hL : hh_L h) (t : x6 ≠ 0 → tr_L g d m_law 2523 [some (.ref 0), some (.ref 1000), some (.ref 1099), some (.ref 1109), some (.ref 1110), some (.int x5), some (.int x6), some (.int x7), w8] [] h r) (f : x6 = 0 → tr_L g d m_law 2511 [some (.ref 0), some (.ref 1000), some (.ref 1099), some (.ref 1109), some (.ref 1110), some (.int x5), some (.int x6), some (.int x7), w8] [] h r) : tr_L g d m_law 2506 [some (.ref 0), some (.ref 1000), some (.ref 1099), some (.ref 1109), some (.ref 1110), some (.int x5), some (.int x6), some (.int x7), w8] [] h r := by
  refine tr_s (.iload 6) 2 2508 [some (.ref 0), some (.ref 1000), some (.ref 1099), some (.ref 1109), some (.ref 1110), some (.int x5), some (.int x6), some (.int x7), w8] [.int x6] h rfl rfl rfl ?_
  exact tr_if1 .ne 15 2523 x6 rfl rfl rfl (fun hc => t ((tr_ne hc).1 rfl)) (fun hc => f ((tr_ne hc).2 rfl))
theorem sg_law_2511 {g : tr_g} {d : Nat} {h : ev_AH} {r : ev_O × ev_AH} {x5 x7 : Int32} {w6 w8 : Option Value} {u0 : Int64} (hL : hh_L h) (p0 : (hh_v h 109)[0]? = some (.long u0)) (t : (lg_cmp u0 x7.toInt64) = 0 → tr_L g d m_law 2523 [some (.ref 0), some (.ref 1000), some (.ref 1099), some (.ref 1109), some (.ref 1110), some (.int x5), w6, some (.int x7), w8] [] h r) (f : (lg_cmp u0 x7.toInt64) ≠ 0 → tr_L g d m_law 2521 [some (.ref 0), some (.ref 1000), some (.ref 1099), some (.ref 1109), some (.ref 1110), some (.int x5), w6, some (.int x7), w8] [] h r) : tr_L g d m_law 2511 [some (.ref 0), some (.ref 1000), some (.ref 1099), some (.ref 1109), some (.ref 1110), some (.int x5), w6, some (.int x7), w8] [] h r := by
  refine tr_s (.aload_n 3) 1 2512 [some (.ref 0), some (.ref 1000), some (.ref 1099), some (.ref 1109), some (.ref 1110), some (.int x5), w6, some (.int x7), w8] [.ref 1109] h rfl rfl rfl ?_
  refine tr_ic 0 0 (by decide) rfl ?_
  refine tr_lald 1109 u0 _ rfl (by decide) (hh_rd (hh_obj hL (k := 109) rfl).1) (hh_obj hL (k := 109) rfl).2 p0 ?_
  refine tr_s (.iload 7) 2 2516 [some (.ref 0), some (.ref 1000), some (.ref 1099), some (.ref 1109), some (.ref 1110), some (.int x5), w6, some (.int x7), w8] [.int x7, .long u0] h rfl rfl rfl ?_
  refine tr_s .i2l 1 2517 [some (.ref 0), some (.ref 1000), some (.ref 1099), some (.ref 1109), some (.ref 1110), some (.int x5), w6, some (.int x7), w8] [.long x7.toInt64, .long u0] h rfl rfl rfl ?_
  refine tr_s .lcmp 1 2518 [some (.ref 0), some (.ref 1000), some (.ref 1099), some (.ref 1109), some (.ref 1110), some (.int x5), w6, some (.int x7), w8] [.int (lg_cmp u0 x7.toInt64)] h rfl rfl rfl ?_
  exact tr_if1 .eq 5 2523 (lg_cmp u0 x7.toInt64) rfl rfl rfl (fun hc => t ((tr_eq hc).1 rfl)) (fun hc => f ((tr_eq hc).2 rfl))
theorem sg_law_2521 {g : tr_g} {d : Nat} {h : ev_AH} {r : ev_O × ev_AH} {w0 w1 w2 w3 w4 w5 w6 w7 w8 : Option Value} (hL : hh_L h) (hr : r = (.inl (some (.int 0)), h)) : tr_L g d m_law 2521 [w0, w1, w2, w3, w4, w5, w6, w7, w8] [] h r := by
  refine tr_ic 0 0 (by decide) rfl ?_
  exact tl_ret hL .ireturn 1 (some (.int 0)) rfl rfl rfl rfl hr
theorem sg_law_2523 {g : tr_g} {d : Nat} {h : ev_AH} {r : ev_O × ev_AH} {x5 : Int32} {w6 w7 w8 : Option Value} (hL : hh_L h) (k : tr_L g d m_law 28 [some (.ref 0), some (.ref 1000), some (.ref 1099), some (.ref 1109), some (.ref 1110), some (.int (x5 + 5)), w6, w7, w8] [] h r) : tr_L g d m_law 2523 [some (.ref 0), some (.ref 1000), some (.ref 1099), some (.ref 1109), some (.ref 1110), some (.int x5), w6, w7, w8] [] h r := by
  refine tr_goto 438 2961 rfl rfl rfl ?_
  refine tr_inc 5 5 x5 5 (by decide) rfl rfl rfl ?_
  refine tr_goto (-2936) 28 rfl rfl rfl ?_
  exact k
theorem sg_law_2526 {g : tr_g} {d : Nat} {h : ev_AH} {r : ev_O × ev_AH} {x5 v0 v1 v2 : Int32} {w6 w7 w8 : Option Value} {j0 j1 : Nat} {h1 h2 h3 : ev_AH} (hL : hh_L h) (e0 : x5 + 1 = Int32.ofNat j0) (b0 : j0 < g.1.length) (z0 : g.1.length < 2147483648) (c_0 : tr_L g d m_L_outputAt 0 [some (.ref 1000), some (.int (g.1.getD j0 0)), some (.ref 1109), none] [] h (.inl (some (.int v0)), h1)) (e1 : x5 + 1 = Int32.ofNat j1) (b1 : j1 < g.1.length) (z1 : g.1.length < 2147483648) (c_1 : tr_L g d m_X9_outputAt 0 [some (.ref 1099), some (.int (g.1.getD j1 0))] [] h1 (.inl (some (.int v1)), h2)) (c_2 : tr_L g d m_X9_thrown 0 [some (.ref 1099)] [] h2 (.inl (some (.int v2)), h3)) (t : v2 = v0 → tr_L g (d + 1) m_law 2562 [some (.ref 0), some (.ref 1000), some (.ref 1099), some (.ref 1109), some (.ref 1110), some (.int x5), some (.int v0), some (.int v1), w8] [] h3 r) (f : v2 ≠ v0 → tr_L g (d + 1) m_law 2560 [some (.ref 0), some (.ref 1000), some (.ref 1099), some (.ref 1109), some (.ref 1110), some (.int x5), some (.int v0), some (.int v1), w8] [] h3 r) : tr_L g (d + 1) m_law 2526 [some (.ref 0), some (.ref 1000), some (.ref 1099), some (.ref 1109), some (.ref 1110), some (.int x5), w6, w7, w8] [] h r := by
  refine tr_s (.aload_n 1) 1 2527 [some (.ref 0), some (.ref 1000), some (.ref 1099), some (.ref 1109), some (.ref 1110), some (.int x5), w6, w7, w8] [.ref 1000] h rfl rfl rfl ?_
  refine tr_s (.aload_n 0) 1 2528 [some (.ref 0), some (.ref 1000), some (.ref 1099), some (.ref 1109), some (.ref 1110), some (.int x5), w6, w7, w8] [.ref 0, .ref 1000] h rfl rfl rfl ?_
  refine tr_s (.iload 5) 2 2530 [some (.ref 0), some (.ref 1000), some (.ref 1099), some (.ref 1109), some (.ref 1110), some (.int x5), w6, w7, w8] [.int x5, .ref 0, .ref 1000] h rfl rfl rfl ?_
  refine tr_ic 1 1 (by decide) rfl ?_
  refine tr_s .iadd 1 2532 [some (.ref 0), some (.ref 1000), some (.ref 1099), some (.ref 1109), some (.ref 1110), some (.int x5), w6, w7, w8] [.int (x5 + 1), .ref 0, .ref 1000] h rfl rfl rfl ?_
  refine tr_ald .iaload 0 0 j0 (x5 + 1) g.1 (Or.inl ⟨rfl, rfl⟩) rfl rfl e0 b0 z0 ?_
  refine tr_s (.aload_n 3) 1 2534 [some (.ref 0), some (.ref 1000), some (.ref 1099), some (.ref 1109), some (.ref 1110), some (.int x5), w6, w7, w8] [.ref 1109, .int (g.1.getD j0 0), .ref 1000] h rfl rfl rfl ?_
  refine tr_call (.invokestatic 328) 328 8 3 0 m_L_outputAt [.ref 1000, .int (g.1.getD j0 0), .ref 1109] [] (some (.int v0)) h1 rfl rfl rfl rfl rfl rfl rfl rfl rfl (tr_cok rfl (Or.inl rfl)) c_0 ?_
  have hL0 := c_0.2
  refine tr_st (.istore 6) 2 6 0 (.int v0) rfl rfl rfl rfl rfl rfl rfl ?_
  refine tr_s (.aload_n 2) 1 2540 [some (.ref 0), some (.ref 1000), some (.ref 1099), some (.ref 1109), some (.ref 1110), some (.int x5), some (.int v0), w7, w8] [.ref 1099] h1 rfl rfl rfl ?_
  refine tr_s (.aload_n 0) 1 2541 [some (.ref 0), some (.ref 1000), some (.ref 1099), some (.ref 1109), some (.ref 1110), some (.int x5), some (.int v0), w7, w8] [.ref 0, .ref 1099] h1 rfl rfl rfl ?_
  refine tr_s (.iload 5) 2 2543 [some (.ref 0), some (.ref 1000), some (.ref 1099), some (.ref 1109), some (.ref 1110), some (.int x5), some (.int v0), w7, w8] [.int x5, .ref 0, .ref 1099] h1 rfl rfl rfl ?_
  refine tr_ic 1 1 (by decide) rfl ?_
  refine tr_s .iadd 1 2545 [some (.ref 0), some (.ref 1000), some (.ref 1099), some (.ref 1109), some (.ref 1110), some (.int x5), some (.int v0), w7, w8] [.int (x5 + 1), .ref 0, .ref 1099] h1 rfl rfl rfl ?_
  refine tr_ald .iaload 0 0 j1 (x5 + 1) g.1 (Or.inl ⟨rfl, rfl⟩) rfl rfl e1 b1 z1 ?_
  refine tr_call (.invokevirtual 330) 330 0 1 8 m_X9_outputAt [.ref 1099, .int (g.1.getD j1 0)] [] (some (.int v1)) h2 rfl rfl rfl rfl rfl rfl rfl rfl rfl (tr_cok rfl (Or.inr ⟨_, _, rfl, tr_rc (hh_rd (hh_obj hL0 (k := 99) rfl).1) (by decide)⟩)) c_1 ?_
  have hL1 := c_1.2
  refine tr_st (.istore 7) 2 7 0 (.int v1) rfl rfl rfl rfl rfl rfl rfl ?_
  refine tr_s (.aload_n 2) 1 2552 [some (.ref 0), some (.ref 1000), some (.ref 1099), some (.ref 1109), some (.ref 1110), some (.int x5), some (.int v0), some (.int v1), w8] [.ref 1099] h2 rfl rfl rfl ?_
  refine tr_call (.invokevirtual 180) 180 0 0 8 m_X9_thrown [.ref 1099] [] (some (.int v2)) h3 rfl rfl rfl rfl rfl rfl rfl rfl rfl (tr_cok rfl (Or.inr ⟨_, _, rfl, tr_rc (hh_rd (hh_obj hL1 (k := 99) rfl).1) (by decide)⟩)) c_2 ?_
  have hL2 := c_2.2
  refine tr_s (.iload 6) 2 2557 [some (.ref 0), some (.ref 1000), some (.ref 1099), some (.ref 1109), some (.ref 1110), some (.int x5), some (.int v0), some (.int v1), w8] [.int v0, .int v2] h3 rfl rfl rfl ?_
  exact tr_if2 .eq 5 2562 v2 v0 rfl rfl rfl (fun hc => t ((tr_eq hc).1 rfl)) (fun hc => f ((tr_eq hc).2 rfl))
theorem sg_law_2560 {g : tr_g} {d : Nat} {h : ev_AH} {r : ev_O × ev_AH} {w0 w1 w2 w3 w4 w5 w6 w7 w8 : Option Value} (hL : hh_L h) (hr : r = (.inl (some (.int 0)), h)) : tr_L g d m_law 2560 [w0, w1, w2, w3, w4, w5, w6, w7, w8] [] h r := by
  refine tr_ic 0 0 (by decide) rfl ?_
  exact tl_ret hL .ireturn 1 (some (.int 0)) rfl rfl rfl rfl hr
theorem sg_law_2562 {g : tr_g} {d : Nat} {h : ev_AH} {r : ev_O × ev_AH} {x5 x6 x7 : Int32} {w8 : Option Value} (hL : hh_L h) (t : x6 ≠ 0 → tr_L g d m_law 2579 [some (.ref 0), some (.ref 1000), some (.ref 1099), some (.ref 1109), some (.ref 1110), some (.int x5), some (.int x6), some (.int x7), w8] [] h r) (f : x6 = 0 → tr_L g d m_law 2567 [some (.ref 0), some (.ref 1000), some (.ref 1099), some (.ref 1109), some (.ref 1110), some (.int x5), some (.int x6), some (.int x7), w8] [] h r) : tr_L g d m_law 2562 [some (.ref 0), some (.ref 1000), some (.ref 1099), some (.ref 1109), some (.ref 1110), some (.int x5), some (.int x6), some (.int x7), w8] [] h r := by
  refine tr_s (.iload 6) 2 2564 [some (.ref 0), some (.ref 1000), some (.ref 1099), some (.ref 1109), some (.ref 1110), some (.int x5), some (.int x6), some (.int x7), w8] [.int x6] h rfl rfl rfl ?_
  exact tr_if1 .ne 15 2579 x6 rfl rfl rfl (fun hc => t ((tr_ne hc).1 rfl)) (fun hc => f ((tr_ne hc).2 rfl))
theorem sg_law_2567 {g : tr_g} {d : Nat} {h : ev_AH} {r : ev_O × ev_AH} {x5 x7 : Int32} {w6 w8 : Option Value} {u0 : Int64} (hL : hh_L h) (p0 : (hh_v h 109)[0]? = some (.long u0)) (t : (lg_cmp u0 x7.toInt64) = 0 → tr_L g d m_law 2579 [some (.ref 0), some (.ref 1000), some (.ref 1099), some (.ref 1109), some (.ref 1110), some (.int x5), w6, some (.int x7), w8] [] h r) (f : (lg_cmp u0 x7.toInt64) ≠ 0 → tr_L g d m_law 2577 [some (.ref 0), some (.ref 1000), some (.ref 1099), some (.ref 1109), some (.ref 1110), some (.int x5), w6, some (.int x7), w8] [] h r) : tr_L g d m_law 2567 [some (.ref 0), some (.ref 1000), some (.ref 1099), some (.ref 1109), some (.ref 1110), some (.int x5), w6, some (.int x7), w8] [] h r := by
  refine tr_s (.aload_n 3) 1 2568 [some (.ref 0), some (.ref 1000), some (.ref 1099), some (.ref 1109), some (.ref 1110), some (.int x5), w6, some (.int x7), w8] [.ref 1109] h rfl rfl rfl ?_
  refine tr_ic 0 0 (by decide) rfl ?_
  refine tr_lald 1109 u0 _ rfl (by decide) (hh_rd (hh_obj hL (k := 109) rfl).1) (hh_obj hL (k := 109) rfl).2 p0 ?_
  refine tr_s (.iload 7) 2 2572 [some (.ref 0), some (.ref 1000), some (.ref 1099), some (.ref 1109), some (.ref 1110), some (.int x5), w6, some (.int x7), w8] [.int x7, .long u0] h rfl rfl rfl ?_
  refine tr_s .i2l 1 2573 [some (.ref 0), some (.ref 1000), some (.ref 1099), some (.ref 1109), some (.ref 1110), some (.int x5), w6, some (.int x7), w8] [.long x7.toInt64, .long u0] h rfl rfl rfl ?_
  refine tr_s .lcmp 1 2574 [some (.ref 0), some (.ref 1000), some (.ref 1099), some (.ref 1109), some (.ref 1110), some (.int x5), w6, some (.int x7), w8] [.int (lg_cmp u0 x7.toInt64)] h rfl rfl rfl ?_
  exact tr_if1 .eq 5 2579 (lg_cmp u0 x7.toInt64) rfl rfl rfl (fun hc => t ((tr_eq hc).1 rfl)) (fun hc => f ((tr_eq hc).2 rfl))
theorem sg_law_2577 {g : tr_g} {d : Nat} {h : ev_AH} {r : ev_O × ev_AH} {w0 w1 w2 w3 w4 w5 w6 w7 w8 : Option Value} (hL : hh_L h) (hr : r = (.inl (some (.int 0)), h)) : tr_L g d m_law 2577 [w0, w1, w2, w3, w4, w5, w6, w7, w8] [] h r := by
  refine tr_ic 0 0 (by decide) rfl ?_
  exact tl_ret hL .ireturn 1 (some (.int 0)) rfl rfl rfl rfl hr
theorem sg_law_2579 {g : tr_g} {d : Nat} {h : ev_AH} {r : ev_O × ev_AH} {x5 : Int32} {w6 w7 w8 : Option Value} (hL : hh_L h) (k : tr_L g d m_law 28 [some (.ref 0), some (.ref 1000), some (.ref 1099), some (.ref 1109), some (.ref 1110), some (.int (x5 + 5)), w6, w7, w8] [] h r) : tr_L g d m_law 2579 [some (.ref 0), some (.ref 1000), some (.ref 1099), some (.ref 1109), some (.ref 1110), some (.int x5), w6, w7, w8] [] h r := by
  refine tr_goto 382 2961 rfl rfl rfl ?_
  refine tr_inc 5 5 x5 5 (by decide) rfl rfl rfl ?_
  refine tr_goto (-2936) 28 rfl rfl rfl ?_
  exact k
theorem sg_law_2582 {g : tr_g} {d : Nat} {h : ev_AH} {r : ev_O × ev_AH} {x5 v0 v1 v2 : Int32} {w6 w7 w8 : Option Value} {j0 j1 : Nat} {h1 h2 h3 : ev_AH} (hL : hh_L h) (e0 : x5 + 1 = Int32.ofNat j0) (b0 : j0 < g.1.length) (z0 : g.1.length < 2147483648) (c_0 : tr_L g d m_L_appendInput 0 [some (.ref 1000), some (.int (((g.1.getD j0 0).toUInt32 % 65536).toInt32)), some (.ref 1109), none] [] h (.inl (some (.int v0)), h1)) (e1 : x5 + 1 = Int32.ofNat j1) (b1 : j1 < g.1.length) (z1 : g.1.length < 2147483648) (c_1 : tr_L g d m_X9_appendInput 0 [some (.ref 1099), some (.int (((g.1.getD j1 0).toUInt32 % 65536).toInt32))] [] h1 (.inl (some (.int v1)), h2)) (c_2 : tr_L g d m_X9_thrown 0 [some (.ref 1099)] [] h2 (.inl (some (.int v2)), h3)) (t : v2 = v0 → tr_L g (d + 1) m_law 2620 [some (.ref 0), some (.ref 1000), some (.ref 1099), some (.ref 1109), some (.ref 1110), some (.int x5), some (.int v0), some (.int v1), w8] [] h3 r) (f : v2 ≠ v0 → tr_L g (d + 1) m_law 2618 [some (.ref 0), some (.ref 1000), some (.ref 1099), some (.ref 1109), some (.ref 1110), some (.int x5), some (.int v0), some (.int v1), w8] [] h3 r) : tr_L g (d + 1) m_law 2582 [some (.ref 0), some (.ref 1000), some (.ref 1099), some (.ref 1109), some (.ref 1110), some (.int x5), w6, w7, w8] [] h r := by
  refine tr_s (.aload_n 1) 1 2583 [some (.ref 0), some (.ref 1000), some (.ref 1099), some (.ref 1109), some (.ref 1110), some (.int x5), w6, w7, w8] [.ref 1000] h rfl rfl rfl ?_
  refine tr_s (.aload_n 0) 1 2584 [some (.ref 0), some (.ref 1000), some (.ref 1099), some (.ref 1109), some (.ref 1110), some (.int x5), w6, w7, w8] [.ref 0, .ref 1000] h rfl rfl rfl ?_
  refine tr_s (.iload 5) 2 2586 [some (.ref 0), some (.ref 1000), some (.ref 1099), some (.ref 1109), some (.ref 1110), some (.int x5), w6, w7, w8] [.int x5, .ref 0, .ref 1000] h rfl rfl rfl ?_
  refine tr_ic 1 1 (by decide) rfl ?_
  refine tr_s .iadd 1 2588 [some (.ref 0), some (.ref 1000), some (.ref 1099), some (.ref 1109), some (.ref 1110), some (.int x5), w6, w7, w8] [.int (x5 + 1), .ref 0, .ref 1000] h rfl rfl rfl ?_
  refine tr_ald .iaload 0 0 j0 (x5 + 1) g.1 (Or.inl ⟨rfl, rfl⟩) rfl rfl e0 b0 z0 ?_
  refine tr_s .i2c 1 2590 [some (.ref 0), some (.ref 1000), some (.ref 1099), some (.ref 1109), some (.ref 1110), some (.int x5), w6, w7, w8] [.int (((g.1.getD j0 0).toUInt32 % 65536).toInt32), .ref 1000] h rfl rfl rfl ?_
  refine tr_s (.aload_n 3) 1 2591 [some (.ref 0), some (.ref 1000), some (.ref 1099), some (.ref 1109), some (.ref 1110), some (.int x5), w6, w7, w8] [.ref 1109, .int (((g.1.getD j0 0).toUInt32 % 65536).toInt32), .ref 1000] h rfl rfl rfl ?_
  refine tr_call (.invokestatic 331) 331 8 3 0 m_L_appendInput [.ref 1000, .int (((g.1.getD j0 0).toUInt32 % 65536).toInt32), .ref 1109] [] (some (.int v0)) h1 rfl rfl rfl rfl rfl rfl rfl rfl rfl (tr_cok rfl (Or.inl rfl)) c_0 ?_
  have hL0 := c_0.2
  refine tr_st (.istore 6) 2 6 0 (.int v0) rfl rfl rfl rfl rfl rfl rfl ?_
  refine tr_s (.aload_n 2) 1 2597 [some (.ref 0), some (.ref 1000), some (.ref 1099), some (.ref 1109), some (.ref 1110), some (.int x5), some (.int v0), w7, w8] [.ref 1099] h1 rfl rfl rfl ?_
  refine tr_s (.aload_n 0) 1 2598 [some (.ref 0), some (.ref 1000), some (.ref 1099), some (.ref 1109), some (.ref 1110), some (.int x5), some (.int v0), w7, w8] [.ref 0, .ref 1099] h1 rfl rfl rfl ?_
  refine tr_s (.iload 5) 2 2600 [some (.ref 0), some (.ref 1000), some (.ref 1099), some (.ref 1109), some (.ref 1110), some (.int x5), some (.int v0), w7, w8] [.int x5, .ref 0, .ref 1099] h1 rfl rfl rfl ?_
  refine tr_ic 1 1 (by decide) rfl ?_
  refine tr_s .iadd 1 2602 [some (.ref 0), some (.ref 1000), some (.ref 1099), some (.ref 1109), some (.ref 1110), some (.int x5), some (.int v0), w7, w8] [.int (x5 + 1), .ref 0, .ref 1099] h1 rfl rfl rfl ?_
  refine tr_ald .iaload 0 0 j1 (x5 + 1) g.1 (Or.inl ⟨rfl, rfl⟩) rfl rfl e1 b1 z1 ?_
  refine tr_s .i2c 1 2604 [some (.ref 0), some (.ref 1000), some (.ref 1099), some (.ref 1109), some (.ref 1110), some (.int x5), some (.int v0), w7, w8] [.int (((g.1.getD j1 0).toUInt32 % 65536).toInt32), .ref 1099] h1 rfl rfl rfl ?_
  refine tr_call (.invokevirtual 333) 333 0 1 8 m_X9_appendInput [.ref 1099, .int (((g.1.getD j1 0).toUInt32 % 65536).toInt32)] [] (some (.int v1)) h2 rfl rfl rfl rfl rfl rfl rfl rfl rfl (tr_cok rfl (Or.inr ⟨_, _, rfl, tr_rc (hh_rd (hh_obj hL0 (k := 99) rfl).1) (by decide)⟩)) c_1 ?_
  have hL1 := c_1.2
  refine tr_st (.istore 7) 2 7 0 (.int v1) rfl rfl rfl rfl rfl rfl rfl ?_
  refine tr_s (.aload_n 2) 1 2610 [some (.ref 0), some (.ref 1000), some (.ref 1099), some (.ref 1109), some (.ref 1110), some (.int x5), some (.int v0), some (.int v1), w8] [.ref 1099] h2 rfl rfl rfl ?_
  refine tr_call (.invokevirtual 180) 180 0 0 8 m_X9_thrown [.ref 1099] [] (some (.int v2)) h3 rfl rfl rfl rfl rfl rfl rfl rfl rfl (tr_cok rfl (Or.inr ⟨_, _, rfl, tr_rc (hh_rd (hh_obj hL1 (k := 99) rfl).1) (by decide)⟩)) c_2 ?_
  have hL2 := c_2.2
  refine tr_s (.iload 6) 2 2615 [some (.ref 0), some (.ref 1000), some (.ref 1099), some (.ref 1109), some (.ref 1110), some (.int x5), some (.int v0), some (.int v1), w8] [.int v0, .int v2] h3 rfl rfl rfl ?_
  exact tr_if2 .eq 5 2620 v2 v0 rfl rfl rfl (fun hc => t ((tr_eq hc).1 rfl)) (fun hc => f ((tr_eq hc).2 rfl))
theorem sg_law_2618 {g : tr_g} {d : Nat} {h : ev_AH} {r : ev_O × ev_AH} {w0 w1 w2 w3 w4 w5 w6 w7 w8 : Option Value} (hL : hh_L h) (hr : r = (.inl (some (.int 0)), h)) : tr_L g d m_law 2618 [w0, w1, w2, w3, w4, w5, w6, w7, w8] [] h r := by
  refine tr_ic 0 0 (by decide) rfl ?_
  exact tl_ret hL .ireturn 1 (some (.int 0)) rfl rfl rfl rfl hr
theorem sg_law_2620 {g : tr_g} {d : Nat} {h : ev_AH} {r : ev_O × ev_AH} {x5 x6 x7 : Int32} {w8 : Option Value} (hL : hh_L h) (t : x6 ≠ 0 → tr_L g d m_law 2637 [some (.ref 0), some (.ref 1000), some (.ref 1099), some (.ref 1109), some (.ref 1110), some (.int x5), some (.int x6), some (.int x7), w8] [] h r) (f : x6 = 0 → tr_L g d m_law 2625 [some (.ref 0), some (.ref 1000), some (.ref 1099), some (.ref 1109), some (.ref 1110), some (.int x5), some (.int x6), some (.int x7), w8] [] h r) : tr_L g d m_law 2620 [some (.ref 0), some (.ref 1000), some (.ref 1099), some (.ref 1109), some (.ref 1110), some (.int x5), some (.int x6), some (.int x7), w8] [] h r := by
  refine tr_s (.iload 6) 2 2622 [some (.ref 0), some (.ref 1000), some (.ref 1099), some (.ref 1109), some (.ref 1110), some (.int x5), some (.int x6), some (.int x7), w8] [.int x6] h rfl rfl rfl ?_
  exact tr_if1 .ne 15 2637 x6 rfl rfl rfl (fun hc => t ((tr_ne hc).1 rfl)) (fun hc => f ((tr_ne hc).2 rfl))
theorem sg_law_2625 {g : tr_g} {d : Nat} {h : ev_AH} {r : ev_O × ev_AH} {x5 x7 : Int32} {w6 w8 : Option Value} {u0 : Int64} (hL : hh_L h) (p0 : (hh_v h 109)[0]? = some (.long u0)) (t : (lg_cmp u0 x7.toInt64) = 0 → tr_L g d m_law 2637 [some (.ref 0), some (.ref 1000), some (.ref 1099), some (.ref 1109), some (.ref 1110), some (.int x5), w6, some (.int x7), w8] [] h r) (f : (lg_cmp u0 x7.toInt64) ≠ 0 → tr_L g d m_law 2635 [some (.ref 0), some (.ref 1000), some (.ref 1099), some (.ref 1109), some (.ref 1110), some (.int x5), w6, some (.int x7), w8] [] h r) : tr_L g d m_law 2625 [some (.ref 0), some (.ref 1000), some (.ref 1099), some (.ref 1109), some (.ref 1110), some (.int x5), w6, some (.int x7), w8] [] h r := by
  refine tr_s (.aload_n 3) 1 2626 [some (.ref 0), some (.ref 1000), some (.ref 1099), some (.ref 1109), some (.ref 1110), some (.int x5), w6, some (.int x7), w8] [.ref 1109] h rfl rfl rfl ?_
  refine tr_ic 0 0 (by decide) rfl ?_
  refine tr_lald 1109 u0 _ rfl (by decide) (hh_rd (hh_obj hL (k := 109) rfl).1) (hh_obj hL (k := 109) rfl).2 p0 ?_
  refine tr_s (.iload 7) 2 2630 [some (.ref 0), some (.ref 1000), some (.ref 1099), some (.ref 1109), some (.ref 1110), some (.int x5), w6, some (.int x7), w8] [.int x7, .long u0] h rfl rfl rfl ?_
  refine tr_s .i2l 1 2631 [some (.ref 0), some (.ref 1000), some (.ref 1099), some (.ref 1109), some (.ref 1110), some (.int x5), w6, some (.int x7), w8] [.long x7.toInt64, .long u0] h rfl rfl rfl ?_
  refine tr_s .lcmp 1 2632 [some (.ref 0), some (.ref 1000), some (.ref 1099), some (.ref 1109), some (.ref 1110), some (.int x5), w6, some (.int x7), w8] [.int (lg_cmp u0 x7.toInt64)] h rfl rfl rfl ?_
  exact tr_if1 .eq 5 2637 (lg_cmp u0 x7.toInt64) rfl rfl rfl (fun hc => t ((tr_eq hc).1 rfl)) (fun hc => f ((tr_eq hc).2 rfl))
theorem sg_law_2635 {g : tr_g} {d : Nat} {h : ev_AH} {r : ev_O × ev_AH} {w0 w1 w2 w3 w4 w5 w6 w7 w8 : Option Value} (hL : hh_L h) (hr : r = (.inl (some (.int 0)), h)) : tr_L g d m_law 2635 [w0, w1, w2, w3, w4, w5, w6, w7, w8] [] h r := by
  refine tr_ic 0 0 (by decide) rfl ?_
  exact tl_ret hL .ireturn 1 (some (.int 0)) rfl rfl rfl rfl hr
theorem sg_law_2637 {g : tr_g} {d : Nat} {h : ev_AH} {r : ev_O × ev_AH} {x5 : Int32} {w6 w7 w8 : Option Value} (hL : hh_L h) (k : tr_L g d m_law 28 [some (.ref 0), some (.ref 1000), some (.ref 1099), some (.ref 1109), some (.ref 1110), some (.int (x5 + 5)), w6, w7, w8] [] h r) : tr_L g d m_law 2637 [some (.ref 0), some (.ref 1000), some (.ref 1099), some (.ref 1109), some (.ref 1110), some (.int x5), w6, w7, w8] [] h r := by
  refine tr_goto 324 2961 rfl rfl rfl ?_
  refine tr_inc 5 5 x5 5 (by decide) rfl rfl rfl ?_
  refine tr_goto (-2936) 28 rfl rfl rfl ?_
  exact k
theorem sg_law_2640 {g : tr_g} {d : Nat} {h : ev_AH} {r : ev_O × ev_AH} {x5 v0 v1 v2 : Int32} {w6 w7 w8 : Option Value} {h1 h2 h3 : ev_AH} (hL : hh_L h) (c_0 : tr_L g d m_L_execute 0 [some (.ref 1000), some (.ref 1109), none] [] h (.inl (some (.int v0)), h1)) (c_1 : tr_L g d m_X9_execute 0 [some (.ref 1099), none, none] [] h1 (.inl (some (.int v1)), h2)) (c_2 : tr_L g d m_X9_thrown 0 [some (.ref 1099)] [] h2 (.inl (some (.int v2)), h3)) (t : v2 = v0 → tr_L g (d + 1) m_law 2664 [some (.ref 0), some (.ref 1000), some (.ref 1099), some (.ref 1109), some (.ref 1110), some (.int x5), some (.int v0), some (.int v1), w8] [] h3 r) (f : v2 ≠ v0 → tr_L g (d + 1) m_law 2662 [some (.ref 0), some (.ref 1000), some (.ref 1099), some (.ref 1109), some (.ref 1110), some (.int x5), some (.int v0), some (.int v1), w8] [] h3 r) : tr_L g (d + 1) m_law 2640 [some (.ref 0), some (.ref 1000), some (.ref 1099), some (.ref 1109), some (.ref 1110), some (.int x5), w6, w7, w8] [] h r := by
  refine tr_s (.aload_n 1) 1 2641 [some (.ref 0), some (.ref 1000), some (.ref 1099), some (.ref 1109), some (.ref 1110), some (.int x5), w6, w7, w8] [.ref 1000] h rfl rfl rfl ?_
  refine tr_s (.aload_n 3) 1 2642 [some (.ref 0), some (.ref 1000), some (.ref 1099), some (.ref 1109), some (.ref 1110), some (.int x5), w6, w7, w8] [.ref 1109, .ref 1000] h rfl rfl rfl ?_
  refine tr_call (.invokestatic 334) 334 8 2 0 m_L_execute [.ref 1000, .ref 1109] [] (some (.int v0)) h1 rfl rfl rfl rfl rfl rfl rfl rfl rfl (tr_cok rfl (Or.inl rfl)) c_0 ?_
  have hL0 := c_0.2
  refine tr_st (.istore 6) 2 6 0 (.int v0) rfl rfl rfl rfl rfl rfl rfl ?_
  refine tr_s (.aload_n 2) 1 2648 [some (.ref 0), some (.ref 1000), some (.ref 1099), some (.ref 1109), some (.ref 1110), some (.int x5), some (.int v0), w7, w8] [.ref 1099] h1 rfl rfl rfl ?_
  refine tr_call (.invokevirtual 336) 336 0 0 8 m_X9_execute [.ref 1099] [] (some (.int v1)) h2 rfl rfl rfl rfl rfl rfl rfl rfl rfl (tr_cok rfl (Or.inr ⟨_, _, rfl, tr_rc (hh_rd (hh_obj hL0 (k := 99) rfl).1) (by decide)⟩)) c_1 ?_
  have hL1 := c_1.2
  refine tr_st (.istore 7) 2 7 0 (.int v1) rfl rfl rfl rfl rfl rfl rfl ?_
  refine tr_s (.aload_n 2) 1 2654 [some (.ref 0), some (.ref 1000), some (.ref 1099), some (.ref 1109), some (.ref 1110), some (.int x5), some (.int v0), some (.int v1), w8] [.ref 1099] h2 rfl rfl rfl ?_
  refine tr_call (.invokevirtual 180) 180 0 0 8 m_X9_thrown [.ref 1099] [] (some (.int v2)) h3 rfl rfl rfl rfl rfl rfl rfl rfl rfl (tr_cok rfl (Or.inr ⟨_, _, rfl, tr_rc (hh_rd (hh_obj hL1 (k := 99) rfl).1) (by decide)⟩)) c_2 ?_
  have hL2 := c_2.2
  refine tr_s (.iload 6) 2 2659 [some (.ref 0), some (.ref 1000), some (.ref 1099), some (.ref 1109), some (.ref 1110), some (.int x5), some (.int v0), some (.int v1), w8] [.int v0, .int v2] h3 rfl rfl rfl ?_
  exact tr_if2 .eq 5 2664 v2 v0 rfl rfl rfl (fun hc => t ((tr_eq hc).1 rfl)) (fun hc => f ((tr_eq hc).2 rfl))
theorem sg_law_2662 {g : tr_g} {d : Nat} {h : ev_AH} {r : ev_O × ev_AH} {w0 w1 w2 w3 w4 w5 w6 w7 w8 : Option Value} (hL : hh_L h) (hr : r = (.inl (some (.int 0)), h)) : tr_L g d m_law 2662 [w0, w1, w2, w3, w4, w5, w6, w7, w8] [] h r := by
  refine tr_ic 0 0 (by decide) rfl ?_
  exact tl_ret hL .ireturn 1 (some (.int 0)) rfl rfl rfl rfl hr
theorem sg_law_2664 {g : tr_g} {d : Nat} {h : ev_AH} {r : ev_O × ev_AH} {x5 x6 x7 : Int32} {w8 : Option Value} (hL : hh_L h) (t : x6 ≠ 0 → tr_L g d m_law 2681 [some (.ref 0), some (.ref 1000), some (.ref 1099), some (.ref 1109), some (.ref 1110), some (.int x5), some (.int x6), some (.int x7), w8] [] h r) (f : x6 = 0 → tr_L g d m_law 2669 [some (.ref 0), some (.ref 1000), some (.ref 1099), some (.ref 1109), some (.ref 1110), some (.int x5), some (.int x6), some (.int x7), w8] [] h r) : tr_L g d m_law 2664 [some (.ref 0), some (.ref 1000), some (.ref 1099), some (.ref 1109), some (.ref 1110), some (.int x5), some (.int x6), some (.int x7), w8] [] h r := by
  refine tr_s (.iload 6) 2 2666 [some (.ref 0), some (.ref 1000), some (.ref 1099), some (.ref 1109), some (.ref 1110), some (.int x5), some (.int x6), some (.int x7), w8] [.int x6] h rfl rfl rfl ?_
  exact tr_if1 .ne 15 2681 x6 rfl rfl rfl (fun hc => t ((tr_ne hc).1 rfl)) (fun hc => f ((tr_ne hc).2 rfl))
theorem sg_law_2669 {g : tr_g} {d : Nat} {h : ev_AH} {r : ev_O × ev_AH} {x5 x7 : Int32} {w6 w8 : Option Value} {u0 : Int64} (hL : hh_L h) (p0 : (hh_v h 109)[0]? = some (.long u0)) (t : (lg_cmp u0 x7.toInt64) = 0 → tr_L g d m_law 2681 [some (.ref 0), some (.ref 1000), some (.ref 1099), some (.ref 1109), some (.ref 1110), some (.int x5), w6, some (.int x7), w8] [] h r) (f : (lg_cmp u0 x7.toInt64) ≠ 0 → tr_L g d m_law 2679 [some (.ref 0), some (.ref 1000), some (.ref 1099), some (.ref 1109), some (.ref 1110), some (.int x5), w6, some (.int x7), w8] [] h r) : tr_L g d m_law 2669 [some (.ref 0), some (.ref 1000), some (.ref 1099), some (.ref 1109), some (.ref 1110), some (.int x5), w6, some (.int x7), w8] [] h r := by
  refine tr_s (.aload_n 3) 1 2670 [some (.ref 0), some (.ref 1000), some (.ref 1099), some (.ref 1109), some (.ref 1110), some (.int x5), w6, some (.int x7), w8] [.ref 1109] h rfl rfl rfl ?_
  refine tr_ic 0 0 (by decide) rfl ?_
  refine tr_lald 1109 u0 _ rfl (by decide) (hh_rd (hh_obj hL (k := 109) rfl).1) (hh_obj hL (k := 109) rfl).2 p0 ?_
  refine tr_s (.iload 7) 2 2674 [some (.ref 0), some (.ref 1000), some (.ref 1099), some (.ref 1109), some (.ref 1110), some (.int x5), w6, some (.int x7), w8] [.int x7, .long u0] h rfl rfl rfl ?_
  refine tr_s .i2l 1 2675 [some (.ref 0), some (.ref 1000), some (.ref 1099), some (.ref 1109), some (.ref 1110), some (.int x5), w6, some (.int x7), w8] [.long x7.toInt64, .long u0] h rfl rfl rfl ?_
  refine tr_s .lcmp 1 2676 [some (.ref 0), some (.ref 1000), some (.ref 1099), some (.ref 1109), some (.ref 1110), some (.int x5), w6, some (.int x7), w8] [.int (lg_cmp u0 x7.toInt64)] h rfl rfl rfl ?_
  exact tr_if1 .eq 5 2681 (lg_cmp u0 x7.toInt64) rfl rfl rfl (fun hc => t ((tr_eq hc).1 rfl)) (fun hc => f ((tr_eq hc).2 rfl))
theorem sg_law_2679 {g : tr_g} {d : Nat} {h : ev_AH} {r : ev_O × ev_AH} {w0 w1 w2 w3 w4 w5 w6 w7 w8 : Option Value} (hL : hh_L h) (hr : r = (.inl (some (.int 0)), h)) : tr_L g d m_law 2679 [w0, w1, w2, w3, w4, w5, w6, w7, w8] [] h r := by
  refine tr_ic 0 0 (by decide) rfl ?_
  exact tl_ret hL .ireturn 1 (some (.int 0)) rfl rfl rfl rfl hr
theorem sg_law_2681 {g : tr_g} {d : Nat} {h : ev_AH} {r : ev_O × ev_AH} {x5 : Int32} {w6 w7 w8 : Option Value} (hL : hh_L h) (k : tr_L g d m_law 28 [some (.ref 0), some (.ref 1000), some (.ref 1099), some (.ref 1109), some (.ref 1110), some (.int (x5 + 5)), w6, w7, w8] [] h r) : tr_L g d m_law 2681 [some (.ref 0), some (.ref 1000), some (.ref 1099), some (.ref 1109), some (.ref 1110), some (.int x5), w6, w7, w8] [] h r := by
  refine tr_goto 280 2961 rfl rfl rfl ?_
  refine tr_inc 5 5 x5 5 (by decide) rfl rfl rfl ?_
  refine tr_goto (-2936) 28 rfl rfl rfl ?_
  exact k
theorem sg_law_2684 {g : tr_g} {d : Nat} {h : ev_AH} {r : ev_O × ev_AH} {x5 v0 v1 v2 : Int32} {w6 w7 w8 : Option Value} {h1 h2 h3 : ev_AH} (hL : hh_L h) (c_0 : tr_L g d m_L_syntaxErrorOffset 0 [some (.ref 1000), some (.ref 1109), none] [] h (.inl (some (.int v0)), h1)) (c_1 : tr_L g d m_X9_syntaxErrorOffset 0 [some (.ref 1099)] [] h1 (.inl (some (.int v1)), h2)) (c_2 : tr_L g d m_X9_thrown 0 [some (.ref 1099)] [] h2 (.inl (some (.int v2)), h3)) (t : v2 = v0 → tr_L g (d + 1) m_law 2708 [some (.ref 0), some (.ref 1000), some (.ref 1099), some (.ref 1109), some (.ref 1110), some (.int x5), some (.int v0), some (.int v1), w8] [] h3 r) (f : v2 ≠ v0 → tr_L g (d + 1) m_law 2706 [some (.ref 0), some (.ref 1000), some (.ref 1099), some (.ref 1109), some (.ref 1110), some (.int x5), some (.int v0), some (.int v1), w8] [] h3 r) : tr_L g (d + 1) m_law 2684 [some (.ref 0), some (.ref 1000), some (.ref 1099), some (.ref 1109), some (.ref 1110), some (.int x5), w6, w7, w8] [] h r := by
  refine tr_s (.aload_n 1) 1 2685 [some (.ref 0), some (.ref 1000), some (.ref 1099), some (.ref 1109), some (.ref 1110), some (.int x5), w6, w7, w8] [.ref 1000] h rfl rfl rfl ?_
  refine tr_s (.aload_n 3) 1 2686 [some (.ref 0), some (.ref 1000), some (.ref 1099), some (.ref 1109), some (.ref 1110), some (.int x5), w6, w7, w8] [.ref 1109, .ref 1000] h rfl rfl rfl ?_
  refine tr_call (.invokestatic 337) 337 8 2 0 m_L_syntaxErrorOffset [.ref 1000, .ref 1109] [] (some (.int v0)) h1 rfl rfl rfl rfl rfl rfl rfl rfl rfl (tr_cok rfl (Or.inl rfl)) c_0 ?_
  have hL0 := c_0.2
  refine tr_st (.istore 6) 2 6 0 (.int v0) rfl rfl rfl rfl rfl rfl rfl ?_
  refine tr_s (.aload_n 2) 1 2692 [some (.ref 0), some (.ref 1000), some (.ref 1099), some (.ref 1109), some (.ref 1110), some (.int x5), some (.int v0), w7, w8] [.ref 1099] h1 rfl rfl rfl ?_
  refine tr_call (.invokevirtual 339) 339 0 0 8 m_X9_syntaxErrorOffset [.ref 1099] [] (some (.int v1)) h2 rfl rfl rfl rfl rfl rfl rfl rfl rfl (tr_cok rfl (Or.inr ⟨_, _, rfl, tr_rc (hh_rd (hh_obj hL0 (k := 99) rfl).1) (by decide)⟩)) c_1 ?_
  have hL1 := c_1.2
  refine tr_st (.istore 7) 2 7 0 (.int v1) rfl rfl rfl rfl rfl rfl rfl ?_
  refine tr_s (.aload_n 2) 1 2698 [some (.ref 0), some (.ref 1000), some (.ref 1099), some (.ref 1109), some (.ref 1110), some (.int x5), some (.int v0), some (.int v1), w8] [.ref 1099] h2 rfl rfl rfl ?_
  refine tr_call (.invokevirtual 180) 180 0 0 8 m_X9_thrown [.ref 1099] [] (some (.int v2)) h3 rfl rfl rfl rfl rfl rfl rfl rfl rfl (tr_cok rfl (Or.inr ⟨_, _, rfl, tr_rc (hh_rd (hh_obj hL1 (k := 99) rfl).1) (by decide)⟩)) c_2 ?_
  have hL2 := c_2.2
  refine tr_s (.iload 6) 2 2703 [some (.ref 0), some (.ref 1000), some (.ref 1099), some (.ref 1109), some (.ref 1110), some (.int x5), some (.int v0), some (.int v1), w8] [.int v0, .int v2] h3 rfl rfl rfl ?_
  exact tr_if2 .eq 5 2708 v2 v0 rfl rfl rfl (fun hc => t ((tr_eq hc).1 rfl)) (fun hc => f ((tr_eq hc).2 rfl))
theorem sg_law_2706 {g : tr_g} {d : Nat} {h : ev_AH} {r : ev_O × ev_AH} {w0 w1 w2 w3 w4 w5 w6 w7 w8 : Option Value} (hL : hh_L h) (hr : r = (.inl (some (.int 0)), h)) : tr_L g d m_law 2706 [w0, w1, w2, w3, w4, w5, w6, w7, w8] [] h r := by
  refine tr_ic 0 0 (by decide) rfl ?_
  exact tl_ret hL .ireturn 1 (some (.int 0)) rfl rfl rfl rfl hr
theorem sg_law_2708 {g : tr_g} {d : Nat} {h : ev_AH} {r : ev_O × ev_AH} {x5 x6 x7 : Int32} {w8 : Option Value} (hL : hh_L h) (t : x6 ≠ 0 → tr_L g d m_law 2725 [some (.ref 0), some (.ref 1000), some (.ref 1099), some (.ref 1109), some (.ref 1110), some (.int x5), some (.int x6), some (.int x7), w8] [] h r) (f : x6 = 0 → tr_L g d m_law 2713 [some (.ref 0), some (.ref 1000), some (.ref 1099), some (.ref 1109), some (.ref 1110), some (.int x5), some (.int x6), some (.int x7), w8] [] h r) : tr_L g d m_law 2708 [some (.ref 0), some (.ref 1000), some (.ref 1099), some (.ref 1109), some (.ref 1110), some (.int x5), some (.int x6), some (.int x7), w8] [] h r := by
  refine tr_s (.iload 6) 2 2710 [some (.ref 0), some (.ref 1000), some (.ref 1099), some (.ref 1109), some (.ref 1110), some (.int x5), some (.int x6), some (.int x7), w8] [.int x6] h rfl rfl rfl ?_
  exact tr_if1 .ne 15 2725 x6 rfl rfl rfl (fun hc => t ((tr_ne hc).1 rfl)) (fun hc => f ((tr_ne hc).2 rfl))
theorem sg_law_2713 {g : tr_g} {d : Nat} {h : ev_AH} {r : ev_O × ev_AH} {x5 x7 : Int32} {w6 w8 : Option Value} {u0 : Int64} (hL : hh_L h) (p0 : (hh_v h 109)[0]? = some (.long u0)) (t : (lg_cmp u0 x7.toInt64) = 0 → tr_L g d m_law 2725 [some (.ref 0), some (.ref 1000), some (.ref 1099), some (.ref 1109), some (.ref 1110), some (.int x5), w6, some (.int x7), w8] [] h r) (f : (lg_cmp u0 x7.toInt64) ≠ 0 → tr_L g d m_law 2723 [some (.ref 0), some (.ref 1000), some (.ref 1099), some (.ref 1109), some (.ref 1110), some (.int x5), w6, some (.int x7), w8] [] h r) : tr_L g d m_law 2713 [some (.ref 0), some (.ref 1000), some (.ref 1099), some (.ref 1109), some (.ref 1110), some (.int x5), w6, some (.int x7), w8] [] h r := by
  refine tr_s (.aload_n 3) 1 2714 [some (.ref 0), some (.ref 1000), some (.ref 1099), some (.ref 1109), some (.ref 1110), some (.int x5), w6, some (.int x7), w8] [.ref 1109] h rfl rfl rfl ?_
  refine tr_ic 0 0 (by decide) rfl ?_
  refine tr_lald 1109 u0 _ rfl (by decide) (hh_rd (hh_obj hL (k := 109) rfl).1) (hh_obj hL (k := 109) rfl).2 p0 ?_
  refine tr_s (.iload 7) 2 2718 [some (.ref 0), some (.ref 1000), some (.ref 1099), some (.ref 1109), some (.ref 1110), some (.int x5), w6, some (.int x7), w8] [.int x7, .long u0] h rfl rfl rfl ?_
  refine tr_s .i2l 1 2719 [some (.ref 0), some (.ref 1000), some (.ref 1099), some (.ref 1109), some (.ref 1110), some (.int x5), w6, some (.int x7), w8] [.long x7.toInt64, .long u0] h rfl rfl rfl ?_
  refine tr_s .lcmp 1 2720 [some (.ref 0), some (.ref 1000), some (.ref 1099), some (.ref 1109), some (.ref 1110), some (.int x5), w6, some (.int x7), w8] [.int (lg_cmp u0 x7.toInt64)] h rfl rfl rfl ?_
  exact tr_if1 .eq 5 2725 (lg_cmp u0 x7.toInt64) rfl rfl rfl (fun hc => t ((tr_eq hc).1 rfl)) (fun hc => f ((tr_eq hc).2 rfl))
theorem sg_law_2723 {g : tr_g} {d : Nat} {h : ev_AH} {r : ev_O × ev_AH} {w0 w1 w2 w3 w4 w5 w6 w7 w8 : Option Value} (hL : hh_L h) (hr : r = (.inl (some (.int 0)), h)) : tr_L g d m_law 2723 [w0, w1, w2, w3, w4, w5, w6, w7, w8] [] h r := by
  refine tr_ic 0 0 (by decide) rfl ?_
  exact tl_ret hL .ireturn 1 (some (.int 0)) rfl rfl rfl rfl hr
theorem sg_law_2725 {g : tr_g} {d : Nat} {h : ev_AH} {r : ev_O × ev_AH} {x5 : Int32} {w6 w7 w8 : Option Value} (hL : hh_L h) (k : tr_L g d m_law 28 [some (.ref 0), some (.ref 1000), some (.ref 1099), some (.ref 1109), some (.ref 1110), some (.int (x5 + 5)), w6, w7, w8] [] h r) : tr_L g d m_law 2725 [some (.ref 0), some (.ref 1000), some (.ref 1099), some (.ref 1109), some (.ref 1110), some (.int x5), w6, w7, w8] [] h r := by
  refine tr_goto 236 2961 rfl rfl rfl ?_
  refine tr_inc 5 5 x5 5 (by decide) rfl rfl rfl ?_
  refine tr_goto (-2936) 28 rfl rfl rfl ?_
  exact k
theorem sg_law_2728 {g : tr_g} {d : Nat} {h : ev_AH} {r : ev_O × ev_AH} {x5 v0 v1 v2 : Int32} {w6 w7 w8 : Option Value} {h1 h2 h3 : ev_AH} (hL : hh_L h) (c_0 : tr_L g d m_L_rejectionReason 0 [some (.ref 1000), some (.ref 1109), none] [] h (.inl (some (.int v0)), h1)) (c_1 : tr_L g d m_X9_rejectionReason 0 [some (.ref 1099)] [] h1 (.inl (some (.int v1)), h2)) (c_2 : tr_L g d m_X9_thrown 0 [some (.ref 1099)] [] h2 (.inl (some (.int v2)), h3)) (t : v2 = v0 → tr_L g (d + 1) m_law 2752 [some (.ref 0), some (.ref 1000), some (.ref 1099), some (.ref 1109), some (.ref 1110), some (.int x5), some (.int v0), some (.int v1), w8] [] h3 r) (f : v2 ≠ v0 → tr_L g (d + 1) m_law 2750 [some (.ref 0), some (.ref 1000), some (.ref 1099), some (.ref 1109), some (.ref 1110), some (.int x5), some (.int v0), some (.int v1), w8] [] h3 r) : tr_L g (d + 1) m_law 2728 [some (.ref 0), some (.ref 1000), some (.ref 1099), some (.ref 1109), some (.ref 1110), some (.int x5), w6, w7, w8] [] h r := by
  refine tr_s (.aload_n 1) 1 2729 [some (.ref 0), some (.ref 1000), some (.ref 1099), some (.ref 1109), some (.ref 1110), some (.int x5), w6, w7, w8] [.ref 1000] h rfl rfl rfl ?_
  refine tr_s (.aload_n 3) 1 2730 [some (.ref 0), some (.ref 1000), some (.ref 1099), some (.ref 1109), some (.ref 1110), some (.int x5), w6, w7, w8] [.ref 1109, .ref 1000] h rfl rfl rfl ?_
  refine tr_call (.invokestatic 340) 340 8 2 0 m_L_rejectionReason [.ref 1000, .ref 1109] [] (some (.int v0)) h1 rfl rfl rfl rfl rfl rfl rfl rfl rfl (tr_cok rfl (Or.inl rfl)) c_0 ?_
  have hL0 := c_0.2
  refine tr_st (.istore 6) 2 6 0 (.int v0) rfl rfl rfl rfl rfl rfl rfl ?_
  refine tr_s (.aload_n 2) 1 2736 [some (.ref 0), some (.ref 1000), some (.ref 1099), some (.ref 1109), some (.ref 1110), some (.int x5), some (.int v0), w7, w8] [.ref 1099] h1 rfl rfl rfl ?_
  refine tr_call (.invokevirtual 342) 342 0 0 8 m_X9_rejectionReason [.ref 1099] [] (some (.int v1)) h2 rfl rfl rfl rfl rfl rfl rfl rfl rfl (tr_cok rfl (Or.inr ⟨_, _, rfl, tr_rc (hh_rd (hh_obj hL0 (k := 99) rfl).1) (by decide)⟩)) c_1 ?_
  have hL1 := c_1.2
  refine tr_st (.istore 7) 2 7 0 (.int v1) rfl rfl rfl rfl rfl rfl rfl ?_
  refine tr_s (.aload_n 2) 1 2742 [some (.ref 0), some (.ref 1000), some (.ref 1099), some (.ref 1109), some (.ref 1110), some (.int x5), some (.int v0), some (.int v1), w8] [.ref 1099] h2 rfl rfl rfl ?_
  refine tr_call (.invokevirtual 180) 180 0 0 8 m_X9_thrown [.ref 1099] [] (some (.int v2)) h3 rfl rfl rfl rfl rfl rfl rfl rfl rfl (tr_cok rfl (Or.inr ⟨_, _, rfl, tr_rc (hh_rd (hh_obj hL1 (k := 99) rfl).1) (by decide)⟩)) c_2 ?_
  have hL2 := c_2.2
  refine tr_s (.iload 6) 2 2747 [some (.ref 0), some (.ref 1000), some (.ref 1099), some (.ref 1109), some (.ref 1110), some (.int x5), some (.int v0), some (.int v1), w8] [.int v0, .int v2] h3 rfl rfl rfl ?_
  exact tr_if2 .eq 5 2752 v2 v0 rfl rfl rfl (fun hc => t ((tr_eq hc).1 rfl)) (fun hc => f ((tr_eq hc).2 rfl))
theorem sg_law_2750 {g : tr_g} {d : Nat} {h : ev_AH} {r : ev_O × ev_AH} {w0 w1 w2 w3 w4 w5 w6 w7 w8 : Option Value} (hL : hh_L h) (hr : r = (.inl (some (.int 0)), h)) : tr_L g d m_law 2750 [w0, w1, w2, w3, w4, w5, w6, w7, w8] [] h r := by
  refine tr_ic 0 0 (by decide) rfl ?_
  exact tl_ret hL .ireturn 1 (some (.int 0)) rfl rfl rfl rfl hr
theorem sg_law_2752 {g : tr_g} {d : Nat} {h : ev_AH} {r : ev_O × ev_AH} {x5 x6 x7 : Int32} {w8 : Option Value} (hL : hh_L h) (t : x6 ≠ 0 → tr_L g d m_law 2769 [some (.ref 0), some (.ref 1000), some (.ref 1099), some (.ref 1109), some (.ref 1110), some (.int x5), some (.int x6), some (.int x7), w8] [] h r) (f : x6 = 0 → tr_L g d m_law 2757 [some (.ref 0), some (.ref 1000), some (.ref 1099), some (.ref 1109), some (.ref 1110), some (.int x5), some (.int x6), some (.int x7), w8] [] h r) : tr_L g d m_law 2752 [some (.ref 0), some (.ref 1000), some (.ref 1099), some (.ref 1109), some (.ref 1110), some (.int x5), some (.int x6), some (.int x7), w8] [] h r := by
  refine tr_s (.iload 6) 2 2754 [some (.ref 0), some (.ref 1000), some (.ref 1099), some (.ref 1109), some (.ref 1110), some (.int x5), some (.int x6), some (.int x7), w8] [.int x6] h rfl rfl rfl ?_
  exact tr_if1 .ne 15 2769 x6 rfl rfl rfl (fun hc => t ((tr_ne hc).1 rfl)) (fun hc => f ((tr_ne hc).2 rfl))
theorem sg_law_2757 {g : tr_g} {d : Nat} {h : ev_AH} {r : ev_O × ev_AH} {x5 x7 : Int32} {w6 w8 : Option Value} {u0 : Int64} (hL : hh_L h) (p0 : (hh_v h 109)[0]? = some (.long u0)) (t : (lg_cmp u0 x7.toInt64) = 0 → tr_L g d m_law 2769 [some (.ref 0), some (.ref 1000), some (.ref 1099), some (.ref 1109), some (.ref 1110), some (.int x5), w6, some (.int x7), w8] [] h r) (f : (lg_cmp u0 x7.toInt64) ≠ 0 → tr_L g d m_law 2767 [some (.ref 0), some (.ref 1000), some (.ref 1099), some (.ref 1109), some (.ref 1110), some (.int x5), w6, some (.int x7), w8] [] h r) : tr_L g d m_law 2757 [some (.ref 0), some (.ref 1000), some (.ref 1099), some (.ref 1109), some (.ref 1110), some (.int x5), w6, some (.int x7), w8] [] h r := by
  refine tr_s (.aload_n 3) 1 2758 [some (.ref 0), some (.ref 1000), some (.ref 1099), some (.ref 1109), some (.ref 1110), some (.int x5), w6, some (.int x7), w8] [.ref 1109] h rfl rfl rfl ?_
  refine tr_ic 0 0 (by decide) rfl ?_
  refine tr_lald 1109 u0 _ rfl (by decide) (hh_rd (hh_obj hL (k := 109) rfl).1) (hh_obj hL (k := 109) rfl).2 p0 ?_
  refine tr_s (.iload 7) 2 2762 [some (.ref 0), some (.ref 1000), some (.ref 1099), some (.ref 1109), some (.ref 1110), some (.int x5), w6, some (.int x7), w8] [.int x7, .long u0] h rfl rfl rfl ?_
  refine tr_s .i2l 1 2763 [some (.ref 0), some (.ref 1000), some (.ref 1099), some (.ref 1109), some (.ref 1110), some (.int x5), w6, some (.int x7), w8] [.long x7.toInt64, .long u0] h rfl rfl rfl ?_
  refine tr_s .lcmp 1 2764 [some (.ref 0), some (.ref 1000), some (.ref 1099), some (.ref 1109), some (.ref 1110), some (.int x5), w6, some (.int x7), w8] [.int (lg_cmp u0 x7.toInt64)] h rfl rfl rfl ?_
  exact tr_if1 .eq 5 2769 (lg_cmp u0 x7.toInt64) rfl rfl rfl (fun hc => t ((tr_eq hc).1 rfl)) (fun hc => f ((tr_eq hc).2 rfl))
theorem sg_law_2767 {g : tr_g} {d : Nat} {h : ev_AH} {r : ev_O × ev_AH} {w0 w1 w2 w3 w4 w5 w6 w7 w8 : Option Value} (hL : hh_L h) (hr : r = (.inl (some (.int 0)), h)) : tr_L g d m_law 2767 [w0, w1, w2, w3, w4, w5, w6, w7, w8] [] h r := by
  refine tr_ic 0 0 (by decide) rfl ?_
  exact tl_ret hL .ireturn 1 (some (.int 0)) rfl rfl rfl rfl hr
theorem sg_law_2769 {g : tr_g} {d : Nat} {h : ev_AH} {r : ev_O × ev_AH} {x5 : Int32} {w6 w7 w8 : Option Value} (hL : hh_L h) (k : tr_L g d m_law 28 [some (.ref 0), some (.ref 1000), some (.ref 1099), some (.ref 1109), some (.ref 1110), some (.int (x5 + 5)), w6, w7, w8] [] h r) : tr_L g d m_law 2769 [some (.ref 0), some (.ref 1000), some (.ref 1099), some (.ref 1109), some (.ref 1110), some (.int x5), w6, w7, w8] [] h r := by
  refine tr_goto 192 2961 rfl rfl rfl ?_
  refine tr_inc 5 5 x5 5 (by decide) rfl rfl rfl ?_
  refine tr_goto (-2936) 28 rfl rfl rfl ?_
  exact k
theorem sg_law_2772 {g : tr_g} {d : Nat} {h : ev_AH} {r : ev_O × ev_AH} {x5 v0 v1 v2 : Int32} {w6 w7 w8 : Option Value} {h1 h2 h3 : ev_AH} (hL : hh_L h) (c_0 : tr_L g d m_L_rejectionDetail 0 [some (.ref 1000), some (.ref 1109), none] [] h (.inl (some (.int v0)), h1)) (c_1 : tr_L g d m_X9_rejectionDetail 0 [some (.ref 1099)] [] h1 (.inl (some (.int v1)), h2)) (c_2 : tr_L g d m_X9_thrown 0 [some (.ref 1099)] [] h2 (.inl (some (.int v2)), h3)) (t : v2 = v0 → tr_L g (d + 1) m_law 2796 [some (.ref 0), some (.ref 1000), some (.ref 1099), some (.ref 1109), some (.ref 1110), some (.int x5), some (.int v0), some (.int v1), w8] [] h3 r) (f : v2 ≠ v0 → tr_L g (d + 1) m_law 2794 [some (.ref 0), some (.ref 1000), some (.ref 1099), some (.ref 1109), some (.ref 1110), some (.int x5), some (.int v0), some (.int v1), w8] [] h3 r) : tr_L g (d + 1) m_law 2772 [some (.ref 0), some (.ref 1000), some (.ref 1099), some (.ref 1109), some (.ref 1110), some (.int x5), w6, w7, w8] [] h r := by
  refine tr_s (.aload_n 1) 1 2773 [some (.ref 0), some (.ref 1000), some (.ref 1099), some (.ref 1109), some (.ref 1110), some (.int x5), w6, w7, w8] [.ref 1000] h rfl rfl rfl ?_
  refine tr_s (.aload_n 3) 1 2774 [some (.ref 0), some (.ref 1000), some (.ref 1099), some (.ref 1109), some (.ref 1110), some (.int x5), w6, w7, w8] [.ref 1109, .ref 1000] h rfl rfl rfl ?_
  refine tr_call (.invokestatic 343) 343 8 2 0 m_L_rejectionDetail [.ref 1000, .ref 1109] [] (some (.int v0)) h1 rfl rfl rfl rfl rfl rfl rfl rfl rfl (tr_cok rfl (Or.inl rfl)) c_0 ?_
  have hL0 := c_0.2
  refine tr_st (.istore 6) 2 6 0 (.int v0) rfl rfl rfl rfl rfl rfl rfl ?_
  refine tr_s (.aload_n 2) 1 2780 [some (.ref 0), some (.ref 1000), some (.ref 1099), some (.ref 1109), some (.ref 1110), some (.int x5), some (.int v0), w7, w8] [.ref 1099] h1 rfl rfl rfl ?_
  refine tr_call (.invokevirtual 345) 345 0 0 8 m_X9_rejectionDetail [.ref 1099] [] (some (.int v1)) h2 rfl rfl rfl rfl rfl rfl rfl rfl rfl (tr_cok rfl (Or.inr ⟨_, _, rfl, tr_rc (hh_rd (hh_obj hL0 (k := 99) rfl).1) (by decide)⟩)) c_1 ?_
  have hL1 := c_1.2
  refine tr_st (.istore 7) 2 7 0 (.int v1) rfl rfl rfl rfl rfl rfl rfl ?_
  refine tr_s (.aload_n 2) 1 2786 [some (.ref 0), some (.ref 1000), some (.ref 1099), some (.ref 1109), some (.ref 1110), some (.int x5), some (.int v0), some (.int v1), w8] [.ref 1099] h2 rfl rfl rfl ?_
  refine tr_call (.invokevirtual 180) 180 0 0 8 m_X9_thrown [.ref 1099] [] (some (.int v2)) h3 rfl rfl rfl rfl rfl rfl rfl rfl rfl (tr_cok rfl (Or.inr ⟨_, _, rfl, tr_rc (hh_rd (hh_obj hL1 (k := 99) rfl).1) (by decide)⟩)) c_2 ?_
  have hL2 := c_2.2
  refine tr_s (.iload 6) 2 2791 [some (.ref 0), some (.ref 1000), some (.ref 1099), some (.ref 1109), some (.ref 1110), some (.int x5), some (.int v0), some (.int v1), w8] [.int v0, .int v2] h3 rfl rfl rfl ?_
  exact tr_if2 .eq 5 2796 v2 v0 rfl rfl rfl (fun hc => t ((tr_eq hc).1 rfl)) (fun hc => f ((tr_eq hc).2 rfl))
theorem sg_law_2794 {g : tr_g} {d : Nat} {h : ev_AH} {r : ev_O × ev_AH} {w0 w1 w2 w3 w4 w5 w6 w7 w8 : Option Value} (hL : hh_L h) (hr : r = (.inl (some (.int 0)), h)) : tr_L g d m_law 2794 [w0, w1, w2, w3, w4, w5, w6, w7, w8] [] h r := by
  refine tr_ic 0 0 (by decide) rfl ?_
  exact tl_ret hL .ireturn 1 (some (.int 0)) rfl rfl rfl rfl hr
theorem sg_law_2796 {g : tr_g} {d : Nat} {h : ev_AH} {r : ev_O × ev_AH} {x5 x6 x7 : Int32} {w8 : Option Value} (hL : hh_L h) (t : x6 ≠ 0 → tr_L g d m_law 2813 [some (.ref 0), some (.ref 1000), some (.ref 1099), some (.ref 1109), some (.ref 1110), some (.int x5), some (.int x6), some (.int x7), w8] [] h r) (f : x6 = 0 → tr_L g d m_law 2801 [some (.ref 0), some (.ref 1000), some (.ref 1099), some (.ref 1109), some (.ref 1110), some (.int x5), some (.int x6), some (.int x7), w8] [] h r) : tr_L g d m_law 2796 [some (.ref 0), some (.ref 1000), some (.ref 1099), some (.ref 1109), some (.ref 1110), some (.int x5), some (.int x6), some (.int x7), w8] [] h r := by
  refine tr_s (.iload 6) 2 2798 [some (.ref 0), some (.ref 1000), some (.ref 1099), some (.ref 1109), some (.ref 1110), some (.int x5), some (.int x6), some (.int x7), w8] [.int x6] h rfl rfl rfl ?_
  exact tr_if1 .ne 15 2813 x6 rfl rfl rfl (fun hc => t ((tr_ne hc).1 rfl)) (fun hc => f ((tr_ne hc).2 rfl))
theorem sg_law_2801 {g : tr_g} {d : Nat} {h : ev_AH} {r : ev_O × ev_AH} {x5 x7 : Int32} {w6 w8 : Option Value} {u0 : Int64} (hL : hh_L h) (p0 : (hh_v h 109)[0]? = some (.long u0)) (t : (lg_cmp u0 x7.toInt64) = 0 → tr_L g d m_law 2813 [some (.ref 0), some (.ref 1000), some (.ref 1099), some (.ref 1109), some (.ref 1110), some (.int x5), w6, some (.int x7), w8] [] h r) (f : (lg_cmp u0 x7.toInt64) ≠ 0 → tr_L g d m_law 2811 [some (.ref 0), some (.ref 1000), some (.ref 1099), some (.ref 1109), some (.ref 1110), some (.int x5), w6, some (.int x7), w8] [] h r) : tr_L g d m_law 2801 [some (.ref 0), some (.ref 1000), some (.ref 1099), some (.ref 1109), some (.ref 1110), some (.int x5), w6, some (.int x7), w8] [] h r := by
  refine tr_s (.aload_n 3) 1 2802 [some (.ref 0), some (.ref 1000), some (.ref 1099), some (.ref 1109), some (.ref 1110), some (.int x5), w6, some (.int x7), w8] [.ref 1109] h rfl rfl rfl ?_
  refine tr_ic 0 0 (by decide) rfl ?_
  refine tr_lald 1109 u0 _ rfl (by decide) (hh_rd (hh_obj hL (k := 109) rfl).1) (hh_obj hL (k := 109) rfl).2 p0 ?_
  refine tr_s (.iload 7) 2 2806 [some (.ref 0), some (.ref 1000), some (.ref 1099), some (.ref 1109), some (.ref 1110), some (.int x5), w6, some (.int x7), w8] [.int x7, .long u0] h rfl rfl rfl ?_
  refine tr_s .i2l 1 2807 [some (.ref 0), some (.ref 1000), some (.ref 1099), some (.ref 1109), some (.ref 1110), some (.int x5), w6, some (.int x7), w8] [.long x7.toInt64, .long u0] h rfl rfl rfl ?_
  refine tr_s .lcmp 1 2808 [some (.ref 0), some (.ref 1000), some (.ref 1099), some (.ref 1109), some (.ref 1110), some (.int x5), w6, some (.int x7), w8] [.int (lg_cmp u0 x7.toInt64)] h rfl rfl rfl ?_
  exact tr_if1 .eq 5 2813 (lg_cmp u0 x7.toInt64) rfl rfl rfl (fun hc => t ((tr_eq hc).1 rfl)) (fun hc => f ((tr_eq hc).2 rfl))
theorem sg_law_2811 {g : tr_g} {d : Nat} {h : ev_AH} {r : ev_O × ev_AH} {w0 w1 w2 w3 w4 w5 w6 w7 w8 : Option Value} (hL : hh_L h) (hr : r = (.inl (some (.int 0)), h)) : tr_L g d m_law 2811 [w0, w1, w2, w3, w4, w5, w6, w7, w8] [] h r := by
  refine tr_ic 0 0 (by decide) rfl ?_
  exact tl_ret hL .ireturn 1 (some (.int 0)) rfl rfl rfl rfl hr
theorem sg_law_2813 {g : tr_g} {d : Nat} {h : ev_AH} {r : ev_O × ev_AH} {x5 : Int32} {w6 w7 w8 : Option Value} (hL : hh_L h) (k : tr_L g d m_law 28 [some (.ref 0), some (.ref 1000), some (.ref 1099), some (.ref 1109), some (.ref 1110), some (.int (x5 + 5)), w6, w7, w8] [] h r) : tr_L g d m_law 2813 [some (.ref 0), some (.ref 1000), some (.ref 1099), some (.ref 1109), some (.ref 1110), some (.int x5), w6, w7, w8] [] h r := by
  refine tr_goto 148 2961 rfl rfl rfl ?_
  refine tr_inc 5 5 x5 5 (by decide) rfl rfl rfl ?_
  refine tr_goto (-2936) 28 rfl rfl rfl ?_
  exact k
theorem sg_law_2816 {g : tr_g} {d : Nat} {h : ev_AH} {r : ev_O × ev_AH} {x5 v0 v1 v2 : Int32} {w6 w7 w8 : Option Value} {h1 h2 h3 : ev_AH} (hL : hh_L h) (c_0 : tr_L g d m_L_causeReason 0 [some (.ref 1000), some (.ref 1109), none] [] h (.inl (some (.int v0)), h1)) (c_1 : tr_L g d m_X9_causeReason 0 [some (.ref 1099)] [] h1 (.inl (some (.int v1)), h2)) (c_2 : tr_L g d m_X9_thrown 0 [some (.ref 1099)] [] h2 (.inl (some (.int v2)), h3)) (t : v2 = v0 → tr_L g (d + 1) m_law 2840 [some (.ref 0), some (.ref 1000), some (.ref 1099), some (.ref 1109), some (.ref 1110), some (.int x5), some (.int v0), some (.int v1), w8] [] h3 r) (f : v2 ≠ v0 → tr_L g (d + 1) m_law 2838 [some (.ref 0), some (.ref 1000), some (.ref 1099), some (.ref 1109), some (.ref 1110), some (.int x5), some (.int v0), some (.int v1), w8] [] h3 r) : tr_L g (d + 1) m_law 2816 [some (.ref 0), some (.ref 1000), some (.ref 1099), some (.ref 1109), some (.ref 1110), some (.int x5), w6, w7, w8] [] h r := by
  refine tr_s (.aload_n 1) 1 2817 [some (.ref 0), some (.ref 1000), some (.ref 1099), some (.ref 1109), some (.ref 1110), some (.int x5), w6, w7, w8] [.ref 1000] h rfl rfl rfl ?_
  refine tr_s (.aload_n 3) 1 2818 [some (.ref 0), some (.ref 1000), some (.ref 1099), some (.ref 1109), some (.ref 1110), some (.int x5), w6, w7, w8] [.ref 1109, .ref 1000] h rfl rfl rfl ?_
  refine tr_call (.invokestatic 346) 346 8 2 0 m_L_causeReason [.ref 1000, .ref 1109] [] (some (.int v0)) h1 rfl rfl rfl rfl rfl rfl rfl rfl rfl (tr_cok rfl (Or.inl rfl)) c_0 ?_
  have hL0 := c_0.2
  refine tr_st (.istore 6) 2 6 0 (.int v0) rfl rfl rfl rfl rfl rfl rfl ?_
  refine tr_s (.aload_n 2) 1 2824 [some (.ref 0), some (.ref 1000), some (.ref 1099), some (.ref 1109), some (.ref 1110), some (.int x5), some (.int v0), w7, w8] [.ref 1099] h1 rfl rfl rfl ?_
  refine tr_call (.invokevirtual 348) 348 0 0 8 m_X9_causeReason [.ref 1099] [] (some (.int v1)) h2 rfl rfl rfl rfl rfl rfl rfl rfl rfl (tr_cok rfl (Or.inr ⟨_, _, rfl, tr_rc (hh_rd (hh_obj hL0 (k := 99) rfl).1) (by decide)⟩)) c_1 ?_
  have hL1 := c_1.2
  refine tr_st (.istore 7) 2 7 0 (.int v1) rfl rfl rfl rfl rfl rfl rfl ?_
  refine tr_s (.aload_n 2) 1 2830 [some (.ref 0), some (.ref 1000), some (.ref 1099), some (.ref 1109), some (.ref 1110), some (.int x5), some (.int v0), some (.int v1), w8] [.ref 1099] h2 rfl rfl rfl ?_
  refine tr_call (.invokevirtual 180) 180 0 0 8 m_X9_thrown [.ref 1099] [] (some (.int v2)) h3 rfl rfl rfl rfl rfl rfl rfl rfl rfl (tr_cok rfl (Or.inr ⟨_, _, rfl, tr_rc (hh_rd (hh_obj hL1 (k := 99) rfl).1) (by decide)⟩)) c_2 ?_
  have hL2 := c_2.2
  refine tr_s (.iload 6) 2 2835 [some (.ref 0), some (.ref 1000), some (.ref 1099), some (.ref 1109), some (.ref 1110), some (.int x5), some (.int v0), some (.int v1), w8] [.int v0, .int v2] h3 rfl rfl rfl ?_
  exact tr_if2 .eq 5 2840 v2 v0 rfl rfl rfl (fun hc => t ((tr_eq hc).1 rfl)) (fun hc => f ((tr_eq hc).2 rfl))
theorem sg_law_2838 {g : tr_g} {d : Nat} {h : ev_AH} {r : ev_O × ev_AH} {w0 w1 w2 w3 w4 w5 w6 w7 w8 : Option Value} (hL : hh_L h) (hr : r = (.inl (some (.int 0)), h)) : tr_L g d m_law 2838 [w0, w1, w2, w3, w4, w5, w6, w7, w8] [] h r := by
  refine tr_ic 0 0 (by decide) rfl ?_
  exact tl_ret hL .ireturn 1 (some (.int 0)) rfl rfl rfl rfl hr
theorem sg_law_2840 {g : tr_g} {d : Nat} {h : ev_AH} {r : ev_O × ev_AH} {x5 x6 x7 : Int32} {w8 : Option Value} (hL : hh_L h) (t : x6 ≠ 0 → tr_L g d m_law 2857 [some (.ref 0), some (.ref 1000), some (.ref 1099), some (.ref 1109), some (.ref 1110), some (.int x5), some (.int x6), some (.int x7), w8] [] h r) (f : x6 = 0 → tr_L g d m_law 2845 [some (.ref 0), some (.ref 1000), some (.ref 1099), some (.ref 1109), some (.ref 1110), some (.int x5), some (.int x6), some (.int x7), w8] [] h r) : tr_L g d m_law 2840 [some (.ref 0), some (.ref 1000), some (.ref 1099), some (.ref 1109), some (.ref 1110), some (.int x5), some (.int x6), some (.int x7), w8] [] h r := by
  refine tr_s (.iload 6) 2 2842 [some (.ref 0), some (.ref 1000), some (.ref 1099), some (.ref 1109), some (.ref 1110), some (.int x5), some (.int x6), some (.int x7), w8] [.int x6] h rfl rfl rfl ?_
  exact tr_if1 .ne 15 2857 x6 rfl rfl rfl (fun hc => t ((tr_ne hc).1 rfl)) (fun hc => f ((tr_ne hc).2 rfl))
theorem sg_law_2845 {g : tr_g} {d : Nat} {h : ev_AH} {r : ev_O × ev_AH} {x5 x7 : Int32} {w6 w8 : Option Value} {u0 : Int64} (hL : hh_L h) (p0 : (hh_v h 109)[0]? = some (.long u0)) (t : (lg_cmp u0 x7.toInt64) = 0 → tr_L g d m_law 2857 [some (.ref 0), some (.ref 1000), some (.ref 1099), some (.ref 1109), some (.ref 1110), some (.int x5), w6, some (.int x7), w8] [] h r) (f : (lg_cmp u0 x7.toInt64) ≠ 0 → tr_L g d m_law 2855 [some (.ref 0), some (.ref 1000), some (.ref 1099), some (.ref 1109), some (.ref 1110), some (.int x5), w6, some (.int x7), w8] [] h r) : tr_L g d m_law 2845 [some (.ref 0), some (.ref 1000), some (.ref 1099), some (.ref 1109), some (.ref 1110), some (.int x5), w6, some (.int x7), w8] [] h r := by
  refine tr_s (.aload_n 3) 1 2846 [some (.ref 0), some (.ref 1000), some (.ref 1099), some (.ref 1109), some (.ref 1110), some (.int x5), w6, some (.int x7), w8] [.ref 1109] h rfl rfl rfl ?_
  refine tr_ic 0 0 (by decide) rfl ?_
  refine tr_lald 1109 u0 _ rfl (by decide) (hh_rd (hh_obj hL (k := 109) rfl).1) (hh_obj hL (k := 109) rfl).2 p0 ?_
  refine tr_s (.iload 7) 2 2850 [some (.ref 0), some (.ref 1000), some (.ref 1099), some (.ref 1109), some (.ref 1110), some (.int x5), w6, some (.int x7), w8] [.int x7, .long u0] h rfl rfl rfl ?_
  refine tr_s .i2l 1 2851 [some (.ref 0), some (.ref 1000), some (.ref 1099), some (.ref 1109), some (.ref 1110), some (.int x5), w6, some (.int x7), w8] [.long x7.toInt64, .long u0] h rfl rfl rfl ?_
  refine tr_s .lcmp 1 2852 [some (.ref 0), some (.ref 1000), some (.ref 1099), some (.ref 1109), some (.ref 1110), some (.int x5), w6, some (.int x7), w8] [.int (lg_cmp u0 x7.toInt64)] h rfl rfl rfl ?_
  exact tr_if1 .eq 5 2857 (lg_cmp u0 x7.toInt64) rfl rfl rfl (fun hc => t ((tr_eq hc).1 rfl)) (fun hc => f ((tr_eq hc).2 rfl))
theorem sg_law_2855 {g : tr_g} {d : Nat} {h : ev_AH} {r : ev_O × ev_AH} {w0 w1 w2 w3 w4 w5 w6 w7 w8 : Option Value} (hL : hh_L h) (hr : r = (.inl (some (.int 0)), h)) : tr_L g d m_law 2855 [w0, w1, w2, w3, w4, w5, w6, w7, w8] [] h r := by
  refine tr_ic 0 0 (by decide) rfl ?_
  exact tl_ret hL .ireturn 1 (some (.int 0)) rfl rfl rfl rfl hr
theorem sg_law_2857 {g : tr_g} {d : Nat} {h : ev_AH} {r : ev_O × ev_AH} {x5 : Int32} {w6 w7 w8 : Option Value} (hL : hh_L h) (k : tr_L g d m_law 28 [some (.ref 0), some (.ref 1000), some (.ref 1099), some (.ref 1109), some (.ref 1110), some (.int (x5 + 5)), w6, w7, w8] [] h r) : tr_L g d m_law 2857 [some (.ref 0), some (.ref 1000), some (.ref 1099), some (.ref 1109), some (.ref 1110), some (.int x5), w6, w7, w8] [] h r := by
  refine tr_goto 104 2961 rfl rfl rfl ?_
  refine tr_inc 5 5 x5 5 (by decide) rfl rfl rfl ?_
  refine tr_goto (-2936) 28 rfl rfl rfl ?_
  exact k
theorem sg_law_2860 {g : tr_g} {d : Nat} {h : ev_AH} {r : ev_O × ev_AH} {x5 v0 v1 v2 : Int32} {w6 w7 w8 : Option Value} {h1 h2 h3 : ev_AH} (hL : hh_L h) (c_0 : tr_L g d m_L_undo 0 [some (.ref 1000), some (.ref 1109), none] [] h (.inl (some (.int v0)), h1)) (c_1 : tr_L g d m_X9_undo 0 [some (.ref 1099)] [] h1 (.inl (some (.int v1)), h2)) (c_2 : tr_L g d m_X9_thrown 0 [some (.ref 1099)] [] h2 (.inl (some (.int v2)), h3)) (t : v2 = v0 → tr_L g (d + 1) m_law 2884 [some (.ref 0), some (.ref 1000), some (.ref 1099), some (.ref 1109), some (.ref 1110), some (.int x5), some (.int v0), some (.int v1), w8] [] h3 r) (f : v2 ≠ v0 → tr_L g (d + 1) m_law 2882 [some (.ref 0), some (.ref 1000), some (.ref 1099), some (.ref 1109), some (.ref 1110), some (.int x5), some (.int v0), some (.int v1), w8] [] h3 r) : tr_L g (d + 1) m_law 2860 [some (.ref 0), some (.ref 1000), some (.ref 1099), some (.ref 1109), some (.ref 1110), some (.int x5), w6, w7, w8] [] h r := by
  refine tr_s (.aload_n 1) 1 2861 [some (.ref 0), some (.ref 1000), some (.ref 1099), some (.ref 1109), some (.ref 1110), some (.int x5), w6, w7, w8] [.ref 1000] h rfl rfl rfl ?_
  refine tr_s (.aload_n 3) 1 2862 [some (.ref 0), some (.ref 1000), some (.ref 1099), some (.ref 1109), some (.ref 1110), some (.int x5), w6, w7, w8] [.ref 1109, .ref 1000] h rfl rfl rfl ?_
  refine tr_call (.invokestatic 349) 349 8 2 0 m_L_undo [.ref 1000, .ref 1109] [] (some (.int v0)) h1 rfl rfl rfl rfl rfl rfl rfl rfl rfl (tr_cok rfl (Or.inl rfl)) c_0 ?_
  have hL0 := c_0.2
  refine tr_st (.istore 6) 2 6 0 (.int v0) rfl rfl rfl rfl rfl rfl rfl ?_
  refine tr_s (.aload_n 2) 1 2868 [some (.ref 0), some (.ref 1000), some (.ref 1099), some (.ref 1109), some (.ref 1110), some (.int x5), some (.int v0), w7, w8] [.ref 1099] h1 rfl rfl rfl ?_
  refine tr_call (.invokevirtual 351) 351 0 0 8 m_X9_undo [.ref 1099] [] (some (.int v1)) h2 rfl rfl rfl rfl rfl rfl rfl rfl rfl (tr_cok rfl (Or.inr ⟨_, _, rfl, tr_rc (hh_rd (hh_obj hL0 (k := 99) rfl).1) (by decide)⟩)) c_1 ?_
  have hL1 := c_1.2
  refine tr_st (.istore 7) 2 7 0 (.int v1) rfl rfl rfl rfl rfl rfl rfl ?_
  refine tr_s (.aload_n 2) 1 2874 [some (.ref 0), some (.ref 1000), some (.ref 1099), some (.ref 1109), some (.ref 1110), some (.int x5), some (.int v0), some (.int v1), w8] [.ref 1099] h2 rfl rfl rfl ?_
  refine tr_call (.invokevirtual 180) 180 0 0 8 m_X9_thrown [.ref 1099] [] (some (.int v2)) h3 rfl rfl rfl rfl rfl rfl rfl rfl rfl (tr_cok rfl (Or.inr ⟨_, _, rfl, tr_rc (hh_rd (hh_obj hL1 (k := 99) rfl).1) (by decide)⟩)) c_2 ?_
  have hL2 := c_2.2
  refine tr_s (.iload 6) 2 2879 [some (.ref 0), some (.ref 1000), some (.ref 1099), some (.ref 1109), some (.ref 1110), some (.int x5), some (.int v0), some (.int v1), w8] [.int v0, .int v2] h3 rfl rfl rfl ?_
  exact tr_if2 .eq 5 2884 v2 v0 rfl rfl rfl (fun hc => t ((tr_eq hc).1 rfl)) (fun hc => f ((tr_eq hc).2 rfl))
theorem sg_law_2882 {g : tr_g} {d : Nat} {h : ev_AH} {r : ev_O × ev_AH} {w0 w1 w2 w3 w4 w5 w6 w7 w8 : Option Value} (hL : hh_L h) (hr : r = (.inl (some (.int 0)), h)) : tr_L g d m_law 2882 [w0, w1, w2, w3, w4, w5, w6, w7, w8] [] h r := by
  refine tr_ic 0 0 (by decide) rfl ?_
  exact tl_ret hL .ireturn 1 (some (.int 0)) rfl rfl rfl rfl hr
theorem sg_law_2884 {g : tr_g} {d : Nat} {h : ev_AH} {r : ev_O × ev_AH} {x5 x6 x7 : Int32} {w8 : Option Value} (hL : hh_L h) (t : x6 ≠ 0 → tr_L g d m_law 2901 [some (.ref 0), some (.ref 1000), some (.ref 1099), some (.ref 1109), some (.ref 1110), some (.int x5), some (.int x6), some (.int x7), w8] [] h r) (f : x6 = 0 → tr_L g d m_law 2889 [some (.ref 0), some (.ref 1000), some (.ref 1099), some (.ref 1109), some (.ref 1110), some (.int x5), some (.int x6), some (.int x7), w8] [] h r) : tr_L g d m_law 2884 [some (.ref 0), some (.ref 1000), some (.ref 1099), some (.ref 1109), some (.ref 1110), some (.int x5), some (.int x6), some (.int x7), w8] [] h r := by
  refine tr_s (.iload 6) 2 2886 [some (.ref 0), some (.ref 1000), some (.ref 1099), some (.ref 1109), some (.ref 1110), some (.int x5), some (.int x6), some (.int x7), w8] [.int x6] h rfl rfl rfl ?_
  exact tr_if1 .ne 15 2901 x6 rfl rfl rfl (fun hc => t ((tr_ne hc).1 rfl)) (fun hc => f ((tr_ne hc).2 rfl))
theorem sg_law_2889 {g : tr_g} {d : Nat} {h : ev_AH} {r : ev_O × ev_AH} {x5 x7 : Int32} {w6 w8 : Option Value} {u0 : Int64} (hL : hh_L h) (p0 : (hh_v h 109)[0]? = some (.long u0)) (t : (lg_cmp u0 x7.toInt64) = 0 → tr_L g d m_law 2901 [some (.ref 0), some (.ref 1000), some (.ref 1099), some (.ref 1109), some (.ref 1110), some (.int x5), w6, some (.int x7), w8] [] h r) (f : (lg_cmp u0 x7.toInt64) ≠ 0 → tr_L g d m_law 2899 [some (.ref 0), some (.ref 1000), some (.ref 1099), some (.ref 1109), some (.ref 1110), some (.int x5), w6, some (.int x7), w8] [] h r) : tr_L g d m_law 2889 [some (.ref 0), some (.ref 1000), some (.ref 1099), some (.ref 1109), some (.ref 1110), some (.int x5), w6, some (.int x7), w8] [] h r := by
  refine tr_s (.aload_n 3) 1 2890 [some (.ref 0), some (.ref 1000), some (.ref 1099), some (.ref 1109), some (.ref 1110), some (.int x5), w6, some (.int x7), w8] [.ref 1109] h rfl rfl rfl ?_
  refine tr_ic 0 0 (by decide) rfl ?_
  refine tr_lald 1109 u0 _ rfl (by decide) (hh_rd (hh_obj hL (k := 109) rfl).1) (hh_obj hL (k := 109) rfl).2 p0 ?_
  refine tr_s (.iload 7) 2 2894 [some (.ref 0), some (.ref 1000), some (.ref 1099), some (.ref 1109), some (.ref 1110), some (.int x5), w6, some (.int x7), w8] [.int x7, .long u0] h rfl rfl rfl ?_
  refine tr_s .i2l 1 2895 [some (.ref 0), some (.ref 1000), some (.ref 1099), some (.ref 1109), some (.ref 1110), some (.int x5), w6, some (.int x7), w8] [.long x7.toInt64, .long u0] h rfl rfl rfl ?_
  refine tr_s .lcmp 1 2896 [some (.ref 0), some (.ref 1000), some (.ref 1099), some (.ref 1109), some (.ref 1110), some (.int x5), w6, some (.int x7), w8] [.int (lg_cmp u0 x7.toInt64)] h rfl rfl rfl ?_
  exact tr_if1 .eq 5 2901 (lg_cmp u0 x7.toInt64) rfl rfl rfl (fun hc => t ((tr_eq hc).1 rfl)) (fun hc => f ((tr_eq hc).2 rfl))
theorem sg_law_2899 {g : tr_g} {d : Nat} {h : ev_AH} {r : ev_O × ev_AH} {w0 w1 w2 w3 w4 w5 w6 w7 w8 : Option Value} (hL : hh_L h) (hr : r = (.inl (some (.int 0)), h)) : tr_L g d m_law 2899 [w0, w1, w2, w3, w4, w5, w6, w7, w8] [] h r := by
  refine tr_ic 0 0 (by decide) rfl ?_
  exact tl_ret hL .ireturn 1 (some (.int 0)) rfl rfl rfl rfl hr
theorem sg_law_2901 {g : tr_g} {d : Nat} {h : ev_AH} {r : ev_O × ev_AH} {x5 : Int32} {w6 w7 w8 : Option Value} (hL : hh_L h) (k : tr_L g d m_law 28 [some (.ref 0), some (.ref 1000), some (.ref 1099), some (.ref 1109), some (.ref 1110), some (.int (x5 + 5)), w6, w7, w8] [] h r) : tr_L g d m_law 2901 [some (.ref 0), some (.ref 1000), some (.ref 1099), some (.ref 1109), some (.ref 1110), some (.int x5), w6, w7, w8] [] h r := by
  refine tr_goto 60 2961 rfl rfl rfl ?_
  refine tr_inc 5 5 x5 5 (by decide) rfl rfl rfl ?_
  refine tr_goto (-2936) 28 rfl rfl rfl ?_
  exact k
theorem sx_law_2904_2905 {g : tr_g} {d : Nat} {h : ev_AH} {r : ev_O × ev_AH} {x5 v0 : Int32} {w6 w7 w8 : Option Value} {h1 hx : ev_AH} {E : Nat} (hL : hh_L h) (cx : tr_L g d m_X8_saveSnapshot 0 [some (.ref 1000)] [] h (.inr E, hx)) (hr : r = (.inr E, hx)) : tr_L g (d + 1) m_law 2904 [some (.ref 0), some (.ref 1000), some (.ref 1099), some (.ref 1109), some (.ref 1110), some (.int x5), w6, w7, w8] [] h r := by
  refine tr_s (.aload_n 1) 1 2905 [some (.ref 0), some (.ref 1000), some (.ref 1099), some (.ref 1109), some (.ref 1110), some (.int x5), w6, w7, w8] [.ref 1000] h rfl rfl rfl ?_
  exact tr_callx (.invokevirtual 352) 352 0 0 0 m_X8_saveSnapshot [.ref 1000] [] E hx rfl rfl rfl rfl rfl rfl rfl rfl rfl (tr_cok rfl (Or.inr ⟨_, _, rfl, tr_rc (hh_rd (hh_obj hL (k := 0) rfl).1) (by decide)⟩)) rfl cx hr
theorem sg_law_2904 {g : tr_g} {d : Nat} {h : ev_AH} {r : ev_O × ev_AH} {x5 v0 v1 : Int32} {w6 w7 w8 : Option Value} {h1 h2 : ev_AH} (hL : hh_L h) (c_0 : tr_L g d m_X8_saveSnapshot 0 [some (.ref 1000)] [] h (.inl (some (.int v0)), h1)) (c_1 : tr_L g d m_X9_saveSnapshot 0 [some (.ref 1099)] [] h1 (.inl (some (.int v1)), h2)) (t : v0 = v1 → tr_L g (d + 1) m_law 2961 [some (.ref 0), some (.ref 1000), some (.ref 1099), some (.ref 1109), some (.ref 1110), some (.int x5), w6, w7, w8] [] h2 r) (f : v0 ≠ v1 → tr_L g (d + 1) m_law 2915 [some (.ref 0), some (.ref 1000), some (.ref 1099), some (.ref 1109), some (.ref 1110), some (.int x5), w6, w7, w8] [] h2 r) : tr_L g (d + 1) m_law 2904 [some (.ref 0), some (.ref 1000), some (.ref 1099), some (.ref 1109), some (.ref 1110), some (.int x5), w6, w7, w8] [] h r := by
  refine tr_s (.aload_n 1) 1 2905 [some (.ref 0), some (.ref 1000), some (.ref 1099), some (.ref 1109), some (.ref 1110), some (.int x5), w6, w7, w8] [.ref 1000] h rfl rfl rfl ?_
  refine tr_call (.invokevirtual 352) 352 0 0 0 m_X8_saveSnapshot [.ref 1000] [] (some (.int v0)) h1 rfl rfl rfl rfl rfl rfl rfl rfl rfl (tr_cok rfl (Or.inr ⟨_, _, rfl, tr_rc (hh_rd (hh_obj hL (k := 0) rfl).1) (by decide)⟩)) c_0 ?_
  have hL0 := c_0.2
  refine tr_s (.aload_n 2) 1 2909 [some (.ref 0), some (.ref 1000), some (.ref 1099), some (.ref 1109), some (.ref 1110), some (.int x5), w6, w7, w8] [.ref 1099, .int v0] h1 rfl rfl rfl ?_
  refine tr_call (.invokevirtual 355) 355 0 0 8 m_X9_saveSnapshot [.ref 1099] [.int v0] (some (.int v1)) h2 rfl rfl rfl rfl rfl rfl rfl rfl rfl (tr_cok rfl (Or.inr ⟨_, _, rfl, tr_rc (hh_rd (hh_obj hL0 (k := 99) rfl).1) (by decide)⟩)) c_1 ?_
  have hL1 := c_1.2
  exact tr_if2 .eq 49 2961 v0 v1 rfl rfl rfl (fun hc => t ((tr_eq hc).1 rfl)) (fun hc => f ((tr_eq hc).2 rfl))
theorem sg_law_2915 {g : tr_g} {d : Nat} {h : ev_AH} {r : ev_O × ev_AH} {w0 w1 w2 w3 w4 w5 w6 w7 w8 : Option Value} (hL : hh_L h) (hr : r = (.inl (some (.int 0)), h)) : tr_L g d m_law 2915 [w0, w1, w2, w3, w4, w5, w6, w7, w8] [] h r := by
  refine tr_ic 0 0 (by decide) rfl ?_
  exact tl_ret hL .ireturn 1 (some (.int 0)) rfl rfl rfl rfl hr
theorem sg_law_2917 {g : tr_g} {d : Nat} {h : ev_AH} {r : ev_O × ev_AH} {x5 v0 v1 v2 : Int32} {w6 w7 w8 : Option Value} {h1 h2 h3 : ev_AH} (hL : hh_L h) (c_0 : tr_L g d m_L_restoreSnapshot 0 [some (.ref 1000), some (.ref 1109), none] [] h (.inl (some (.int v0)), h1)) (c_1 : tr_L g d m_X9_restoreSnapshot 0 [some (.ref 1099)] [] h1 (.inl (some (.int v1)), h2)) (c_2 : tr_L g d m_X9_thrown 0 [some (.ref 1099)] [] h2 (.inl (some (.int v2)), h3)) (t : v2 = v0 → tr_L g (d + 1) m_law 2941 [some (.ref 0), some (.ref 1000), some (.ref 1099), some (.ref 1109), some (.ref 1110), some (.int x5), some (.int v0), some (.int v1), w8] [] h3 r) (f : v2 ≠ v0 → tr_L g (d + 1) m_law 2939 [some (.ref 0), some (.ref 1000), some (.ref 1099), some (.ref 1109), some (.ref 1110), some (.int x5), some (.int v0), some (.int v1), w8] [] h3 r) : tr_L g (d + 1) m_law 2917 [some (.ref 0), some (.ref 1000), some (.ref 1099), some (.ref 1109), some (.ref 1110), some (.int x5), w6, w7, w8] [] h r := by
  refine tr_s (.aload_n 1) 1 2918 [some (.ref 0), some (.ref 1000), some (.ref 1099), some (.ref 1109), some (.ref 1110), some (.int x5), w6, w7, w8] [.ref 1000] h rfl rfl rfl ?_
  refine tr_s (.aload_n 3) 1 2919 [some (.ref 0), some (.ref 1000), some (.ref 1099), some (.ref 1109), some (.ref 1110), some (.int x5), w6, w7, w8] [.ref 1109, .ref 1000] h rfl rfl rfl ?_
  refine tr_call (.invokestatic 356) 356 8 2 0 m_L_restoreSnapshot [.ref 1000, .ref 1109] [] (some (.int v0)) h1 rfl rfl rfl rfl rfl rfl rfl rfl rfl (tr_cok rfl (Or.inl rfl)) c_0 ?_
  have hL0 := c_0.2
  refine tr_st (.istore 6) 2 6 0 (.int v0) rfl rfl rfl rfl rfl rfl rfl ?_
  refine tr_s (.aload_n 2) 1 2925 [some (.ref 0), some (.ref 1000), some (.ref 1099), some (.ref 1109), some (.ref 1110), some (.int x5), some (.int v0), w7, w8] [.ref 1099] h1 rfl rfl rfl ?_
  refine tr_call (.invokevirtual 358) 358 0 0 8 m_X9_restoreSnapshot [.ref 1099] [] (some (.int v1)) h2 rfl rfl rfl rfl rfl rfl rfl rfl rfl (tr_cok rfl (Or.inr ⟨_, _, rfl, tr_rc (hh_rd (hh_obj hL0 (k := 99) rfl).1) (by decide)⟩)) c_1 ?_
  have hL1 := c_1.2
  refine tr_st (.istore 7) 2 7 0 (.int v1) rfl rfl rfl rfl rfl rfl rfl ?_
  refine tr_s (.aload_n 2) 1 2931 [some (.ref 0), some (.ref 1000), some (.ref 1099), some (.ref 1109), some (.ref 1110), some (.int x5), some (.int v0), some (.int v1), w8] [.ref 1099] h2 rfl rfl rfl ?_
  refine tr_call (.invokevirtual 180) 180 0 0 8 m_X9_thrown [.ref 1099] [] (some (.int v2)) h3 rfl rfl rfl rfl rfl rfl rfl rfl rfl (tr_cok rfl (Or.inr ⟨_, _, rfl, tr_rc (hh_rd (hh_obj hL1 (k := 99) rfl).1) (by decide)⟩)) c_2 ?_
  have hL2 := c_2.2
  refine tr_s (.iload 6) 2 2936 [some (.ref 0), some (.ref 1000), some (.ref 1099), some (.ref 1109), some (.ref 1110), some (.int x5), some (.int v0), some (.int v1), w8] [.int v0, .int v2] h3 rfl rfl rfl ?_
  exact tr_if2 .eq 5 2941 v2 v0 rfl rfl rfl (fun hc => t ((tr_eq hc).1 rfl)) (fun hc => f ((tr_eq hc).2 rfl))
theorem sg_law_2939 {g : tr_g} {d : Nat} {h : ev_AH} {r : ev_O × ev_AH} {w0 w1 w2 w3 w4 w5 w6 w7 w8 : Option Value} (hL : hh_L h) (hr : r = (.inl (some (.int 0)), h)) : tr_L g d m_law 2939 [w0, w1, w2, w3, w4, w5, w6, w7, w8] [] h r := by
  refine tr_ic 0 0 (by decide) rfl ?_
  exact tl_ret hL .ireturn 1 (some (.int 0)) rfl rfl rfl rfl hr
theorem sg_law_2941 {g : tr_g} {d : Nat} {h : ev_AH} {r : ev_O × ev_AH} {x5 x6 x7 : Int32} {w8 : Option Value} (hL : hh_L h) (t : x6 ≠ 0 → tr_L g d m_law 2958 [some (.ref 0), some (.ref 1000), some (.ref 1099), some (.ref 1109), some (.ref 1110), some (.int x5), some (.int x6), some (.int x7), w8] [] h r) (f : x6 = 0 → tr_L g d m_law 2946 [some (.ref 0), some (.ref 1000), some (.ref 1099), some (.ref 1109), some (.ref 1110), some (.int x5), some (.int x6), some (.int x7), w8] [] h r) : tr_L g d m_law 2941 [some (.ref 0), some (.ref 1000), some (.ref 1099), some (.ref 1109), some (.ref 1110), some (.int x5), some (.int x6), some (.int x7), w8] [] h r := by
  refine tr_s (.iload 6) 2 2943 [some (.ref 0), some (.ref 1000), some (.ref 1099), some (.ref 1109), some (.ref 1110), some (.int x5), some (.int x6), some (.int x7), w8] [.int x6] h rfl rfl rfl ?_
  exact tr_if1 .ne 15 2958 x6 rfl rfl rfl (fun hc => t ((tr_ne hc).1 rfl)) (fun hc => f ((tr_ne hc).2 rfl))
theorem sg_law_2946 {g : tr_g} {d : Nat} {h : ev_AH} {r : ev_O × ev_AH} {x5 x7 : Int32} {w6 w8 : Option Value} {u0 : Int64} (hL : hh_L h) (p0 : (hh_v h 109)[0]? = some (.long u0)) (t : (lg_cmp u0 x7.toInt64) = 0 → tr_L g d m_law 2958 [some (.ref 0), some (.ref 1000), some (.ref 1099), some (.ref 1109), some (.ref 1110), some (.int x5), w6, some (.int x7), w8] [] h r) (f : (lg_cmp u0 x7.toInt64) ≠ 0 → tr_L g d m_law 2956 [some (.ref 0), some (.ref 1000), some (.ref 1099), some (.ref 1109), some (.ref 1110), some (.int x5), w6, some (.int x7), w8] [] h r) : tr_L g d m_law 2946 [some (.ref 0), some (.ref 1000), some (.ref 1099), some (.ref 1109), some (.ref 1110), some (.int x5), w6, some (.int x7), w8] [] h r := by
  refine tr_s (.aload_n 3) 1 2947 [some (.ref 0), some (.ref 1000), some (.ref 1099), some (.ref 1109), some (.ref 1110), some (.int x5), w6, some (.int x7), w8] [.ref 1109] h rfl rfl rfl ?_
  refine tr_ic 0 0 (by decide) rfl ?_
  refine tr_lald 1109 u0 _ rfl (by decide) (hh_rd (hh_obj hL (k := 109) rfl).1) (hh_obj hL (k := 109) rfl).2 p0 ?_
  refine tr_s (.iload 7) 2 2951 [some (.ref 0), some (.ref 1000), some (.ref 1099), some (.ref 1109), some (.ref 1110), some (.int x5), w6, some (.int x7), w8] [.int x7, .long u0] h rfl rfl rfl ?_
  refine tr_s .i2l 1 2952 [some (.ref 0), some (.ref 1000), some (.ref 1099), some (.ref 1109), some (.ref 1110), some (.int x5), w6, some (.int x7), w8] [.long x7.toInt64, .long u0] h rfl rfl rfl ?_
  refine tr_s .lcmp 1 2953 [some (.ref 0), some (.ref 1000), some (.ref 1099), some (.ref 1109), some (.ref 1110), some (.int x5), w6, some (.int x7), w8] [.int (lg_cmp u0 x7.toInt64)] h rfl rfl rfl ?_
  exact tr_if1 .eq 5 2958 (lg_cmp u0 x7.toInt64) rfl rfl rfl (fun hc => t ((tr_eq hc).1 rfl)) (fun hc => f ((tr_eq hc).2 rfl))
theorem sg_law_2956 {g : tr_g} {d : Nat} {h : ev_AH} {r : ev_O × ev_AH} {w0 w1 w2 w3 w4 w5 w6 w7 w8 : Option Value} (hL : hh_L h) (hr : r = (.inl (some (.int 0)), h)) : tr_L g d m_law 2956 [w0, w1, w2, w3, w4, w5, w6, w7, w8] [] h r := by
  refine tr_ic 0 0 (by decide) rfl ?_
  exact tl_ret hL .ireturn 1 (some (.int 0)) rfl rfl rfl rfl hr
theorem sg_law_2958 {g : tr_g} {d : Nat} {h : ev_AH} {r : ev_O × ev_AH} {x5 : Int32} {w6 w7 w8 : Option Value} (hL : hh_L h) (k : tr_L g d m_law 28 [some (.ref 0), some (.ref 1000), some (.ref 1099), some (.ref 1109), some (.ref 1110), some (.int (x5 + 5)), w6, w7, w8] [] h r) : tr_L g d m_law 2958 [some (.ref 0), some (.ref 1000), some (.ref 1099), some (.ref 1109), some (.ref 1110), some (.int x5), w6, w7, w8] [] h r := by
  refine tr_goto 3 2961 rfl rfl rfl ?_
  refine tr_inc 5 5 x5 5 (by decide) rfl rfl rfl ?_
  refine tr_goto (-2936) 28 rfl rfl rfl ?_
  exact k
theorem sg_law_2961 {g : tr_g} {d : Nat} {h : ev_AH} {r : ev_O × ev_AH} {x5 : Int32} {w6 w7 w8 : Option Value} (hL : hh_L h) (k : tr_L g d m_law 28 [some (.ref 0), some (.ref 1000), some (.ref 1099), some (.ref 1109), some (.ref 1110), some (.int (x5 + 5)), w6, w7, w8] [] h r) : tr_L g d m_law 2961 [some (.ref 0), some (.ref 1000), some (.ref 1099), some (.ref 1109), some (.ref 1110), some (.int x5), w6, w7, w8] [] h r := by
  refine tr_inc 5 5 x5 5 (by decide) rfl rfl rfl ?_
  refine tr_goto (-2936) 28 rfl rfl rfl ?_
  exact k
theorem sg_law_2967 {g : tr_g} {d : Nat} {h : ev_AH} {r : ev_O × ev_AH} {w0 w1 w2 w3 w4 w5 w6 w7 w8 : Option Value} (hL : hh_L h) (hr : r = (.inl (some (.int 1)), h)) : tr_L g d m_law 2967 [w0, w1, w2, w3, w4, w5, w6, w7, w8] [] h r := by
  refine tr_ic 1 1 (by decide) rfl ?_
  exact tl_ret hL .ireturn 1 (some (.int 1)) rfl rfl rfl rfl hr
