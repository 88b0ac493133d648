/-! runs of the JDK over a builder and a String in the making, wherever they lie; laid by a program (wip/p57/gen/gen61.py) -/
theorem sg_J5_init_d00df_r_0 {g : tr_g} {d : Nat} {h : ev_AH} {r : ev_O × ev_AH} {a0 : Nat} {x1 : Int32} (hL : hh_L h) (t : (1 : Int32) = 0 → tr_L g d m_J5_init_d00df 25 [some (.ref (a0 + 1000)), some (.int x1)] [] h r) (f : (1 : Int32) ≠ 0 → tr_L g d m_J5_init_d00df 10 [some (.ref (a0 + 1000)), some (.int x1)] [] h r) : tr_L g d m_J5_init_d00df 0 [some (.ref (a0 + 1000)), some (.int x1)] [] h r := by
  refine tr_s (.aload_n 0) 1 1 [some (.ref (a0 + 1000)), some (.int x1)] [.ref (a0 + 1000)] h rfl rfl rfl ?_
  refine tr_na (.invokespecial 3) 3 10 0 0 ev_dum [] h rfl rfl rfl rfl rfl rfl rfl ?_
  refine tr_s (.getstatic 18) 3 7 [some (.ref (a0 + 1000)), some (.int x1)] [.int 1] h rfl rfl rfl ?_
  exact tr_if1 .eq 18 25 1 rfl rfl rfl (fun hc => t ((tr_eq hc).1 rfl)) (fun hc => f ((tr_eq hc).2 rfl))
theorem sg_J5_init_d00df_r_10 {g : tr_g} {d : Nat} {h : ev_AH} {r : ev_O × ev_AH} {a0 j0 c0 : Nat} {x1 : Int32} {h1 h2 h3 : ev_AH} {vs0 vs1 : List Value} (hL : hh_L h) (e0 : x1 = Int32.ofNat j0) (b0 : j0 ≤ 1000000) (eh0 : h1 = hh_push h (.inl (2, List.replicate j0 0)) j0) (ec0 : c0 = h.1.length) (m0 : h1.1[a0]? = some (.inr (9, vs0))) (q0 : 0 < vs0.length) (eh1 : h2 = ev_wr h1 (a0 + 1000) (.inr (9, vs0.set 0 (.ref (c0 + 1000))))) (hLs0 : hh_L h2) (m1 : h2.1[a0]? = some (.inr (9, vs1))) (q1 : 1 < vs1.length) (eh2 : h3 = ev_wr h2 (a0 + 1000) (.inr (9, vs1.set 1 (.int 0)))) (hLs1 : hh_L h3) (hr : r = (.inl (none), h3)) : tr_L g d m_J5_init_d00df 10 [some (.ref (a0 + 1000)), some (.int x1)] [] h r := by
  refine tr_s (.aload_n 0) 1 11 [some (.ref (a0 + 1000)), some (.int x1)] [.ref (a0 + 1000)] h rfl rfl rfl ?_
  refine tr_s (.iload_n 1) 1 12 [some (.ref (a0 + 1000)), some (.int x1)] [.int x1, .ref (a0 + 1000)] h rfl rfl rfl ?_
  refine tr_newb j0 x1 rfl e0 b0 ?_
  rw [← eh0, ← ec0]
  have hL0 : hh_L h1 := by rw [eh0]; exact hh_L_push hL
  refine tr_pf 15 (a0 + 1000) 9 0 vs0 (.ref (c0 + 1000)) _ rfl rfl (by omega) (by rw [Nat.add_sub_cancel]; exact m0) rfl q0 tr_okr ?_
  rw [← eh1]
  refine tr_s (.aload_n 0) 1 18 [some (.ref (a0 + 1000)), some (.int x1)] [.ref (a0 + 1000)] h2 rfl rfl rfl ?_
  refine tr_ic 0 0 (by decide) rfl ?_
  refine tr_pf 22 (a0 + 1000) 9 1 vs1 (.int 0) _ rfl rfl (by omega) (by rw [Nat.add_sub_cancel]; exact m1) rfl q1 (by decide) ?_
  rw [← eh2]
  refine tr_goto 16 38 rfl rfl rfl ?_
  exact tl_ret hLs1 .return_ 1 none rfl rfl rfl rfl hr
theorem sg_J4_init_da8c8_r_0 {g : tr_g} {d : Nat} {h : ev_AH} {r : ev_O × ev_AH} {a0 : Nat} {h1 : ev_AH} (hL : hh_L h) (c_0 : tr_L g d m_J5_init_d00df 0 [some (.ref (a0 + 1000)), some (.int 16)] [] h (.inl none, h1)) (hr : r = (.inl (none), h1)) : tr_L g (d + 1) m_J4_init_da8c8 0 [some (.ref (a0 + 1000))] [] h r := by
  refine tr_s (.aload_n 0) 1 1 [some (.ref (a0 + 1000))] [.ref (a0 + 1000)] h rfl rfl rfl ?_
  refine tr_bi 16 16 (by decide) rfl ?_
  refine tr_call (.invokespecial 1) 1 4 1 0 m_J5_init_d00df [.ref (a0 + 1000), .int 16] [] none h1 rfl rfl rfl rfl rfl rfl rfl rfl rfl (tr_cok rfl (Or.inr ⟨_, _, rfl, tr_rcI rfl⟩)) c_0 ?_
  have hL0 := c_0.2
  exact tl_ret hL0 .return_ 1 none rfl rfl rfl rfl hr
theorem sg_J5_isLatin1_aae02_r_0 {g : tr_g} {d : Nat} {h : ev_AH} {r : ev_O × ev_AH} {a0 : Nat} (hL : hh_L h) (t : (1 : Int32) = 0 → tr_L g d m_J5_isLatin1_aae02 17 [some (.ref (a0 + 1000))] [] h r) (f : (1 : Int32) ≠ 0 → tr_L g d m_J5_isLatin1_aae02 6 [some (.ref (a0 + 1000))] [] h r) : tr_L g d m_J5_isLatin1_aae02 0 [some (.ref (a0 + 1000))] [] h r := by
  refine tr_s (.getstatic 18) 3 3 [some (.ref (a0 + 1000))] [.int 1] h rfl rfl rfl ?_
  exact tr_if1 .eq 14 17 1 rfl rfl rfl (fun hc => t ((tr_eq hc).1 rfl)) (fun hc => f ((tr_eq hc).2 rfl))
theorem sg_J5_isLatin1_aae02_r_6 {g : tr_g} {d : Nat} {h : ev_AH} {r : ev_O × ev_AH} {a0 : Nat} {vs0 : List Value} {y0 : Int32} (hL : hh_L h) (m0 : h.1[a0]? = some (.inr (9, vs0))) (p0 : vs0[1]? = some (.int y0)) (t : y0 ≠ 0 → tr_L g d m_J5_isLatin1_aae02 17 [some (.ref (a0 + 1000))] [] h r) (f : y0 = 0 → tr_L g d m_J5_isLatin1_aae02 13 [some (.ref (a0 + 1000))] [] h r) : tr_L g d m_J5_isLatin1_aae02 6 [some (.ref (a0 + 1000))] [] h r := by
  refine tr_s (.aload_n 0) 1 7 [some (.ref (a0 + 1000))] [.ref (a0 + 1000)] h rfl rfl rfl ?_
  refine tr_gf 22 _ 9 1 vs0 _ rfl rfl (hh_rd m0) p0 ?_
  exact tr_if1 .ne 7 17 y0 rfl rfl rfl (fun hc => t ((tr_ne hc).1 rfl)) (fun hc => f ((tr_ne hc).2 rfl))
theorem sg_J5_isLatin1_aae02_r_13 {g : tr_g} {d : Nat} {h : ev_AH} {r : ev_O × ev_AH} {w0 : Option Value} (hL : hh_L h) (hr : r = (.inl (some (.int 1)), h)) : tr_L g d m_J5_isLatin1_aae02 13 [w0] [] h r := by
  refine tr_ic 1 1 (by decide) rfl ?_
  refine tr_goto 4 18 rfl rfl rfl ?_
  exact tl_ret hL .ireturn 1 (some (.int 1)) rfl rfl rfl rfl hr
theorem sg_J5_isLatin1_aae02_r_17 {g : tr_g} {d : Nat} {h : ev_AH} {r : ev_O × ev_AH} {w0 : Option Value} (hL : hh_L h) (hr : r = (.inl (some (.int 0)), h)) : tr_L g d m_J5_isLatin1_aae02 17 [w0] [] h r := by
  refine tr_ic 0 0 (by decide) rfl ?_
  exact tl_ret hL .ireturn 1 (some (.int 0)) rfl rfl rfl rfl hr
theorem sg_J5_length_8abf5_r_0 {g : tr_g} {d : Nat} {h : ev_AH} {r : ev_O × ev_AH} {a0 : Nat} {vs0 : List Value} {y0 : Int32} (hL : hh_L h) (m0 : h.1[a0]? = some (.inr (9, vs0))) (p0 : vs0[3]? = some (.int y0)) (hr : r = (.inl (some (.int y0)), h)) : tr_L g d m_J5_length_8abf5 0 [some (.ref (a0 + 1000))] [] h r := by
  refine tr_s (.aload_n 0) 1 1 [some (.ref (a0 + 1000))] [.ref (a0 + 1000)] h rfl rfl rfl ?_
  refine tr_gf 79 _ 9 3 vs0 _ rfl rfl (hh_rd m0) p0 ?_
  exact tl_ret hL .ireturn 1 (some (.int y0)) rfl rfl rfl rfl hr
theorem sg_J4_length_8abf5_r_0 {g : tr_g} {d : Nat} {h : ev_AH} {r : ev_O × ev_AH} {a0 : Nat} {h1 : ev_AH} {v0 : Int32} {vs0 : List Value} (hL : hh_L h) (m0 : h.1[a0]? = some (.inr (9, vs0))) (c_0 : tr_L g d m_J5_length_8abf5 0 [some (.ref (a0 + 1000))] [] h (.inl (some (.int v0)), h1)) (hr : r = (.inl (some (.int v0)), h1)) : tr_L g (d + 1) m_J4_length_8abf5 0 [some (.ref (a0 + 1000))] [] h r := by
  refine tr_s (.aload_n 0) 1 1 [some (.ref (a0 + 1000))] [.ref (a0 + 1000)] h rfl rfl rfl ?_
  refine tr_call (.invokespecial 343) 343 7 0 9 m_J5_length_8abf5 [.ref (a0 + 1000)] [] (some (.int v0)) h1 rfl rfl rfl rfl rfl rfl rfl rfl rfl (tr_cok rfl (Or.inr ⟨_, _, rfl, tr_rc (hh_rd m0) (by decide)⟩)) c_0 ?_
  have hL0 := c_0.2
  exact tl_ret hL0 .ireturn 1 (some (.int v0)) rfl rfl rfl rfl hr
theorem sg_J5_getValue_6d5f1_r_0 {g : tr_g} {d : Nat} {h : ev_AH} {r : ev_O × ev_AH} {a0 c0 : Nat} {vs0 : List Value} (hL : hh_L h) (m0 : h.1[a0]? = some (.inr (9, vs0))) (p0 : vs0[0]? = some (.ref (c0 + 1000))) (hr : r = (.inl (some (.ref (c0 + 1000))), h)) : tr_L g d m_J5_getValue_6d5f1 0 [some (.ref (a0 + 1000))] [] h r := by
  refine tr_s (.aload_n 0) 1 1 [some (.ref (a0 + 1000))] [.ref (a0 + 1000)] h rfl rfl rfl ?_
  refine tr_gf 15 _ 9 0 vs0 _ rfl rfl (hh_rd m0) p0 ?_
  exact tl_ret hL .areturn 1 (some (.ref (c0 + 1000))) rfl rfl rfl rfl hr
theorem sg_J5_ensureCapacityInternal_d00df_r_0 {g : tr_g} {d : Nat} {h : ev_AH} {r : ev_O × ev_AH} {a0 c0 : Nat} {x1 y0 : Int32} {vs0 : List Value} {l0 : List Int32} (hL : hh_L h) (m0 : h.1[a0]? = some (.inr (9, vs0))) (p0 : vs0[0]? = some (.ref (c0 + 1000))) (m1 : h.1[c0]? = some (.inl (2, l0))) (z0 : l0.length < 2147483648) (p1 : vs0[1]? = some (.int y0)) (t : (x1 - ((Int32.ofNat l0.length) >>> (y0 &&& 31))) ≤ 0 → tr_L g d m_J5_ensureCapacityInternal_d00df 38 [some (.ref (a0 + 1000)), some (.int x1), some (.int ((Int32.ofNat l0.length) >>> (y0 &&& 31)))] [] h r) (f : 0 < (x1 - ((Int32.ofNat l0.length) >>> (y0 &&& 31))) → tr_L g d m_J5_ensureCapacityInternal_d00df 17 [some (.ref (a0 + 1000)), some (.int x1), some (.int ((Int32.ofNat l0.length) >>> (y0 &&& 31)))] [] h r) : tr_L g d m_J5_ensureCapacityInternal_d00df 0 [some (.ref (a0 + 1000)), some (.int x1), none] [] h r := by
  refine tr_s (.aload_n 0) 1 1 [some (.ref (a0 + 1000)), some (.int x1), none] [.ref (a0 + 1000)] h rfl rfl rfl ?_
  refine tr_gf 15 _ 9 0 vs0 _ rfl rfl (hh_rd m0) p0 ?_
  refine tr_alen _ 2 l0 rfl (hh_rd m1) (by decide) ?_
  refine tr_s (.aload_n 0) 1 6 [some (.ref (a0 + 1000)), some (.int x1), none] [.ref (a0 + 1000), .int (Int32.ofNat l0.length)] h rfl rfl rfl ?_
  refine tr_gf 22 _ 9 1 vs0 _ rfl rfl (hh_rd m0) p1 ?_
  refine tr_s .ishr 1 10 [some (.ref (a0 + 1000)), some (.int x1), none] [.int ((Int32.ofNat l0.length) >>> (y0 &&& 31))] h rfl rfl rfl ?_
  refine tr_st (.istore_n 2) 1 2 0 (.int ((Int32.ofNat l0.length) >>> (y0 &&& 31))) rfl rfl rfl rfl rfl rfl rfl ?_
  refine tr_s (.iload_n 1) 1 12 [some (.ref (a0 + 1000)), some (.int x1), some (.int ((Int32.ofNat l0.length) >>> (y0 &&& 31)))] [.int x1] h rfl rfl rfl ?_
  refine tr_s (.iload_n 2) 1 13 [some (.ref (a0 + 1000)), some (.int x1), some (.int ((Int32.ofNat l0.length) >>> (y0 &&& 31)))] [.int ((Int32.ofNat l0.length) >>> (y0 &&& 31)), .int x1] h rfl rfl rfl ?_
  refine tr_s .isub 1 14 [some (.ref (a0 + 1000)), some (.int x1), some (.int ((Int32.ofNat l0.length) >>> (y0 &&& 31)))] [.int (x1 - ((Int32.ofNat l0.length) >>> (y0 &&& 31)))] h rfl rfl rfl ?_
  exact tr_if1 .le 24 38 (x1 - ((Int32.ofNat l0.length) >>> (y0 &&& 31))) rfl rfl rfl (fun hc => t ((tr_le hc).1 rfl)) (fun hc => f ((tr_le hc).2 rfl))
theorem sg_J5_ensureCapacityInternal_d00df_r_17 {g : tr_g} {d : Nat} {h : ev_AH} {r : ev_O × ev_AH} {a0 c0 c1 : Nat} {x1 v0 y0 : Int32} {w2 : Option Value} {vs0 vs1 vs2 : List Value} {h1 h2 h3 : ev_AH} (hL : hh_L h) (m0 : h.1[a0]? = some (.inr (9, vs0))) (p0 : vs0[0]? = some (.ref (c0 + 1000))) (c_0 : tr_L g d m_J5_newCapacity_0f7a4 0 [some (.ref (a0 + 1000)), some (.int x1), none, none, none, none] [] h (.inl (some (.int v0)), h1)) (m1 : h1.1[a0]? = some (.inr (9, vs1))) (p1 : vs1[1]? = some (.int y0)) (c_1 : tr_L g d m_J7_copyOf_9075b 0 [some (.ref (c0 + 1000)), some (.int (v0 <<< (y0 &&& 31))), none] [] h1 (.inl (some (.ref (c1 + 1000))), h2)) (m2 : h2.1[a0]? = some (.inr (9, vs2))) (q0 : 0 < vs2.length) (eh0 : h3 = ev_wr h2 (a0 + 1000) (.inr (9, vs2.set 0 (.ref (c1 + 1000))))) (hLs0 : hh_L h3) (hr : r = (.inl (none), h3)) : tr_L g (d + 1) m_J5_ensureCapacityInternal_d00df 17 [some (.ref (a0 + 1000)), some (.int x1), w2] [] h r := by
  refine tr_s (.aload_n 0) 1 18 [some (.ref (a0 + 1000)), some (.int x1), w2] [.ref (a0 + 1000)] h rfl rfl rfl ?_
  refine tr_s (.aload_n 0) 1 19 [some (.ref (a0 + 1000)), some (.int x1), w2] [.ref (a0 + 1000), .ref (a0 + 1000)] h rfl rfl rfl ?_
  refine tr_gf 15 _ 9 0 vs0 _ rfl rfl (hh_rd m0) p0 ?_
  refine tr_s (.aload_n 0) 1 23 [some (.ref (a0 + 1000)), some (.int x1), w2] [.ref (a0 + 1000), .ref (c0 + 1000), .ref (a0 + 1000)] h rfl rfl rfl ?_
  refine tr_s (.iload_n 1) 1 24 [some (.ref (a0 + 1000)), some (.int x1), w2] [.int x1, .ref (a0 + 1000), .ref (c0 + 1000), .ref (a0 + 1000)] h rfl rfl rfl ?_
  refine tr_call (.invokevirtual 104) 104 0 1 9 m_J5_newCapacity_0f7a4 [.ref (a0 + 1000), .int x1] [.ref (c0 + 1000), .ref (a0 + 1000)] (some (.int v0)) h1 rfl rfl rfl rfl rfl rfl rfl rfl rfl (tr_cok rfl (Or.inr ⟨_, _, rfl, tr_rc (hh_rd m0) (by decide)⟩)) c_0 ?_
  have hL0 := c_0.2
  refine tr_s (.aload_n 0) 1 28 [some (.ref (a0 + 1000)), some (.int x1), w2] [.ref (a0 + 1000), .int v0, .ref (c0 + 1000), .ref (a0 + 1000)] h1 rfl rfl rfl ?_
  refine tr_gf 22 _ 9 1 vs1 _ rfl rfl (hh_rd m1) p1 ?_
  refine tr_s .ishl 1 32 [some (.ref (a0 + 1000)), some (.int x1), w2] [.int (v0 <<< (y0 &&& 31)), .ref (c0 + 1000), .ref (a0 + 1000)] h1 rfl rfl rfl ?_
  refine tr_call (.invokestatic 108) 108 2 2 0 m_J7_copyOf_9075b [.ref (c0 + 1000), .int (v0 <<< (y0 &&& 31))] [.ref (a0 + 1000)] (some (.ref (c1 + 1000))) h2 rfl rfl rfl rfl rfl rfl rfl rfl rfl (tr_cok rfl (Or.inl rfl)) c_1 ?_
  have hL1 := c_1.2
  refine tr_pf 15 (a0 + 1000) 9 0 vs2 (.ref (c1 + 1000)) _ rfl rfl (by omega) (by rw [Nat.add_sub_cancel]; exact m2) rfl q0 tr_okr ?_
  rw [← eh0]
  exact tl_ret hLs0 .return_ 1 none rfl rfl rfl rfl hr
theorem sg_J5_ensureCapacityInternal_d00df_r_38 {g : tr_g} {d : Nat} {h : ev_AH} {r : ev_O × ev_AH} {w0 w1 w2 : Option Value} (hL : hh_L h) (hr : r = (.inl (none), h)) : tr_L g d m_J5_ensureCapacityInternal_d00df 38 [w0, w1, w2] [] h r := by
  exact tl_ret hL .return_ 1 none rfl rfl rfl rfl hr
theorem sg_J5_newCapacity_0f7a4_r_0 {g : tr_g} {d : Nat} {h : ev_AH} {r : ev_O × ev_AH} {a0 c0 : Nat} {x1 y0 v0 : Int32} {vs0 : List Value} {l0 : List Int32} {h1 : ev_AH} (hL : hh_L h) (m0 : h.1[a0]? = some (.inr (9, vs0))) (p0 : vs0[0]? = some (.ref (c0 + 1000))) (m1 : h.1[c0]? = some (.inl (2, l0))) (z0 : l0.length < 2147483648) (p1 : vs0[1]? = some (.int y0)) (c_0 : tr_L g d m_J8_newLength_cabcc 0 [some (.int (Int32.ofNat l0.length)), some (.int ((x1 <<< (y0 &&& 31)) - (Int32.ofNat l0.length))), some (.int ((Int32.ofNat l0.length) + (2 <<< (y0 &&& 31)))), none] [] h (.inl (some (.int v0)), h1)) (t : v0 ≠ 2147483647 → tr_L g (d + 1) m_J5_newCapacity_0f7a4 51 [some (.ref (a0 + 1000)), some (.int x1), some (.int (Int32.ofNat l0.length)), some (.int (x1 <<< (y0 &&& 31))), some (.int ((x1 <<< (y0 &&& 31)) - (Int32.ofNat l0.length))), some (.int v0)] [] h1 r) (f : v0 = 2147483647 → tr_L g (d + 1) m_J5_newCapacity_0f7a4 41 [some (.ref (a0 + 1000)), some (.int x1), some (.int (Int32.ofNat l0.length)), some (.int (x1 <<< (y0 &&& 31))), some (.int ((x1 <<< (y0 &&& 31)) - (Int32.ofNat l0.length))), some (.int v0)] [] h1 r) : tr_L g (d + 1) m_J5_newCapacity_0f7a4 0 [some (.ref (a0 + 1000)), some (.int x1), none, none, none, none] [] h r := by
  refine tr_s (.aload_n 0) 1 1 [some (.ref (a0 + 1000)), some (.int x1), none, none, none, none] [.ref (a0 + 1000)] h rfl rfl rfl ?_
  refine tr_gf 15 _ 9 0 vs0 _ rfl rfl (hh_rd m0) p0 ?_
  refine tr_alen _ 2 l0 rfl (hh_rd m1) (by decide) ?_
  refine tr_st (.istore_n 2) 1 2 0 (.int (Int32.ofNat l0.length)) rfl rfl rfl rfl rfl rfl rfl ?_
  refine tr_s (.iload_n 1) 1 7 [some (.ref (a0 + 1000)), some (.int x1), some (.int (Int32.ofNat l0.length)), none, none, none] [.int x1] h rfl rfl rfl ?_
  refine tr_s (.aload_n 0) 1 8 [some (.ref (a0 + 1000)), some (.int x1), some (.int (Int32.ofNat l0.length)), none, none, none] [.ref (a0 + 1000), .int x1] h rfl rfl rfl ?_
  refine tr_gf 22 _ 9 1 vs0 _ rfl rfl (hh_rd m0) p1 ?_
  refine tr_s .ishl 1 12 [some (.ref (a0 + 1000)), some (.int x1), some (.int (Int32.ofNat l0.length)), none, none, none] [.int (x1 <<< (y0 &&& 31))] h rfl rfl rfl ?_
  refine tr_st (.istore_n 3) 1 3 0 (.int (x1 <<< (y0 &&& 31))) rfl rfl rfl rfl rfl rfl rfl ?_
  refine tr_s (.iload_n 3) 1 14 [some (.ref (a0 + 1000)), some (.int x1), some (.int (Int32.ofNat l0.length)), some (.int (x1 <<< (y0 &&& 31))), none, none] [.int (x1 <<< (y0 &&& 31))] h rfl rfl rfl ?_
  refine tr_s (.iload_n 2) 1 15 [some (.ref (a0 + 1000)), some (.int x1), some (.int (Int32.ofNat l0.length)), some (.int (x1 <<< (y0 &&& 31))), none, none] [.int (Int32.ofNat l0.length), .int (x1 <<< (y0 &&& 31))] h rfl rfl rfl ?_
  refine tr_s .isub 1 16 [some (.ref (a0 + 1000)), some (.int x1), some (.int (Int32.ofNat l0.length)), some (.int (x1 <<< (y0 &&& 31))), none, none] [.int ((x1 <<< (y0 &&& 31)) - (Int32.ofNat l0.length))] h rfl rfl rfl ?_
  refine tr_st (.istore 4) 2 4 0 (.int ((x1 <<< (y0 &&& 31)) - (Int32.ofNat l0.length))) rfl rfl rfl rfl rfl rfl rfl ?_
  refine tr_s (.iload_n 2) 1 19 [some (.ref (a0 + 1000)), some (.int x1), some (.int (Int32.ofNat l0.length)), some (.int (x1 <<< (y0 &&& 31))), some (.int ((x1 <<< (y0 &&& 31)) - (Int32.ofNat l0.length))), none] [.int (Int32.ofNat l0.length)] h rfl rfl rfl ?_
  refine tr_s (.iload 4) 2 21 [some (.ref (a0 + 1000)), some (.int x1), some (.int (Int32.ofNat l0.length)), some (.int (x1 <<< (y0 &&& 31))), some (.int ((x1 <<< (y0 &&& 31)) - (Int32.ofNat l0.length))), none] [.int ((x1 <<< (y0 &&& 31)) - (Int32.ofNat l0.length)), .int (Int32.ofNat l0.length)] h rfl rfl rfl ?_
  refine tr_s (.iload_n 2) 1 22 [some (.ref (a0 + 1000)), some (.int x1), some (.int (Int32.ofNat l0.length)), some (.int (x1 <<< (y0 &&& 31))), some (.int ((x1 <<< (y0 &&& 31)) - (Int32.ofNat l0.length))), none] [.int (Int32.ofNat l0.length), .int ((x1 <<< (y0 &&& 31)) - (Int32.ofNat l0.length)), .int (Int32.ofNat l0.length)] h rfl rfl rfl ?_
  refine tr_ic 2 2 (by decide) rfl ?_
  refine tr_s (.aload_n 0) 1 24 [some (.ref (a0 + 1000)), some (.int x1), some (.int (Int32.ofNat l0.length)), some (.int (x1 <<< (y0 &&& 31))), some (.int ((x1 <<< (y0 &&& 31)) - (Int32.ofNat l0.length))), none] [.ref (a0 + 1000), .int 2, .int (Int32.ofNat l0.length), .int ((x1 <<< (y0 &&& 31)) - (Int32.ofNat l0.length)), .int (Int32.ofNat l0.length)] h rfl rfl rfl ?_
  refine tr_gf 22 _ 9 1 vs0 _ rfl rfl (hh_rd m0) p1 ?_
  refine tr_s .ishl 1 28 [some (.ref (a0 + 1000)), some (.int x1), some (.int (Int32.ofNat l0.length)), some (.int (x1 <<< (y0 &&& 31))), some (.int ((x1 <<< (y0 &&& 31)) - (Int32.ofNat l0.length))), none] [.int (2 <<< (y0 &&& 31)), .int (Int32.ofNat l0.length), .int ((x1 <<< (y0 &&& 31)) - (Int32.ofNat l0.length)), .int (Int32.ofNat l0.length)] h rfl rfl rfl ?_
  refine tr_s .iadd 1 29 [some (.ref (a0 + 1000)), some (.int x1), some (.int (Int32.ofNat l0.length)), some (.int (x1 <<< (y0 &&& 31))), some (.int ((x1 <<< (y0 &&& 31)) - (Int32.ofNat l0.length))), none] [.int ((Int32.ofNat l0.length) + (2 <<< (y0 &&& 31))), .int ((x1 <<< (y0 &&& 31)) - (Int32.ofNat l0.length)), .int (Int32.ofNat l0.length)] h rfl rfl rfl ?_
  refine tr_call (.invokestatic 114) 114 2 3 0 m_J8_newLength_cabcc [.int (Int32.ofNat l0.length), .int ((x1 <<< (y0 &&& 31)) - (Int32.ofNat l0.length)), .int ((Int32.ofNat l0.length) + (2 <<< (y0 &&& 31)))] [] (some (.int v0)) h1 rfl rfl rfl rfl rfl rfl rfl rfl rfl (tr_cok rfl (Or.inl rfl)) c_0 ?_
  have hL0 := c_0.2
  refine tr_st (.istore 5) 2 5 0 (.int v0) rfl rfl rfl rfl rfl rfl rfl ?_
  refine tr_s (.iload 5) 2 36 [some (.ref (a0 + 1000)), some (.int x1), some (.int (Int32.ofNat l0.length)), some (.int (x1 <<< (y0 &&& 31))), some (.int ((x1 <<< (y0 &&& 31)) - (Int32.ofNat l0.length))), some (.int v0)] [.int v0] h1 rfl rfl rfl ?_
  refine tr_s (.ldc 39) 2 38 [some (.ref (a0 + 1000)), some (.int x1), some (.int (Int32.ofNat l0.length)), some (.int (x1 <<< (y0 &&& 31))), some (.int ((x1 <<< (y0 &&& 31)) - (Int32.ofNat l0.length))), some (.int v0)] [.int 2147483647, .int v0] h1 rfl rfl rfl ?_
  exact tr_if2 .ne 13 51 v0 2147483647 rfl rfl rfl (fun hc => t ((tr_ne hc).1 rfl)) (fun hc => f ((tr_ne hc).2 rfl))
theorem sg_J5_newCapacity_0f7a4_r_51 {g : tr_g} {d : Nat} {h : ev_AH} {r : ev_O × ev_AH} {a0 : Nat} {w1 w2 w3 w4 : Option Value} {x5 y0 : Int32} {vs0 : List Value} (hL : hh_L h) (m0 : h.1[a0]? = some (.inr (9, vs0))) (p0 : vs0[1]? = some (.int y0)) (hr : r = (.inl (some (.int (x5 >>> (y0 &&& 31)))), h)) : tr_L g d m_J5_newCapacity_0f7a4 51 [some (.ref (a0 + 1000)), w1, w2, w3, w4, some (.int x5)] [] h r := by
  refine tr_s (.iload 5) 2 53 [some (.ref (a0 + 1000)), w1, w2, w3, w4, some (.int x5)] [.int x5] h rfl rfl rfl ?_
  refine tr_s (.aload_n 0) 1 54 [some (.ref (a0 + 1000)), w1, w2, w3, w4, some (.int x5)] [.ref (a0 + 1000), .int x5] h rfl rfl rfl ?_
  refine tr_gf 22 _ 9 1 vs0 _ rfl rfl (hh_rd m0) p0 ?_
  refine tr_s .ishr 1 58 [some (.ref (a0 + 1000)), w1, w2, w3, w4, some (.int x5)] [.int (x5 >>> (y0 &&& 31))] h rfl rfl rfl ?_
  exact tl_ret hL .ireturn 1 (some (.int (x5 >>> (y0 &&& 31)))) rfl rfl rfl rfl hr
theorem sg_J5_append_3fe6f_r_0 {g : tr_g} {d : Nat} {h : ev_AH} {r : ev_O × ev_AH} {a0 : Nat} {x1 y0 v0 : Int32} {vs0 vs1 : List Value} {h1 h2 : ev_AH} (hL : hh_L h) (m0 : h.1[a0]? = some (.inr (9, vs0))) (p0 : vs0[3]? = some (.int y0)) (c_0 : tr_L g d m_J5_ensureCapacityInternal_d00df 0 [some (.ref (a0 + 1000)), some (.int (y0 + 1)), none] [] h (.inl none, h1)) (m1 : h1.1[a0]? = some (.inr (9, vs1))) (c_1 : tr_L g d m_J5_isLatin1_aae02 0 [some (.ref (a0 + 1000))] [] h1 (.inl (some (.int v0)), h2)) (t : v0 = 0 → tr_L g (d + 1) m_J5_append_3fe6f 45 [some (.ref (a0 + 1000)), some (.int x1)] [] h2 r) (f : v0 ≠ 0 → tr_L g (d + 1) m_J5_append_3fe6f 17 [some (.ref (a0 + 1000)), some (.int x1)] [] h2 r) : tr_L g (d + 1) m_J5_append_3fe6f 0 [some (.ref (a0 + 1000)), some (.int x1)] [] h r := by
  refine tr_s (.aload_n 0) 1 1 [some (.ref (a0 + 1000)), some (.int x1)] [.ref (a0 + 1000)] h rfl rfl rfl ?_
  refine tr_s (.aload_n 0) 1 2 [some (.ref (a0 + 1000)), some (.int x1)] [.ref (a0 + 1000), .ref (a0 + 1000)] h rfl rfl rfl ?_
  refine tr_gf 79 _ 9 3 vs0 _ rfl rfl (hh_rd m0) p0 ?_
  refine tr_ic 1 1 (by decide) rfl ?_
  refine tr_s .iadd 1 7 [some (.ref (a0 + 1000)), some (.int x1)] [.int (y0 + 1), .ref (a0 + 1000)] h rfl rfl rfl ?_
  refine tr_call (.invokevirtual 100) 100 0 1 9 m_J5_ensureCapacityInternal_d00df [.ref (a0 + 1000), .int (y0 + 1)] [] none h1 rfl rfl rfl rfl rfl rfl rfl rfl rfl (tr_cok rfl (Or.inr ⟨_, _, rfl, tr_rc (hh_rd m0) (by decide)⟩)) c_0 ?_
  have hL0 := c_0.2
  refine tr_s (.aload_n 0) 1 11 [some (.ref (a0 + 1000)), some (.int x1)] [.ref (a0 + 1000)] h1 rfl rfl rfl ?_
  refine tr_call (.invokevirtual 83) 83 0 0 9 m_J5_isLatin1_aae02 [.ref (a0 + 1000)] [] (some (.int v0)) h2 rfl rfl rfl rfl rfl rfl rfl rfl rfl (tr_cok rfl (Or.inr ⟨_, _, rfl, tr_rc (hh_rd m1) (by decide)⟩)) c_1 ?_
  have hL1 := c_1.2
  exact tr_if1 .eq 31 45 v0 rfl rfl rfl (fun hc => t ((tr_eq hc).1 rfl)) (fun hc => f ((tr_eq hc).2 rfl))
theorem sg_J5_append_3fe6f_r_17 {g : tr_g} {d : Nat} {h : ev_AH} {r : ev_O × ev_AH} {a0 : Nat} {x1 v0 : Int32} {h1 : ev_AH} (hL : hh_L h) (c_0 : tr_L g d m_J1_canEncode_fc78d 0 [some (.int x1)] [] h (.inl (some (.int v0)), h1)) (t : v0 = 0 → tr_L g (d + 1) m_J5_append_3fe6f 45 [some (.ref (a0 + 1000)), some (.int x1)] [] h1 r) (f : v0 ≠ 0 → tr_L g (d + 1) m_J5_append_3fe6f 24 [some (.ref (a0 + 1000)), some (.int x1)] [] h1 r) : tr_L g (d + 1) m_J5_append_3fe6f 17 [some (.ref (a0 + 1000)), some (.int x1)] [] h r := by
  refine tr_s (.iload_n 1) 1 18 [some (.ref (a0 + 1000)), some (.int x1)] [.int x1] h rfl rfl rfl ?_
  refine tr_call (.invokestatic 191) 191 2 1 0 m_J1_canEncode_fc78d [.int x1] [] (some (.int v0)) h1 rfl rfl rfl rfl rfl rfl rfl rfl rfl (tr_cok rfl (Or.inl rfl)) c_0 ?_
  have hL0 := c_0.2
  exact tr_if1 .eq 24 45 v0 rfl rfl rfl (fun hc => t ((tr_eq hc).1 rfl)) (fun hc => f ((tr_eq hc).2 rfl))
theorem sg_J5_append_3fe6f_r_24 {g : tr_g} {d : Nat} {h : ev_AH} {r : ev_O × ev_AH} {a0 c0 j0 : Nat} {x1 y0 : Int32} {vs0 : List Value} {h1 h2 : ev_AH} {l0 : List Int32} (hL : hh_L h) (m0 : h.1[a0]? = some (.inr (9, vs0))) (p0 : vs0[0]? = some (.ref (c0 + 1000))) (p1 : vs0[3]? = some (.int y0)) (q0 : 3 < vs0.length) (eh0 : h1 = ev_wr h (a0 + 1000) (.inr (9, vs0.set 3 (.int (y0 + 1))))) (hLs0 : hh_L h1) (e0 : y0 = Int32.ofNat j0) (hb0 : vp_nar .byte x1.toInt8.toInt32 = x1.toInt8.toInt32) (m1 : h1.1[c0]? = some (.inl (2, l0))) (z0 : l0.length < 2147483648) (b0 : j0 < l0.length) (eh1 : h2 = ev_wr h1 (c0 + 1000) (.inl (2, l0.set j0 x1.toInt8.toInt32))) (hLs1 : hh_L h2) (hr : r = (.inl (some (.ref (a0 + 1000))), h2)) : tr_L g d m_J5_append_3fe6f 24 [some (.ref (a0 + 1000)), some (.int x1)] [] h r := by
  refine tr_s (.aload_n 0) 1 25 [some (.ref (a0 + 1000)), some (.int x1)] [.ref (a0 + 1000)] h rfl rfl rfl ?_
  refine tr_gf 15 _ 9 0 vs0 _ rfl rfl (hh_rd m0) p0 ?_
  refine tr_s (.aload_n 0) 1 29 [some (.ref (a0 + 1000)), some (.int x1)] [.ref (a0 + 1000), .ref (c0 + 1000)] h rfl rfl rfl ?_
  refine tr_s .dup 1 30 [some (.ref (a0 + 1000)), some (.int x1)] [.ref (a0 + 1000), .ref (a0 + 1000), .ref (c0 + 1000)] h rfl rfl rfl ?_
  refine tr_gf 79 _ 9 3 vs0 _ rfl rfl (hh_rd m0) p1 ?_
  refine tr_s .dup_x1 1 34 [some (.ref (a0 + 1000)), some (.int x1)] [.int y0, .ref (a0 + 1000), .int y0, .ref (c0 + 1000)] h rfl rfl rfl ?_
  refine tr_ic 1 1 (by decide) rfl ?_
  refine tr_s .iadd 1 36 [some (.ref (a0 + 1000)), some (.int x1)] [.int (y0 + 1), .ref (a0 + 1000), .int y0, .ref (c0 + 1000)] h rfl rfl rfl ?_
  refine tr_pf 79 (a0 + 1000) 9 3 vs0 (.int (y0 + 1)) _ rfl rfl (by omega) (by rw [Nat.add_sub_cancel]; exact m0) rfl q0 tr_oki ?_
  rw [← eh0]
  refine tr_s (.iload_n 1) 1 40 [some (.ref (a0 + 1000)), some (.int x1)] [.int x1, .int y0, .ref (c0 + 1000)] h1 rfl rfl rfl ?_
  refine tr_s .i2b 1 41 [some (.ref (a0 + 1000)), some (.int x1)] [.int x1.toInt8.toInt32, .int y0, .ref (c0 + 1000)] h1 rfl rfl rfl ?_
  refine tr_bas (c0 + 1000) j0 y0 x1.toInt8.toInt32 l0 rfl (by omega) (by rw [Nat.add_sub_cancel]; exact m1) e0 b0 z0 hb0 ?_
  rw [← eh1]
  refine tr_goto 33 75 rfl rfl rfl ?_
  refine tr_s (.aload_n 0) 1 76 [some (.ref (a0 + 1000)), some (.int x1)] [.ref (a0 + 1000)] h2 rfl rfl rfl ?_
  exact tl_ret hLs1 .areturn 1 (some (.ref (a0 + 1000))) rfl rfl rfl rfl hr
theorem sg_J5_append_3fe6f_r_45 {g : tr_g} {d : Nat} {h : ev_AH} {r : ev_O × ev_AH} {a0 : Nat} {x1 v0 : Int32} {h1 : ev_AH} {vs0 : List Value} (hL : hh_L h) (m0 : h.1[a0]? = some (.inr (9, vs0))) (c_0 : tr_L g d m_J5_isLatin1_aae02 0 [some (.ref (a0 + 1000))] [] h (.inl (some (.int v0)), h1)) (t : v0 = 0 → tr_L g (d + 1) m_J5_append_3fe6f 56 [some (.ref (a0 + 1000)), some (.int x1)] [] h1 r) (f : v0 ≠ 0 → tr_L g (d + 1) m_J5_append_3fe6f 52 [some (.ref (a0 + 1000)), some (.int x1)] [] h1 r) : tr_L g (d + 1) m_J5_append_3fe6f 45 [some (.ref (a0 + 1000)), some (.int x1)] [] h r := by
  refine tr_s (.aload_n 0) 1 46 [some (.ref (a0 + 1000)), some (.int x1)] [.ref (a0 + 1000)] h rfl rfl rfl ?_
  refine tr_call (.invokevirtual 83) 83 0 0 9 m_J5_isLatin1_aae02 [.ref (a0 + 1000)] [] (some (.int v0)) h1 rfl rfl rfl rfl rfl rfl rfl rfl rfl (tr_cok rfl (Or.inr ⟨_, _, rfl, tr_rc (hh_rd m0) (by decide)⟩)) c_0 ?_
  have hL0 := c_0.2
  exact tr_if1 .eq 7 56 v0 rfl rfl rfl (fun hc => t ((tr_eq hc).1 rfl)) (fun hc => f ((tr_eq hc).2 rfl))
theorem sg_J4_append_cf468_r_0 {g : tr_g} {d : Nat} {h : ev_AH} {r : ev_O × ev_AH} {a0 : Nat} {x1 : Int32} {h1 : ev_AH} {vs0 : List Value} (hL : hh_L h) (m0 : h.1[a0]? = some (.inr (9, vs0))) (c_0 : tr_L g d m_J5_append_3fe6f 0 [some (.ref (a0 + 1000)), some (.int x1)] [] h (.inl (some (.ref (a0 + 1000))), h1)) (hr : r = (.inl (some (.ref (a0 + 1000))), h1)) : tr_L g (d + 1) m_J4_append_cf468 0 [some (.ref (a0 + 1000)), some (.int x1)] [] h r := by
  refine tr_s (.aload_n 0) 1 1 [some (.ref (a0 + 1000)), some (.int x1)] [.ref (a0 + 1000)] h rfl rfl rfl ?_
  refine tr_s (.iload_n 1) 1 2 [some (.ref (a0 + 1000)), some (.int x1)] [.int x1, .ref (a0 + 1000)] h rfl rfl rfl ?_
  refine tr_call (.invokespecial 50) 50 7 1 9 m_J5_append_3fe6f [.ref (a0 + 1000), .int x1] [] (some (.ref (a0 + 1000))) h1 rfl rfl rfl rfl rfl rfl rfl rfl rfl (tr_cok rfl (Or.inr ⟨_, _, rfl, tr_rc (hh_rd m0) (by decide)⟩)) c_0 ?_
  have hL0 := c_0.2
  refine tr_s .pop 1 6 [some (.ref (a0 + 1000)), some (.int x1)] [] h1 rfl rfl rfl ?_
  refine tr_s (.aload_n 0) 1 7 [some (.ref (a0 + 1000)), some (.int x1)] [.ref (a0 + 1000)] h1 rfl rfl rfl ?_
  exact tl_ret hL0 .areturn 1 (some (.ref (a0 + 1000))) rfl rfl rfl rfl hr
theorem sg_J5_append_c97b9_r_0 {g : tr_g} {d : Nat} {h : ev_AH} {r : ev_O × ev_AH} {a0 : Nat} {x1 y0 v0 v1 : Int32} {vs0 vs1 vs2 : List Value} {h1 h2 h3 : ev_AH} (hL : hh_L h) (m0 : h.1[a0]? = some (.inr (9, vs0))) (p0 : vs0[3]? = some (.int y0)) (c_0 : tr_L g d m_J6_stringSize_0f7a4 0 [some (.int x1), none, none, none] [] h (.inl (some (.int v0)), h1)) (m1 : h1.1[a0]? = some (.inr (9, vs1))) (c_1 : tr_L g d m_J5_ensureCapacityInternal_d00df 0 [some (.ref (a0 + 1000)), some (.int (y0 + v0)), none] [] h1 (.inl none, h2)) (m2 : h2.1[a0]? = some (.inr (9, vs2))) (c_2 : tr_L g d m_J5_isLatin1_aae02 0 [some (.ref (a0 + 1000))] [] h2 (.inl (some (.int v1)), h3)) (t : v1 = 0 → tr_L g (d + 1) m_J5_append_c97b9 37 [some (.ref (a0 + 1000)), some (.int x1), some (.int y0), some (.int (y0 + v0))] [] h3 r) (f : v1 ≠ 0 → tr_L g (d + 1) m_J5_append_c97b9 24 [some (.ref (a0 + 1000)), some (.int x1), some (.int y0), some (.int (y0 + v0))] [] h3 r) : tr_L g (d + 1) m_J5_append_c97b9 0 [some (.ref (a0 + 1000)), some (.int x1), none, none] [] h r := by
  refine tr_s (.aload_n 0) 1 1 [some (.ref (a0 + 1000)), some (.int x1), none, none] [.ref (a0 + 1000)] h rfl rfl rfl ?_
  refine tr_gf 79 _ 9 3 vs0 _ rfl rfl (hh_rd m0) p0 ?_
  refine tr_st (.istore_n 2) 1 2 0 (.int y0) rfl rfl rfl rfl rfl rfl rfl ?_
  refine tr_s (.iload_n 2) 1 6 [some (.ref (a0 + 1000)), some (.int x1), some (.int y0), none] [.int y0] h rfl rfl rfl ?_
  refine tr_s (.iload_n 1) 1 7 [some (.ref (a0 + 1000)), some (.int x1), some (.int y0), none] [.int x1, .int y0] h rfl rfl rfl ?_
  refine tr_call (.invokestatic 245) 245 2 1 0 m_J6_stringSize_0f7a4 [.int x1] [.int y0] (some (.int v0)) h1 rfl rfl rfl rfl rfl rfl rfl rfl rfl (tr_cok rfl (Or.inl rfl)) c_0 ?_
  have hL0 := c_0.2
  refine tr_s .iadd 1 11 [some (.ref (a0 + 1000)), some (.int x1), some (.int y0), none] [.int (y0 + v0)] h1 rfl rfl rfl ?_
  refine tr_st (.istore_n 3) 1 3 0 (.int (y0 + v0)) rfl rfl rfl rfl rfl rfl rfl ?_
  refine tr_s (.aload_n 0) 1 13 [some (.ref (a0 + 1000)), some (.int x1), some (.int y0), some (.int (y0 + v0))] [.ref (a0 + 1000)] h1 rfl rfl rfl ?_
  refine tr_s (.iload_n 3) 1 14 [some (.ref (a0 + 1000)), some (.int x1), some (.int y0), some (.int (y0 + v0))] [.int (y0 + v0), .ref (a0 + 1000)] h1 rfl rfl rfl ?_
  refine tr_call (.invokevirtual 100) 100 0 1 9 m_J5_ensureCapacityInternal_d00df [.ref (a0 + 1000), .int (y0 + v0)] [] none h2 rfl rfl rfl rfl rfl rfl rfl rfl rfl (tr_cok rfl (Or.inr ⟨_, _, rfl, tr_rc (hh_rd m1) (by decide)⟩)) c_1 ?_
  have hL1 := c_1.2
  refine tr_s (.aload_n 0) 1 18 [some (.ref (a0 + 1000)), some (.int x1), some (.int y0), some (.int (y0 + v0))] [.ref (a0 + 1000)] h2 rfl rfl rfl ?_
  refine tr_call (.invokevirtual 83) 83 0 0 9 m_J5_isLatin1_aae02 [.ref (a0 + 1000)] [] (some (.int v1)) h3 rfl rfl rfl rfl rfl rfl rfl rfl rfl (tr_cok rfl (Or.inr ⟨_, _, rfl, tr_rc (hh_rd m2) (by decide)⟩)) c_2 ?_
  have hL2 := c_2.2
  exact tr_if1 .eq 16 37 v1 rfl rfl rfl (fun hc => t ((tr_eq hc).1 rfl)) (fun hc => f ((tr_eq hc).2 rfl))
theorem sg_J5_append_c97b9_r_24 {g : tr_g} {d : Nat} {h : ev_AH} {r : ev_O × ev_AH} {a0 c0 : Nat} {x1 x3 v0 : Int32} {w2 : Option Value} {vs0 vs1 : List Value} {h1 h2 : ev_AH} (hL : hh_L h) (m0 : h.1[a0]? = some (.inr (9, vs0))) (p0 : vs0[0]? = some (.ref (c0 + 1000))) (c_0 : tr_L g d m_J6_getChars_ba4f3 0 [some (.int x1), some (.int x3), some (.ref (c0 + 1000)), none, none, none, none] [] h (.inl (some (.int v0)), h1)) (m1 : h1.1[a0]? = some (.inr (9, vs1))) (q0 : 3 < vs1.length) (eh0 : h2 = ev_wr h1 (a0 + 1000) (.inr (9, vs1.set 3 (.int x3)))) (hLs0 : hh_L h2) (hr : r = (.inl (some (.ref (a0 + 1000))), h2)) : tr_L g (d + 1) m_J5_append_c97b9 24 [some (.ref (a0 + 1000)), some (.int x1), w2, some (.int x3)] [] h r := by
  refine tr_s (.iload_n 1) 1 25 [some (.ref (a0 + 1000)), some (.int x1), w2, some (.int x3)] [.int x1] h rfl rfl rfl ?_
  refine tr_s (.iload_n 3) 1 26 [some (.ref (a0 + 1000)), some (.int x1), w2, some (.int x3)] [.int x3, .int x1] h rfl rfl rfl ?_
  refine tr_s (.aload_n 0) 1 27 [some (.ref (a0 + 1000)), some (.int x1), w2, some (.int x3)] [.ref (a0 + 1000), .int x3, .int x1] h rfl rfl rfl ?_
  refine tr_gf 15 _ 9 0 vs0 _ rfl rfl (hh_rd m0) p0 ?_
  refine tr_call (.invokestatic 248) 248 2 3 0 m_J6_getChars_ba4f3 [.int x1, .int x3, .ref (c0 + 1000)] [] (some (.int v0)) h1 rfl rfl rfl rfl rfl rfl rfl rfl rfl (tr_cok rfl (Or.inl rfl)) c_0 ?_
  have hL0 := c_0.2
  refine tr_s .pop 1 34 [some (.ref (a0 + 1000)), some (.int x1), w2, some (.int x3)] [] h1 rfl rfl rfl ?_
  refine tr_goto 14 48 rfl rfl rfl ?_
  refine tr_s (.aload_n 0) 1 49 [some (.ref (a0 + 1000)), some (.int x1), w2, some (.int x3)] [.ref (a0 + 1000)] h1 rfl rfl rfl ?_
  refine tr_s (.iload_n 3) 1 50 [some (.ref (a0 + 1000)), some (.int x1), w2, some (.int x3)] [.int x3, .ref (a0 + 1000)] h1 rfl rfl rfl ?_
  refine tr_pf 79 (a0 + 1000) 9 3 vs1 (.int x3) _ rfl rfl (by omega) (by rw [Nat.add_sub_cancel]; exact m1) rfl q0 tr_oki ?_
  rw [← eh0]
  refine tr_s (.aload_n 0) 1 54 [some (.ref (a0 + 1000)), some (.int x1), w2, some (.int x3)] [.ref (a0 + 1000)] h2 rfl rfl rfl ?_
  exact tl_ret hLs0 .areturn 1 (some (.ref (a0 + 1000))) rfl rfl rfl rfl hr
theorem sg_J4_append_bf812_r_0 {g : tr_g} {d : Nat} {h : ev_AH} {r : ev_O × ev_AH} {a0 : Nat} {x1 : Int32} {h1 : ev_AH} {vs0 : List Value} (hL : hh_L h) (m0 : h.1[a0]? = some (.inr (9, vs0))) (c_0 : tr_L g d m_J5_append_c97b9 0 [some (.ref (a0 + 1000)), some (.int x1), none, none] [] h (.inl (some (.ref (a0 + 1000))), h1)) (hr : r = (.inl (some (.ref (a0 + 1000))), h1)) : tr_L g (d + 1) m_J4_append_bf812 0 [some (.ref (a0 + 1000)), some (.int x1)] [] h r := by
  refine tr_s (.aload_n 0) 1 1 [some (.ref (a0 + 1000)), some (.int x1)] [.ref (a0 + 1000)] h rfl rfl rfl ?_
  refine tr_s (.iload_n 1) 1 2 [some (.ref (a0 + 1000)), some (.int x1)] [.int x1, .ref (a0 + 1000)] h rfl rfl rfl ?_
  refine tr_call (.invokespecial 53) 53 7 1 9 m_J5_append_c97b9 [.ref (a0 + 1000), .int x1] [] (some (.ref (a0 + 1000))) h1 rfl rfl rfl rfl rfl rfl rfl rfl rfl (tr_cok rfl (Or.inr ⟨_, _, rfl, tr_rc (hh_rd m0) (by decide)⟩)) c_0 ?_
  have hL0 := c_0.2
  refine tr_s .pop 1 6 [some (.ref (a0 + 1000)), some (.int x1)] [] h1 rfl rfl rfl ?_
  refine tr_s (.aload_n 0) 1 7 [some (.ref (a0 + 1000)), some (.int x1)] [.ref (a0 + 1000)] h1 rfl rfl rfl ?_
  exact tl_ret hL0 .areturn 1 (some (.ref (a0 + 1000))) rfl rfl rfl rfl hr
theorem sg_J0_getBytes_840e7_r_0 {g : tr_g} {d : Nat} {h : ev_AH} {r : ev_O × ev_AH} {a0 a1 : Nat} {x2 x3 v0 : Int32} {h1 : ev_AH} {vs0 : List Value} (hL : hh_L h) (m0 : ev_rd (tr_G g) h a0 = some (.inr (8, vs0))) (c_0 : tr_L g d m_J0_coder_7d493 0 [some (.ref a0)] [] h (.inl (some (.int v0)), h1)) (t : v0 ≠ x3 → tr_L g (d + 1) m_J0_getBytes_840e7 28 [some (.ref a0), some (.ref (a1 + 1000)), some (.int x2), some (.int x3)] [] h1 r) (f : v0 = x3 → tr_L g (d + 1) m_J0_getBytes_840e7 8 [some (.ref a0), some (.ref (a1 + 1000)), some (.int x2), some (.int x3)] [] h1 r) : tr_L g (d + 1) m_J0_getBytes_840e7 0 [some (.ref a0), some (.ref (a1 + 1000)), some (.int x2), some (.int x3)] [] h r := by
  refine tr_s (.aload_n 0) 1 1 [some (.ref a0), some (.ref (a1 + 1000)), some (.int x2), some (.int x3)] [.ref a0] h rfl rfl rfl ?_
  refine tr_call (.invokevirtual 335) 335 0 0 8 m_J0_coder_7d493 [.ref a0] [] (some (.int v0)) h1 rfl rfl rfl rfl rfl rfl rfl rfl rfl (tr_cok rfl (Or.inr ⟨_, _, rfl, tr_rc m0 (by decide)⟩)) c_0 ?_
  have hL0 := c_0.2
  refine tr_s (.iload_n 3) 1 5 [some (.ref a0), some (.ref (a1 + 1000)), some (.int x2), some (.int x3)] [.int x3, .int v0] h1 rfl rfl rfl ?_
  exact tr_if2 .ne 23 28 v0 x3 rfl rfl rfl (fun hc => t ((tr_ne hc).1 rfl)) (fun hc => f ((tr_ne hc).2 rfl))
theorem sg_J0_getBytes_840e7_r_8 {g : tr_g} {d : Nat} {h : ev_AH} {r : ev_O × ev_AH} {a0 a1 c0 j0 j1 : Nat} {x2 x3 : Int32} {vs0 : List Value} {l0 l1 : List Int32} {h1 : ev_AH} (hL : hh_L h) (m0 : ev_rd (tr_G g) h a0 = some (.inr (8, vs0))) (p0 : vs0[0]? = some (.ref c0)) (m1 : ev_rd (tr_G g) h c0 = some (.inl (2, l0))) (z0 : l0.length < 2147483648) (m2 : h.1[a1]? = some (.inl (2, l1))) (z1 : l1.length < 2147483648) (e0 : (Int32.ofNat l0.length) = Int32.ofNat j0) (e1 : (x2 <<< (x3 &&& 31)) = Int32.ofNat j1) (b0 : j0 ≤ l0.length) (b1 : j1 + j0 ≤ l1.length) (b2 : j1 + j0 < 2147483648) (hf0 : (l0.take j0).all (fun x => fits .byte (.int x)) = true) (eh0 : h1 = ev_wr h (a1 + 1000) (.inl (2, l1.take j1 ++ l0.take j0 ++ l1.drop (j1 + j0)))) (hLs0 : hh_L h1) (hr : r = (.inl (none), h1)) : tr_L g d m_J0_getBytes_840e7 8 [some (.ref a0), some (.ref (a1 + 1000)), some (.int x2), some (.int x3)] [] h r := by
  refine tr_s (.aload_n 0) 1 9 [some (.ref a0), some (.ref (a1 + 1000)), some (.int x2), some (.int x3)] [.ref a0] h rfl rfl rfl ?_
  refine tr_gf 9 _ 8 0 vs0 _ rfl rfl m0 p0 ?_
  refine tr_ic 0 0 (by decide) rfl ?_
  refine tr_s (.aload_n 1) 1 14 [some (.ref a0), some (.ref (a1 + 1000)), some (.int x2), some (.int x3)] [.ref (a1 + 1000), .int 0, .ref c0] h rfl rfl rfl ?_
  refine tr_s (.iload_n 2) 1 15 [some (.ref a0), some (.ref (a1 + 1000)), some (.int x2), some (.int x3)] [.int x2, .ref (a1 + 1000), .int 0, .ref c0] h rfl rfl rfl ?_
  refine tr_s (.iload_n 3) 1 16 [some (.ref a0), some (.ref (a1 + 1000)), some (.int x2), some (.int x3)] [.int x3, .int x2, .ref (a1 + 1000), .int 0, .ref c0] h rfl rfl rfl ?_
  refine tr_s .ishl 1 17 [some (.ref a0), some (.ref (a1 + 1000)), some (.int x2), some (.int x3)] [.int (x2 <<< (x3 &&& 31)), .ref (a1 + 1000), .int 0, .ref c0] h rfl rfl rfl ?_
  refine tr_s (.aload_n 0) 1 18 [some (.ref a0), some (.ref (a1 + 1000)), some (.int x2), some (.int x3)] [.ref a0, .int (x2 <<< (x3 &&& 31)), .ref (a1 + 1000), .int 0, .ref c0] h rfl rfl rfl ?_
  refine tr_gf 9 _ 8 0 vs0 _ rfl rfl m0 p0 ?_
  refine tr_alen _ 2 l0 rfl m1 (by decide) ?_
  refine tr_acpyW 212 c0 a1 l0 l1 j0 j1 (Int32.ofNat l0.length) (x2 <<< (x3 &&& 31)) rfl rfl m1 m2 e0 e1 b0 b1 b2 hf0 rfl ?_
  rw [← eh0]
  refine tr_goto 18 43 rfl rfl rfl ?_
  exact tl_ret hLs0 .return_ 1 none rfl rfl rfl rfl hr
theorem sg_J0_getBytes_840e7_r_28 {g : tr_g} {d : Nat} {h : ev_AH} {r : ev_O × ev_AH} {a0 a1 c0 : Nat} {x2 : Int32} {w3 : Option Value} {vs0 : List Value} {l0 : List Int32} {h1 : ev_AH} (hL : hh_L h) (m0 : ev_rd (tr_G g) h a0 = some (.inr (8, vs0))) (p0 : vs0[0]? = some (.ref c0)) (m1 : ev_rd (tr_G g) h c0 = some (.inl (2, l0))) (z0 : l0.length < 2147483648) (c_0 : tr_L g d m_J1_inflate_0e8fd 0 [some (.ref c0), some (.int 0), some (.ref (a1 + 1000)), some (.int x2), some (.int (Int32.ofNat l0.length))] [] h (.inl none, h1)) (hr : r = (.inl (none), h1)) : tr_L g (d + 1) m_J0_getBytes_840e7 28 [some (.ref a0), some (.ref (a1 + 1000)), some (.int x2), w3] [] h r := by
  refine tr_s (.aload_n 0) 1 29 [some (.ref a0), some (.ref (a1 + 1000)), some (.int x2), w3] [.ref a0] h rfl rfl rfl ?_
  refine tr_gf 9 _ 8 0 vs0 _ rfl rfl m0 p0 ?_
  refine tr_ic 0 0 (by decide) rfl ?_
  refine tr_s (.aload_n 1) 1 34 [some (.ref a0), some (.ref (a1 + 1000)), some (.int x2), w3] [.ref (a1 + 1000), .int 0, .ref c0] h rfl rfl rfl ?_
  refine tr_s (.iload_n 2) 1 35 [some (.ref a0), some (.ref (a1 + 1000)), some (.int x2), w3] [.int x2, .ref (a1 + 1000), .int 0, .ref c0] h rfl rfl rfl ?_
  refine tr_s (.aload_n 0) 1 36 [some (.ref a0), some (.ref (a1 + 1000)), some (.int x2), w3] [.ref a0, .int x2, .ref (a1 + 1000), .int 0, .ref c0] h rfl rfl rfl ?_
  refine tr_gf 9 _ 8 0 vs0 _ rfl rfl m0 p0 ?_
  refine tr_alen _ 2 l0 rfl m1 (by decide) ?_
  refine tr_call (.invokestatic 106) 106 2 5 0 m_J1_inflate_0e8fd [.ref c0, .int 0, .ref (a1 + 1000), .int x2, .int (Int32.ofNat l0.length)] [] none h1 rfl rfl rfl rfl rfl rfl rfl rfl rfl (tr_cok rfl (Or.inl rfl)) c_0 ?_
  have hL0 := c_0.2
  exact tl_ret hL0 .return_ 1 none rfl rfl rfl rfl hr
theorem sg_J5_inflateIfNeededFor_a7421_r_0 {g : tr_g} {d : Nat} {h : ev_AH} {r : ev_O × ev_AH} {a0 a1 : Nat} (hL : hh_L h) (t : (1 : Int32) = 0 → tr_L g d m_J5_inflateIfNeededFor_a7421 21 [some (.ref (a0 + 1000)), some (.ref a1)] [] h r) (f : (1 : Int32) ≠ 0 → tr_L g d m_J5_inflateIfNeededFor_a7421 6 [some (.ref (a0 + 1000)), some (.ref a1)] [] h r) : tr_L g d m_J5_inflateIfNeededFor_a7421 0 [some (.ref (a0 + 1000)), some (.ref a1)] [] h r := by
  refine tr_s (.getstatic 18) 3 3 [some (.ref (a0 + 1000)), some (.ref a1)] [.int 1] h rfl rfl rfl ?_
  exact tr_if1 .eq 18 21 1 rfl rfl rfl (fun hc => t ((tr_eq hc).1 rfl)) (fun hc => f ((tr_eq hc).2 rfl))
theorem sg_J5_inflateIfNeededFor_a7421_r_6 {g : tr_g} {d : Nat} {h : ev_AH} {r : ev_O × ev_AH} {a0 a1 : Nat} {vs0 vs1 : List Value} {y0 v0 : Int32} {h1 : ev_AH} (hL : hh_L h) (m0 : h.1[a0]? = some (.inr (9, vs0))) (p0 : vs0[1]? = some (.int y0)) (m1 : ev_rd (tr_G g) h a1 = some (.inr (8, vs1))) (c_0 : tr_L g d m_J0_coder_7d493 0 [some (.ref a1)] [] h (.inl (some (.int v0)), h1)) (t : y0 = v0 → tr_L g (d + 1) m_J5_inflateIfNeededFor_a7421 21 [some (.ref (a0 + 1000)), some (.ref a1)] [] h1 r) (f : y0 ≠ v0 → tr_L g (d + 1) m_J5_inflateIfNeededFor_a7421 17 [some (.ref (a0 + 1000)), some (.ref a1)] [] h1 r) : tr_L g (d + 1) m_J5_inflateIfNeededFor_a7421 6 [some (.ref (a0 + 1000)), some (.ref a1)] [] h r := by
  refine tr_s (.aload_n 0) 1 7 [some (.ref (a0 + 1000)), some (.ref a1)] [.ref (a0 + 1000)] h rfl rfl rfl ?_
  refine tr_gf 22 _ 9 1 vs0 _ rfl rfl (hh_rd m0) p0 ?_
  refine tr_s (.aload_n 1) 1 11 [some (.ref (a0 + 1000)), some (.ref a1)] [.ref a1, .int y0] h rfl rfl rfl ?_
  refine tr_call (.invokevirtual 40) 40 0 0 8 m_J0_coder_7d493 [.ref a1] [.int y0] (some (.int v0)) h1 rfl rfl rfl rfl rfl rfl rfl rfl rfl (tr_cok rfl (Or.inr ⟨_, _, rfl, tr_rc m1 (by decide)⟩)) c_0 ?_
  have hL0 := c_0.2
  exact tr_if2 .eq 7 21 y0 v0 rfl rfl rfl (fun hc => t ((tr_eq hc).1 rfl)) (fun hc => f ((tr_eq hc).2 rfl))
theorem sg_J5_inflateIfNeededFor_a7421_r_21 {g : tr_g} {d : Nat} {h : ev_AH} {r : ev_O × ev_AH} {w0 w1 : Option Value} (hL : hh_L h) (hr : r = (.inl (none), h)) : tr_L g d m_J5_inflateIfNeededFor_a7421 21 [w0, w1] [] h r := by
  exact tl_ret hL .return_ 1 none rfl rfl rfl rfl hr
theorem sg_J5_putStringAt_47b60_r_0 {g : tr_g} {d : Nat} {h : ev_AH} {r : ev_O × ev_AH} {a0 a2 c0 : Nat} {x1 y0 : Int32} {h1 h2 : ev_AH} {vs0 vs1 vs2 : List Value} (hL : hh_L h) (m0 : h.1[a0]? = some (.inr (9, vs0))) (c_0 : tr_L g d m_J5_inflateIfNeededFor_a7421 0 [some (.ref (a0 + 1000)), some (.ref a2)] [] h (.inl none, h1)) (m1 : h1.1[a0]? = some (.inr (9, vs1))) (p0 : vs1[0]? = some (.ref (c0 + 1000))) (p1 : vs1[1]? = some (.int y0)) (m2 : ev_rd (tr_G g) h1 a2 = some (.inr (8, vs2))) (c_1 : tr_L g d m_J0_getBytes_840e7 0 [some (.ref a2), some (.ref (c0 + 1000)), some (.int x1), some (.int y0)] [] h1 (.inl none, h2)) (hr : r = (.inl (none), h2)) : tr_L g (d + 1) m_J5_putStringAt_47b60 0 [some (.ref (a0 + 1000)), some (.int x1), some (.ref a2)] [] h r := by
  refine tr_s (.aload_n 0) 1 1 [some (.ref (a0 + 1000)), some (.int x1), some (.ref a2)] [.ref (a0 + 1000)] h rfl rfl rfl ?_
  refine tr_s (.aload_n 2) 1 2 [some (.ref (a0 + 1000)), some (.int x1), some (.ref a2)] [.ref a2, .ref (a0 + 1000)] h rfl rfl rfl ?_
  refine tr_call (.invokevirtual 397) 397 0 1 9 m_J5_inflateIfNeededFor_a7421 [.ref (a0 + 1000), .ref a2] [] none h1 rfl rfl rfl rfl rfl rfl rfl rfl rfl (tr_cok rfl (Or.inr ⟨_, _, rfl, tr_rc (hh_rd m0) (by decide)⟩)) c_0 ?_
  have hL0 := c_0.2
  refine tr_s (.aload_n 2) 1 6 [some (.ref (a0 + 1000)), some (.int x1), some (.ref a2)] [.ref a2] h1 rfl rfl rfl ?_
  refine tr_s (.aload_n 0) 1 7 [some (.ref (a0 + 1000)), some (.int x1), some (.ref a2)] [.ref (a0 + 1000), .ref a2] h1 rfl rfl rfl ?_
  refine tr_gf 15 _ 9 0 vs1 _ rfl rfl (hh_rd m1) p0 ?_
  refine tr_s (.iload_n 1) 1 11 [some (.ref (a0 + 1000)), some (.int x1), some (.ref a2)] [.int x1, .ref (c0 + 1000), .ref a2] h1 rfl rfl rfl ?_
  refine tr_s (.aload_n 0) 1 12 [some (.ref (a0 + 1000)), some (.int x1), some (.ref a2)] [.ref (a0 + 1000), .int x1, .ref (c0 + 1000), .ref a2] h1 rfl rfl rfl ?_
  refine tr_gf 22 _ 9 1 vs1 _ rfl rfl (hh_rd m1) p1 ?_
  refine tr_call (.invokevirtual 399) 399 0 3 8 m_J0_getBytes_840e7 [.ref a2, .ref (c0 + 1000), .int x1, .int y0] [] none h2 rfl rfl rfl rfl rfl rfl rfl rfl rfl (tr_cok rfl (Or.inr ⟨_, _, rfl, tr_rc m2 (by decide)⟩)) c_1 ?_
  have hL1 := c_1.2
  exact tl_ret hL1 .return_ 1 none rfl rfl rfl rfl hr
theorem sg_J5_append_cf1ce_r_0 {g : tr_g} {d : Nat} {h : ev_AH} {r : ev_O × ev_AH} {a0 a1 : Nat} {h1 h2 h3 h4 : ev_AH} {v0 y0 y1 y2 : Int32} {vs0 vs1 vs2 vs3 : List Value} (hL : hh_L h) (m0 : ev_rd (tr_G g) h a1 = some (.inr (8, vs0))) (c_0 : tr_L g d m_J0_length_8abf5 0 [some (.ref a1)] [] h (.inl (some (.int v0)), h1)) (m1 : h1.1[a0]? = some (.inr (9, vs1))) (p0 : vs1[3]? = some (.int y0)) (c_1 : tr_L g d m_J5_ensureCapacityInternal_d00df 0 [some (.ref (a0 + 1000)), some (.int (y0 + v0)), none] [] h1 (.inl none, h2)) (m2 : h2.1[a0]? = some (.inr (9, vs2))) (p1 : vs2[3]? = some (.int y1)) (c_2 : tr_L g d m_J5_putStringAt_47b60 0 [some (.ref (a0 + 1000)), some (.int y1), some (.ref a1)] [] h2 (.inl none, h3)) (m3 : h3.1[a0]? = some (.inr (9, vs3))) (p2 : vs3[3]? = some (.int y2)) (q0 : 3 < vs3.length) (eh0 : h4 = ev_wr h3 (a0 + 1000) (.inr (9, vs3.set 3 (.int (y2 + v0))))) (hLs0 : hh_L h4) (hr : r = (.inl (some (.ref (a0 + 1000))), h4)) : tr_L g (d + 1) m_J5_append_cf1ce 0 [some (.ref (a0 + 1000)), some (.ref a1), none] [] h r := by
  refine tr_s (.aload_n 1) 1 1 [some (.ref (a0 + 1000)), some (.ref a1), none] [.ref a1] h rfl rfl rfl ?_
  refine tr_s (.ifnonnull 8) 3 9 [some (.ref (a0 + 1000)), some (.ref a1), none] [] h rfl rfl rfl ?_
  refine tr_s (.aload_n 1) 1 10 [some (.ref (a0 + 1000)), some (.ref a1), none] [.ref a1] h rfl rfl rfl ?_
  refine tr_call (.invokevirtual 32) 32 0 0 8 m_J0_length_8abf5 [.ref a1] [] (some (.int v0)) h1 rfl rfl rfl rfl rfl rfl rfl rfl rfl (tr_cok rfl (Or.inr ⟨_, _, rfl, tr_rc m0 (by decide)⟩)) c_0 ?_
  have hL0 := c_0.2
  refine tr_st (.istore_n 2) 1 2 0 (.int v0) rfl rfl rfl rfl rfl rfl rfl ?_
  refine tr_s (.aload_n 0) 1 15 [some (.ref (a0 + 1000)), some (.ref a1), some (.int v0)] [.ref (a0 + 1000)] h1 rfl rfl rfl ?_
  refine tr_s (.aload_n 0) 1 16 [some (.ref (a0 + 1000)), some (.ref a1), some (.int v0)] [.ref (a0 + 1000), .ref (a0 + 1000)] h1 rfl rfl rfl ?_
  refine tr_gf 79 _ 9 3 vs1 _ rfl rfl (hh_rd m1) p0 ?_
  refine tr_s (.iload_n 2) 1 20 [some (.ref (a0 + 1000)), some (.ref a1), some (.int v0)] [.int v0, .int y0, .ref (a0 + 1000)] h1 rfl rfl rfl ?_
  refine tr_s .iadd 1 21 [some (.ref (a0 + 1000)), some (.ref a1), some (.int v0)] [.int (y0 + v0), .ref (a0 + 1000)] h1 rfl rfl rfl ?_
  refine tr_call (.invokevirtual 100) 100 0 1 9 m_J5_ensureCapacityInternal_d00df [.ref (a0 + 1000), .int (y0 + v0)] [] none h2 rfl rfl rfl rfl rfl rfl rfl rfl rfl (tr_cok rfl (Or.inr ⟨_, _, rfl, tr_rc (hh_rd m1) (by decide)⟩)) c_1 ?_
  have hL1 := c_1.2
  refine tr_s (.aload_n 0) 1 25 [some (.ref (a0 + 1000)), some (.ref a1), some (.int v0)] [.ref (a0 + 1000)] h2 rfl rfl rfl ?_
  refine tr_s (.aload_n 0) 1 26 [some (.ref (a0 + 1000)), some (.ref a1), some (.int v0)] [.ref (a0 + 1000), .ref (a0 + 1000)] h2 rfl rfl rfl ?_
  refine tr_gf 79 _ 9 3 vs2 _ rfl rfl (hh_rd m2) p1 ?_
  refine tr_s (.aload_n 1) 1 30 [some (.ref (a0 + 1000)), some (.ref a1), some (.int v0)] [.ref a1, .int y1, .ref (a0 + 1000)] h2 rfl rfl rfl ?_
  refine tr_call (.invokevirtual 208) 208 0 2 9 m_J5_putStringAt_47b60 [.ref (a0 + 1000), .int y1, .ref a1] [] none h3 rfl rfl rfl rfl rfl rfl rfl rfl rfl (tr_cok rfl (Or.inr ⟨_, _, rfl, tr_rc (hh_rd m2) (by decide)⟩)) c_2 ?_
  have hL2 := c_2.2
  refine tr_s (.aload_n 0) 1 34 [some (.ref (a0 + 1000)), some (.ref a1), some (.int v0)] [.ref (a0 + 1000)] h3 rfl rfl rfl ?_
  refine tr_s .dup 1 35 [some (.ref (a0 + 1000)), some (.ref a1), some (.int v0)] [.ref (a0 + 1000), .ref (a0 + 1000)] h3 rfl rfl rfl ?_
  refine tr_gf 79 _ 9 3 vs3 _ rfl rfl (hh_rd m3) p2 ?_
  refine tr_s (.iload_n 2) 1 39 [some (.ref (a0 + 1000)), some (.ref a1), some (.int v0)] [.int v0, .int y2, .ref (a0 + 1000)] h3 rfl rfl rfl ?_
  refine tr_s .iadd 1 40 [some (.ref (a0 + 1000)), some (.ref a1), some (.int v0)] [.int (y2 + v0), .ref (a0 + 1000)] h3 rfl rfl rfl ?_
  refine tr_pf 79 (a0 + 1000) 9 3 vs3 (.int (y2 + v0)) _ rfl rfl (by omega) (by rw [Nat.add_sub_cancel]; exact m3) rfl q0 tr_oki ?_
  rw [← eh0]
  refine tr_s (.aload_n 0) 1 44 [some (.ref (a0 + 1000)), some (.ref a1), some (.int v0)] [.ref (a0 + 1000)] h4 rfl rfl rfl ?_
  exact tl_ret hLs0 .areturn 1 (some (.ref (a0 + 1000))) rfl rfl rfl rfl hr
theorem sg_J4_append_15ec4_r_0 {g : tr_g} {d : Nat} {h : ev_AH} {r : ev_O × ev_AH} {a0 a1 : Nat} {h1 : ev_AH} {vs0 : List Value} (hL : hh_L h) (m0 : h.1[a0]? = some (.inr (9, vs0))) (c_0 : tr_L g d m_J5_append_cf1ce 0 [some (.ref (a0 + 1000)), some (.ref a1), none] [] h (.inl (some (.ref (a0 + 1000))), h1)) (hr : r = (.inl (some (.ref (a0 + 1000))), h1)) : tr_L g (d + 1) m_J4_append_15ec4 0 [some (.ref (a0 + 1000)), some (.ref a1)] [] h r := by
  refine tr_s (.aload_n 0) 1 1 [some (.ref (a0 + 1000)), some (.ref a1)] [.ref (a0 + 1000)] h rfl rfl rfl ?_
  refine tr_s (.aload_n 1) 1 2 [some (.ref (a0 + 1000)), some (.ref a1)] [.ref a1, .ref (a0 + 1000)] h rfl rfl rfl ?_
  refine tr_call (.invokespecial 29) 29 7 1 9 m_J5_append_cf1ce [.ref (a0 + 1000), .ref a1] [] (some (.ref (a0 + 1000))) h1 rfl rfl rfl rfl rfl rfl rfl rfl rfl (tr_cok rfl (Or.inr ⟨_, _, rfl, tr_rc (hh_rd m0) (by decide)⟩)) c_0 ?_
  have hL0 := c_0.2
  refine tr_s .pop 1 6 [some (.ref (a0 + 1000)), some (.ref a1)] [] h1 rfl rfl rfl ?_
  refine tr_s (.aload_n 0) 1 7 [some (.ref (a0 + 1000)), some (.ref a1)] [.ref (a0 + 1000)] h1 rfl rfl rfl ?_
  exact tl_ret hL0 .areturn 1 (some (.ref (a0 + 1000))) rfl rfl rfl rfl hr
theorem sg_J7_checkLength_df160_r_0 {g : tr_g} {d : Nat} {h : ev_AH} {r : ev_O × ev_AH} {x0 x1 : Int32} (hL : hh_L h) (t : x0 ≤ x1 → tr_L g d m_J7_checkLength_df160 37 [some (.int x0), some (.int x1)] [] h r) (f : x1 < x0 → tr_L g d m_J7_checkLength_df160 5 [some (.int x0), some (.int x1)] [] h r) : tr_L g d m_J7_checkLength_df160 0 [some (.int x0), some (.int x1)] [] h r := by
  refine tr_s (.iload_n 1) 1 1 [some (.int x0), some (.int x1)] [.int x1] h rfl rfl rfl ?_
  refine tr_s (.iload_n 0) 1 2 [some (.int x0), some (.int x1)] [.int x0, .int x1] h rfl rfl rfl ?_
  exact tr_if2 .ge 35 37 x1 x0 rfl rfl rfl (fun hc => t ((tr_ge hc).1 rfl)) (fun hc => f ((tr_ge hc).2 rfl))
theorem sg_J7_checkLength_df160_r_37 {g : tr_g} {d : Nat} {h : ev_AH} {r : ev_O × ev_AH} {w0 w1 : Option Value} (hL : hh_L h) (hr : r = (.inl (none), h)) : tr_L g d m_J7_checkLength_df160 37 [w0, w1] [] h r := by
  exact tl_ret hL .return_ 1 none rfl rfl rfl rfl hr
theorem sg_J7_copyOfRangeByte_39247_r_0 {g : tr_g} {d : Nat} {h : ev_AH} {r : ev_O × ev_AH} {a0 j0 c0 j1 : Nat} {x2 : Int32} {h1 h2 h3 : ev_AH} {l0 l1 : List Int32} (hL : hh_L h) (c_0 : tr_L g d m_J7_checkLength_df160 0 [some (.int 0), some (.int x2)] [] h (.inl none, h1)) (e0 : x2 - 0 = Int32.ofNat j0) (b0 : j0 ≤ 1000000) (eh0 : h2 = hh_push h1 (.inl (2, List.replicate j0 0)) j0) (ec0 : c0 = h1.1.length) (m0 : h2.1[a0]? = some (.inl (2, l0))) (z0 : l0.length < 2147483648) (m1 : h2.1[c0]? = some (.inl (2, l1))) (z1 : l1.length < 2147483648) (e1 : (if (x2 - 0) < ((Int32.ofNat l0.length) - 0) then (x2 - 0) else ((Int32.ofNat l0.length) - 0)) = Int32.ofNat j1) (b1 : j1 ≤ l0.length) (b2 : j1 ≤ l1.length) (b3 : j1 < 2147483648) (hf0 : (l0.take j1).all (fun x => fits .byte (.int x)) = true) (eh1 : h3 = ev_wr h2 (c0 + 1000) (.inl (2, l0.take j1 ++ l1.drop j1))) (hLs0 : hh_L h3) (hr : r = (.inl (some (.ref (c0 + 1000))), h3)) : tr_L g (d + 1) m_J7_copyOfRangeByte_39247 0 [some (.ref (a0 + 1000)), some (.int 0), some (.int x2), none, none] [] h r := by
  refine tr_s (.iload_n 1) 1 1 [some (.ref (a0 + 1000)), some (.int 0), some (.int x2), none, none] [.int 0] h rfl rfl rfl ?_
  refine tr_s (.iload_n 2) 1 2 [some (.ref (a0 + 1000)), some (.int 0), some (.int x2), none, none] [.int x2, .int 0] h rfl rfl rfl ?_
  refine tr_call (.invokestatic 343) 343 2 2 0 m_J7_checkLength_df160 [.int 0, .int x2] [] none h1 rfl rfl rfl rfl rfl rfl rfl rfl rfl (tr_cok rfl (Or.inl rfl)) c_0 ?_
  have hL0 := c_0.2
  refine tr_s (.iload_n 2) 1 6 [some (.ref (a0 + 1000)), some (.int 0), some (.int x2), none, none] [.int x2] h1 rfl rfl rfl ?_
  refine tr_s (.iload_n 1) 1 7 [some (.ref (a0 + 1000)), some (.int 0), some (.int x2), none, none] [.int 0, .int x2] h1 rfl rfl rfl ?_
  refine tr_s .isub 1 8 [some (.ref (a0 + 1000)), some (.int 0), some (.int x2), none, none] [.int (x2 - 0)] h1 rfl rfl rfl ?_
  refine tr_st (.istore_n 3) 1 3 0 (.int (x2 - 0)) rfl rfl rfl rfl rfl rfl rfl ?_
  refine tr_s (.iload_n 3) 1 10 [some (.ref (a0 + 1000)), some (.int 0), some (.int x2), some (.int (x2 - 0)), none] [.int (x2 - 0)] h1 rfl rfl rfl ?_
  refine tr_newb j0 (x2 - 0) rfl e0 b0 ?_
  rw [← eh0, ← ec0]
  have hL1 : hh_L h2 := by rw [eh0]; exact hh_L_push hL0
  refine tr_st (.astore 4) 2 4 1 (.ref (c0 + 1000)) rfl rfl rfl rfl rfl rfl rfl ?_
  refine tr_s (.aload_n 0) 1 15 [some (.ref (a0 + 1000)), some (.int 0), some (.int x2), some (.int (x2 - 0)), some (.ref (c0 + 1000))] [.ref (a0 + 1000)] h2 rfl rfl rfl ?_
  refine tr_s (.iload_n 1) 1 16 [some (.ref (a0 + 1000)), some (.int 0), some (.int x2), some (.int (x2 - 0)), some (.ref (c0 + 1000))] [.int 0, .ref (a0 + 1000)] h2 rfl rfl rfl ?_
  refine tr_s (.aload 4) 2 18 [some (.ref (a0 + 1000)), some (.int 0), some (.int x2), some (.int (x2 - 0)), some (.ref (c0 + 1000))] [.ref (c0 + 1000), .int 0, .ref (a0 + 1000)] h2 rfl rfl rfl ?_
  refine tr_ic 0 0 (by decide) rfl ?_
  refine tr_s (.aload_n 0) 1 20 [some (.ref (a0 + 1000)), some (.int 0), some (.int x2), some (.int (x2 - 0)), some (.ref (c0 + 1000))] [.ref (a0 + 1000), .int 0, .ref (c0 + 1000), .int 0, .ref (a0 + 1000)] h2 rfl rfl rfl ?_
  refine tr_alen _ 2 l0 rfl (hh_rd m0) (by decide) ?_
  refine tr_s (.iload_n 1) 1 22 [some (.ref (a0 + 1000)), some (.int 0), some (.int x2), some (.int (x2 - 0)), some (.ref (c0 + 1000))] [.int 0, .int (Int32.ofNat l0.length), .int 0, .ref (c0 + 1000), .int 0, .ref (a0 + 1000)] h2 rfl rfl rfl ?_
  refine tr_s .isub 1 23 [some (.ref (a0 + 1000)), some (.int 0), some (.int x2), some (.int (x2 - 0)), some (.ref (c0 + 1000))] [.int ((Int32.ofNat l0.length) - 0), .int 0, .ref (c0 + 1000), .int 0, .ref (a0 + 1000)] h2 rfl rfl rfl ?_
  refine tr_s (.iload_n 3) 1 24 [some (.ref (a0 + 1000)), some (.int 0), some (.int x2), some (.int (x2 - 0)), some (.ref (c0 + 1000))] [.int (x2 - 0), .int ((Int32.ofNat l0.length) - 0), .int 0, .ref (c0 + 1000), .int 0, .ref (a0 + 1000)] h2 rfl rfl rfl ?_
  refine tr_na (.invokestatic 304) 304 11 2 0 ev_dum [.int (if (x2 - 0) < ((Int32.ofNat l0.length) - 0) then (x2 - 0) else ((Int32.ofNat l0.length) - 0)), .int 0, .ref (c0 + 1000), .int 0, .ref (a0 + 1000)] h2 rfl rfl rfl rfl rfl rfl rfl ?_
  refine tr_acpy 150 a0 c0 l0 l1 j1 (if (x2 - 0) < ((Int32.ofNat l0.length) - 0) then (x2 - 0) else ((Int32.ofNat l0.length) - 0)) rfl rfl m0 m1 e1 b1 b2 b3 hf0 rfl ?_
  rw [← eh1]
  refine tr_s (.aload 4) 2 32 [some (.ref (a0 + 1000)), some (.int 0), some (.int x2), some (.int (x2 - 0)), some (.ref (c0 + 1000))] [.ref (c0 + 1000)] h3 rfl rfl rfl ?_
  exact tl_ret hLs0 .areturn 1 (some (.ref (c0 + 1000))) rfl rfl rfl rfl hr
theorem sg_J7_copyOfRange_39247_r_0 {g : tr_g} {d : Nat} {h : ev_AH} {r : ev_O × ev_AH} {a0 : Nat} {x1 x2 : Int32} (hL : hh_L h) (t : x1 ≠ 0 → tr_L g d m_J7_copyOfRange_39247 10 [some (.ref (a0 + 1000)), some (.int x1), some (.int x2)] [] h r) (f : x1 = 0 → tr_L g d m_J7_copyOfRange_39247 4 [some (.ref (a0 + 1000)), some (.int x1), some (.int x2)] [] h r) : tr_L g d m_J7_copyOfRange_39247 0 [some (.ref (a0 + 1000)), some (.int x1), some (.int x2)] [] h r := by
  refine tr_s (.iload_n 1) 1 1 [some (.ref (a0 + 1000)), some (.int x1), some (.int x2)] [.int x1] h rfl rfl rfl ?_
  exact tr_if1 .ne 9 10 x1 rfl rfl rfl (fun hc => t ((tr_ne hc).1 rfl)) (fun hc => f ((tr_ne hc).2 rfl))
theorem sg_J7_copyOfRange_39247_r_4 {g : tr_g} {d : Nat} {h : ev_AH} {r : ev_O × ev_AH} {a0 : Nat} {x1 x2 : Int32} {l0 : List Int32} (hL : hh_L h) (m0 : h.1[a0]? = some (.inl (2, l0))) (z0 : l0.length < 2147483648) (t : x2 = (Int32.ofNat l0.length) → tr_L g d m_J7_copyOfRange_39247 17 [some (.ref (a0 + 1000)), some (.int x1), some (.int x2)] [] h r) (f : x2 ≠ (Int32.ofNat l0.length) → tr_L g d m_J7_copyOfRange_39247 10 [some (.ref (a0 + 1000)), some (.int x1), some (.int x2)] [] h r) : tr_L g d m_J7_copyOfRange_39247 4 [some (.ref (a0 + 1000)), some (.int x1), some (.int x2)] [] h r := by
  refine tr_s (.iload_n 2) 1 5 [some (.ref (a0 + 1000)), some (.int x1), some (.int x2)] [.int x2] h rfl rfl rfl ?_
  refine tr_s (.aload_n 0) 1 6 [some (.ref (a0 + 1000)), some (.int x1), some (.int x2)] [.ref (a0 + 1000), .int x2] h rfl rfl rfl ?_
  refine tr_alen _ 2 l0 rfl (hh_rd m0) (by decide) ?_
  exact tr_if2 .eq 10 17 x2 (Int32.ofNat l0.length) rfl rfl rfl (fun hc => t ((tr_eq hc).1 rfl)) (fun hc => f ((tr_eq hc).2 rfl))
theorem sg_J7_copyOfRange_39247_r_10 {g : tr_g} {d : Nat} {h : ev_AH} {r : ev_O × ev_AH} {a0 c0 : Nat} {x1 x2 : Int32} {h1 : ev_AH} (hL : hh_L h) (c_0 : tr_L g d m_J7_copyOfRangeByte_39247 0 [some (.ref (a0 + 1000)), some (.int x1), some (.int x2), none, none] [] h (.inl (some (.ref (c0 + 1000))), h1)) (hr : r = (.inl (some (.ref (c0 + 1000))), h1)) : tr_L g (d + 1) m_J7_copyOfRange_39247 10 [some (.ref (a0 + 1000)), some (.int x1), some (.int x2)] [] h r := by
  refine tr_s (.aload_n 0) 1 11 [some (.ref (a0 + 1000)), some (.int x1), some (.int x2)] [.ref (a0 + 1000)] h rfl rfl rfl ?_
  refine tr_s (.iload_n 1) 1 12 [some (.ref (a0 + 1000)), some (.int x1), some (.int x2)] [.int x1, .ref (a0 + 1000)] h rfl rfl rfl ?_
  refine tr_s (.iload_n 2) 1 13 [some (.ref (a0 + 1000)), some (.int x1), some (.int x2)] [.int x2, .int x1, .ref (a0 + 1000)] h rfl rfl rfl ?_
  refine tr_call (.invokestatic 339) 339 2 3 0 m_J7_copyOfRangeByte_39247 [.ref (a0 + 1000), .int x1, .int x2] [] (some (.ref (c0 + 1000))) h1 rfl rfl rfl rfl rfl rfl rfl rfl rfl (tr_cok rfl (Or.inl rfl)) c_0 ?_
  have hL0 := c_0.2
  exact tl_ret hL0 .areturn 1 (some (.ref (c0 + 1000))) rfl rfl rfl rfl hr
theorem sg_J7_copyOfRange_39247_r_17 {g : tr_g} {d : Nat} {h : ev_AH} {r : ev_O × ev_AH} {a0 c0 : Nat} {w1 w2 : Option Value} {l0 l1 : List Int32} {h1 : ev_AH} (hL : hh_L h) (m0 : h.1[a0]? = some (.inl (2, l0))) (z0 : l0.length < 2147483648) (hf0 : l0.all (fun x => fits .byte (.int x)) = true) (eh0 : h1 = hh_push h (.inl (2, l0)) l0.length) (ec0 : c0 = h.1.length) (m1 : h1.1[c0]? = some (.inl (2, l1))) (z1 : l1.length < 2147483648) (hr : r = (.inl (some (.ref (c0 + 1000))), h1)) : tr_L g d m_J7_copyOfRange_39247 17 [some (.ref (a0 + 1000)), w1, w2] [] h r := by
  refine tr_s (.aload_n 0) 1 18 [some (.ref (a0 + 1000)), w1, w2] [.ref (a0 + 1000)] h rfl rfl rfl ?_
  refine tr_clone 310 a0 l0 rfl rfl m0 hf0 rfl ?_
  rw [← eh0, ← ec0]
  have hL0 : hh_L h1 := by rw [eh0]; exact hh_L_push hL
  refine tr_cast 311 c0 l1 rfl rfl m1 ?_
  exact tl_ret hL0 .areturn 1 (some (.ref (c0 + 1000))) rfl rfl rfl rfl hr
theorem sg_J0_init_db425_r_0 {g : tr_g} {d : Nat} {h : ev_AH} {r : ev_O × ev_AH} {a0 a1 c0 : Nat} {h1 h2 h3 : ev_AH} {vs0 vs1 vs2 : List Value} {v0 v1 : Int32} (hL : hh_L h) (m0 : h.1[a1]? = some (.inr (9, vs0))) (c_0 : tr_L g d m_J5_getValue_6d5f1 0 [some (.ref (a1 + 1000))] [] h (.inl (some (.ref (c0 + 1000))), h1)) (m1 : h1.1[a1]? = some (.inr (9, vs1))) (c_1 : tr_L g d m_J4_length_8abf5 0 [some (.ref (a1 + 1000))] [] h1 (.inl (some (.int v0)), h2)) (m2 : h2.1[a1]? = some (.inr (9, vs2))) (c_2 : tr_L g d m_J5_isLatin1_aae02 0 [some (.ref (a1 + 1000))] [] h2 (.inl (some (.int v1)), h3)) (t : v1 = 0 → tr_L g (d + 1) m_J0_init_db425 41 [some (.ref (a0 + 1000)), some (.ref (a1 + 1000)), some (.null), some (.ref (c0 + 1000)), some (.int v0)] [] h3 r) (f : v1 ≠ 0 → tr_L g (d + 1) m_J0_init_db425 22 [some (.ref (a0 + 1000)), some (.ref (a1 + 1000)), some (.null), some (.ref (c0 + 1000)), some (.int v0)] [] h3 r) : tr_L g (d + 1) m_J0_init_db425 0 [some (.ref (a0 + 1000)), some (.ref (a1 + 1000)), some (.null), none, none] [] h r := by
  refine tr_s (.aload_n 0) 1 1 [some (.ref (a0 + 1000)), some (.ref (a1 + 1000)), some (.null), none, none] [.ref (a0 + 1000)] h rfl rfl rfl ?_
  refine tr_na (.invokespecial 1) 1 10 0 0 ev_dum [] h rfl rfl rfl rfl rfl rfl rfl ?_
  refine tr_s (.aload_n 1) 1 5 [some (.ref (a0 + 1000)), some (.ref (a1 + 1000)), some (.null), none, none] [.ref (a1 + 1000)] h rfl rfl rfl ?_
  refine tr_call (.invokevirtual 552) 552 0 0 9 m_J5_getValue_6d5f1 [.ref (a1 + 1000)] [] (some (.ref (c0 + 1000))) h1 rfl rfl rfl rfl rfl rfl rfl rfl rfl (tr_cok rfl (Or.inr ⟨_, _, rfl, tr_rc (hh_rd m0) (by decide)⟩)) c_0 ?_
  have hL0 := c_0.2
  refine tr_st (.astore_n 3) 1 3 1 (.ref (c0 + 1000)) rfl rfl rfl rfl rfl rfl rfl ?_
  refine tr_s (.aload_n 1) 1 10 [some (.ref (a0 + 1000)), some (.ref (a1 + 1000)), some (.null), some (.ref (c0 + 1000)), none] [.ref (a1 + 1000)] h1 rfl rfl rfl ?_
  refine tr_call (.invokevirtual 549) 549 6 0 9 m_J4_length_8abf5 [.ref (a1 + 1000)] [] (some (.int v0)) h2 rfl rfl rfl rfl rfl rfl rfl rfl rfl (tr_cok rfl (Or.inr ⟨_, _, rfl, tr_rc (hh_rd m1) (by decide)⟩)) c_1 ?_
  have hL1 := c_1.2
  refine tr_st (.istore 4) 2 4 0 (.int v0) rfl rfl rfl rfl rfl rfl rfl ?_
  refine tr_s (.aload_n 1) 1 16 [some (.ref (a0 + 1000)), some (.ref (a1 + 1000)), some (.null), some (.ref (c0 + 1000)), some (.int v0)] [.ref (a1 + 1000)] h2 rfl rfl rfl ?_
  refine tr_call (.invokevirtual 1047) 1047 0 0 9 m_J5_isLatin1_aae02 [.ref (a1 + 1000)] [] (some (.int v1)) h3 rfl rfl rfl rfl rfl rfl rfl rfl rfl (tr_cok rfl (Or.inr ⟨_, _, rfl, tr_rc (hh_rd m2) (by decide)⟩)) c_2 ?_
  have hL2 := c_2.2
  exact tr_if1 .eq 22 41 v1 rfl rfl rfl (fun hc => t ((tr_eq hc).1 rfl)) (fun hc => f ((tr_eq hc).2 rfl))
theorem sg_J0_init_db425_r_22 {g : tr_g} {d : Nat} {h : ev_AH} {r : ev_O × ev_AH} {a0 a3 c0 : Nat} {w1 w2 : Option Value} {x4 : Int32} {vs0 vs1 : List Value} {h1 h2 h3 : ev_AH} (hL : hh_L h) (m0 : h.1[a0]? = some (.inr (8, vs0))) (q0 : 1 < vs0.length) (eh0 : h1 = ev_wr h (a0 + 1000) (.inr (8, vs0.set 1 (.int 0)))) (hLs0 : hh_L h1) (c_0 : tr_L g d m_J7_copyOfRange_39247 0 [some (.ref (a3 + 1000)), some (.int 0), some (.int x4)] [] h1 (.inl (some (.ref (c0 + 1000))), h2)) (m1 : h2.1[a0]? = some (.inr (8, vs1))) (q1 : 0 < vs1.length) (eh1 : h3 = ev_wr h2 (a0 + 1000) (.inr (8, vs1.set 0 (.ref (c0 + 1000))))) (hLs1 : hh_L h3) (hr : r = (.inl (none), h3)) : tr_L g (d + 1) m_J0_init_db425 22 [some (.ref (a0 + 1000)), w1, w2, some (.ref (a3 + 1000)), some (.int x4)] [] h r := by
  refine tr_s (.aload_n 0) 1 23 [some (.ref (a0 + 1000)), w1, w2, some (.ref (a3 + 1000)), some (.int x4)] [.ref (a0 + 1000)] h rfl rfl rfl ?_
  refine tr_ic 0 0 (by decide) rfl ?_
  refine tr_pfF 15 (a0 + 1000) 8 1 vs0 (.int 0) _ _ rfl rfl (by omega) (by rw [Nat.add_sub_cancel]; exact m0) rfl q0 (by decide) rfl rfl ?_
  rw [← eh0]
  refine tr_s (.aload_n 0) 1 28 [some (.ref (a0 + 1000)), w1, w2, some (.ref (a3 + 1000)), some (.int x4)] [.ref (a0 + 1000)] h1 rfl rfl rfl ?_
  refine tr_s (.aload_n 3) 1 29 [some (.ref (a0 + 1000)), w1, w2, some (.ref (a3 + 1000)), some (.int x4)] [.ref (a3 + 1000), .ref (a0 + 1000)] h1 rfl rfl rfl ?_
  refine tr_ic 0 0 (by decide) rfl ?_
  refine tr_s (.iload 4) 2 32 [some (.ref (a0 + 1000)), w1, w2, some (.ref (a3 + 1000)), some (.int x4)] [.int x4, .int 0, .ref (a3 + 1000), .ref (a0 + 1000)] h1 rfl rfl rfl ?_
  refine tr_call (.invokestatic 54) 54 2 3 0 m_J7_copyOfRange_39247 [.ref (a3 + 1000), .int 0, .int x4] [.ref (a0 + 1000)] (some (.ref (c0 + 1000))) h2 rfl rfl rfl rfl rfl rfl rfl rfl rfl (tr_cok rfl (Or.inl rfl)) c_0 ?_
  have hL0 := c_0.2
  refine tr_pfF 9 (a0 + 1000) 8 0 vs1 (.ref (c0 + 1000)) _ _ rfl rfl (by omega) (by rw [Nat.add_sub_cancel]; exact m1) rfl q1 tr_okr rfl rfl ?_
  rw [← eh1]
  refine tr_goto 59 97 rfl rfl rfl ?_
  exact tl_ret hLs1 .return_ 1 none rfl rfl rfl rfl hr
theorem sg_J0_init_db425_r_41 {g : tr_g} {d : Nat} {h : ev_AH} {r : ev_O × ev_AH} {a0 a1 a3 : Nat} {w2 : Option Value} {x4 : Int32} (hL : hh_L h) (t : (1 : Int32) = 0 → tr_L g d m_J0_init_db425 79 [some (.ref (a0 + 1000)), some (.ref (a1 + 1000)), w2, some (.ref (a3 + 1000)), some (.int x4)] [] h r) (f : (1 : Int32) ≠ 0 → tr_L g d m_J0_init_db425 47 [some (.ref (a0 + 1000)), some (.ref (a1 + 1000)), w2, some (.ref (a3 + 1000)), some (.int x4)] [] h r) : tr_L g d m_J0_init_db425 41 [some (.ref (a0 + 1000)), some (.ref (a1 + 1000)), w2, some (.ref (a3 + 1000)), some (.int x4)] [] h r := by
  refine tr_s (.getstatic 38) 3 44 [some (.ref (a0 + 1000)), some (.ref (a1 + 1000)), w2, some (.ref (a3 + 1000)), some (.int x4)] [.int 1] h rfl rfl rfl ?_
  exact tr_if1 .eq 35 79 1 rfl rfl rfl (fun hc => t ((tr_eq hc).1 rfl)) (fun hc => f ((tr_eq hc).2 rfl))
theorem sg_J0_init_db425_r_47 {g : tr_g} {d : Nat} {h : ev_AH} {r : ev_O × ev_AH} {a0 a1 a3 : Nat} {w2 : Option Value} {x4 y0 : Int32} {vs0 : List Value} (hL : hh_L h) (m0 : h.1[a1]? = some (.inr (9, vs0))) (p0 : vs0[2]? = some (.int y0)) (t : y0 = 0 → tr_L g d m_J0_init_db425 79 [some (.ref (a0 + 1000)), some (.ref (a1 + 1000)), w2, some (.ref (a3 + 1000)), some (.int x4)] [] h r) (f : y0 ≠ 0 → tr_L g d m_J0_init_db425 54 [some (.ref (a0 + 1000)), some (.ref (a1 + 1000)), w2, some (.ref (a3 + 1000)), some (.int x4)] [] h r) : tr_L g d m_J0_init_db425 47 [some (.ref (a0 + 1000)), some (.ref (a1 + 1000)), w2, some (.ref (a3 + 1000)), some (.int x4)] [] h r := by
  refine tr_s (.aload_n 1) 1 48 [some (.ref (a0 + 1000)), some (.ref (a1 + 1000)), w2, some (.ref (a3 + 1000)), some (.int x4)] [.ref (a1 + 1000)] h rfl rfl rfl ?_
  refine tr_gf 1048 _ 9 2 vs0 _ rfl rfl (hh_rd m0) p0 ?_
  exact tr_if1 .eq 28 79 y0 rfl rfl rfl (fun hc => t ((tr_eq hc).1 rfl)) (fun hc => f ((tr_eq hc).2 rfl))
theorem sg_J0_init_db425_r_79 {g : tr_g} {d : Nat} {h : ev_AH} {r : ev_O × ev_AH} {a0 a3 c0 : Nat} {w1 w2 : Option Value} {x4 : Int32} {vs0 vs1 : List Value} {h1 h2 h3 : ev_AH} (hL : hh_L h) (m0 : h.1[a0]? = some (.inr (8, vs0))) (q0 : 1 < vs0.length) (eh0 : h1 = ev_wr h (a0 + 1000) (.inr (8, vs0.set 1 (.int 1)))) (hLs0 : hh_L h1) (c_0 : tr_L g d m_J7_copyOfRange_39247 0 [some (.ref (a3 + 1000)), some (.int 0), some (.int (x4 <<< (1 &&& 31)))] [] h1 (.inl (some (.ref (c0 + 1000))), h2)) (m1 : h2.1[a0]? = some (.inr (8, vs1))) (q1 : 0 < vs1.length) (eh1 : h3 = ev_wr h2 (a0 + 1000) (.inr (8, vs1.set 0 (.ref (c0 + 1000))))) (hLs1 : hh_L h3) (hr : r = (.inl (none), h3)) : tr_L g (d + 1) m_J0_init_db425 79 [some (.ref (a0 + 1000)), w1, w2, some (.ref (a3 + 1000)), some (.int x4)] [] h r := by
  refine tr_s (.aload_n 0) 1 80 [some (.ref (a0 + 1000)), w1, w2, some (.ref (a3 + 1000)), some (.int x4)] [.ref (a0 + 1000)] h rfl rfl rfl ?_
  refine tr_ic 1 1 (by decide) rfl ?_
  refine tr_pfF 15 (a0 + 1000) 8 1 vs0 (.int 1) _ _ rfl rfl (by omega) (by rw [Nat.add_sub_cancel]; exact m0) rfl q0 (by decide) rfl rfl ?_
  rw [← eh0]
  refine tr_s (.aload_n 0) 1 85 [some (.ref (a0 + 1000)), w1, w2, some (.ref (a3 + 1000)), some (.int x4)] [.ref (a0 + 1000)] h1 rfl rfl rfl ?_
  refine tr_s (.aload_n 3) 1 86 [some (.ref (a0 + 1000)), w1, w2, some (.ref (a3 + 1000)), some (.int x4)] [.ref (a3 + 1000), .ref (a0 + 1000)] h1 rfl rfl rfl ?_
  refine tr_ic 0 0 (by decide) rfl ?_
  refine tr_s (.iload 4) 2 89 [some (.ref (a0 + 1000)), w1, w2, some (.ref (a3 + 1000)), some (.int x4)] [.int x4, .int 0, .ref (a3 + 1000), .ref (a0 + 1000)] h1 rfl rfl rfl ?_
  refine tr_ic 1 1 (by decide) rfl ?_
  refine tr_s .ishl 1 91 [some (.ref (a0 + 1000)), w1, w2, some (.ref (a3 + 1000)), some (.int x4)] [.int (x4 <<< (1 &&& 31)), .int 0, .ref (a3 + 1000), .ref (a0 + 1000)] h1 rfl rfl rfl ?_
  refine tr_call (.invokestatic 54) 54 2 3 0 m_J7_copyOfRange_39247 [.ref (a3 + 1000), .int 0, .int (x4 <<< (1 &&& 31))] [.ref (a0 + 1000)] (some (.ref (c0 + 1000))) h2 rfl rfl rfl rfl rfl rfl rfl rfl rfl (tr_cok rfl (Or.inl rfl)) c_0 ?_
  have hL0 := c_0.2
  refine tr_pfF 9 (a0 + 1000) 8 0 vs1 (.ref (c0 + 1000)) _ _ rfl rfl (by omega) (by rw [Nat.add_sub_cancel]; exact m1) rfl q1 tr_okr rfl rfl ?_
  rw [← eh1]
  exact tl_ret hLs1 .return_ 1 none rfl rfl rfl rfl hr
theorem sg_J0_init_81219_r_0 {g : tr_g} {d : Nat} {h : ev_AH} {r : ev_O × ev_AH} {a0 a1 : Nat} {h1 : ev_AH} (hL : hh_L h) (c_0 : tr_L g d m_J0_init_db425 0 [some (.ref (a0 + 1000)), some (.ref (a1 + 1000)), some (.null), none, none] [] h (.inl none, h1)) (hr : r = (.inl (none), h1)) : tr_L g (d + 1) m_J0_init_81219 0 [some (.ref (a0 + 1000)), some (.ref (a1 + 1000))] [] h r := by
  refine tr_s (.aload_n 0) 1 1 [some (.ref (a0 + 1000)), some (.ref (a1 + 1000))] [.ref (a0 + 1000)] h rfl rfl rfl ?_
  refine tr_s (.aload_n 1) 1 2 [some (.ref (a0 + 1000)), some (.ref (a1 + 1000))] [.ref (a1 + 1000), .ref (a0 + 1000)] h rfl rfl rfl ?_
  refine tr_s .aconst_null 1 3 [some (.ref (a0 + 1000)), some (.ref (a1 + 1000))] [.null, .ref (a1 + 1000), .ref (a0 + 1000)] h rfl rfl rfl ?_
  refine tr_call (.invokespecial 489) 489 4 2 0 m_J0_init_db425 [.ref (a0 + 1000), .ref (a1 + 1000), .null] [] none h1 rfl rfl rfl rfl rfl rfl rfl rfl rfl (tr_cok rfl (Or.inr ⟨_, _, rfl, tr_rcI rfl⟩)) c_0 ?_
  have hL0 := c_0.2
  exact tl_ret hL0 .return_ 1 none rfl rfl rfl rfl hr
theorem sg_J4_toString_0e30d_r_0 {g : tr_g} {d : Nat} {h : ev_AH} {r : ev_O × ev_AH} {a0 c0 : Nat} {h1 h2 : ev_AH} (hL : hh_L h) (eh0 : h1 = hh_push h (.inr (8, [.null, .int 0, .int 0, .int 0])) 4) (ec0 : c0 = h.1.length) (c_0 : tr_L g d m_J0_init_81219 0 [some (.ref (c0 + 1000)), some (.ref (a0 + 1000))] [] h1 (.inl none, h2)) (hr : r = (.inl (some (.ref (c0 + 1000))), h2)) : tr_L g (d + 1) m_J4_toString_0e30d 0 [some (.ref (a0 + 1000))] [] h r := by
  refine tr_newo 18 8 [.null, .int 0, .int 0, .int 0] 4 (by exact rfl) (by exact rfl) rfl rfl ?_
  rw [← eh0, ← ec0]
  have hL0 : hh_L h1 := by rw [eh0]; exact hh_L_push hL
  refine tr_s .dup 1 4 [some (.ref (a0 + 1000))] [.ref (c0 + 1000), .ref (c0 + 1000)] h1 rfl rfl rfl ?_
  refine tr_s (.aload_n 0) 1 5 [some (.ref (a0 + 1000))] [.ref (a0 + 1000), .ref (c0 + 1000), .ref (c0 + 1000)] h1 rfl rfl rfl ?_
  refine tr_call (.invokespecial 137) 137 4 1 0 m_J0_init_81219 [.ref (c0 + 1000), .ref (a0 + 1000)] [.ref (c0 + 1000)] none h2 rfl rfl rfl rfl rfl rfl rfl rfl rfl (tr_cok rfl (Or.inr ⟨_, _, rfl, tr_rcI rfl⟩)) c_0 ?_
  have hL1 := c_0.2
  exact tl_ret hL1 .areturn 1 (some (.ref (c0 + 1000))) rfl rfl rfl rfl hr
