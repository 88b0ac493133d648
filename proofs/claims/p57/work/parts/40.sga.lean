/-! runs of Box, Court and the rows, from place to place; laid by a program (wip/p57/gen/gen40.py) -/
theorem sg_X8_at__0 {g : tr_g} {d : Nat} {h : ev_AH} {r : ev_O × ev_AH} {a0 : Nat} {x1 : Int32} (hL : hh_L h) (t : x1 < 0 → tr_L g d m_X8_at_ 16 [some (.ref (a0 + 1000)), some (.int x1)] [] h r) (f : 0 ≤ x1 → tr_L g d m_X8_at_ 4 [some (.ref (a0 + 1000)), some (.int x1)] [] h r) : tr_L g d m_X8_at_ 0 [some (.ref (a0 + 1000)), some (.int x1)] [] h r := by
  refine tr_s (.iload_n 1) 1 1 [some (.ref (a0 + 1000)), some (.int x1)] [.int x1] h rfl rfl rfl ?_
  exact tr_if1 .lt 15 16 x1 rfl rfl rfl (fun hc => t ((tr_lt hc).1 rfl)) (fun hc => f ((tr_lt hc).2 rfl))
theorem sg_X8_at__4 {g : tr_g} {d : Nat} {h : ev_AH} {r : ev_O × ev_AH} {a0 : Nat} {x1 : Int32} {l0 : List Int32} (hL : hh_L h) (m0 : h.1[a0]? = some (.inl (1, l0))) (z0 : l0.length < 2147483648) (t : (Int32.ofNat l0.length) ≤ x1 → tr_L g d m_X8_at_ 16 [some (.ref (a0 + 1000)), some (.int x1)] [] h r) (f : x1 < (Int32.ofNat l0.length) → tr_L g d m_X8_at_ 10 [some (.ref (a0 + 1000)), some (.int x1)] [] h r) : tr_L g d m_X8_at_ 4 [some (.ref (a0 + 1000)), some (.int x1)] [] h r := by
  refine tr_s (.iload_n 1) 1 5 [some (.ref (a0 + 1000)), some (.int x1)] [.int x1] h rfl rfl rfl ?_
  refine tr_s (.aload_n 0) 1 6 [some (.ref (a0 + 1000)), some (.int x1)] [.ref (a0 + 1000), .int x1] h rfl rfl rfl ?_
  refine tr_alen _ 1 l0 rfl (hh_rd m0) (by decide) ?_
  exact tr_if2 .ge 9 16 x1 (Int32.ofNat l0.length) rfl rfl rfl (fun hc => t ((tr_ge hc).1 rfl)) (fun hc => f ((tr_ge hc).2 rfl))
theorem sg_X8_at__10 {g : tr_g} {d : Nat} {h : ev_AH} {r : ev_O × ev_AH} {a0 j0 : Nat} {x1 : Int32} {l0 : List Int32} (hL : hh_L h) (e0 : x1 = Int32.ofNat j0) (m0 : h.1[a0]? = some (.inl (1, l0))) (z0 : l0.length < 2147483648) (b0 : j0 < l0.length) (hc0 : tr_ch (l0.getD j0 0)) (hr : r = (.inl (some (.int (l0.getD j0 0))), h)) : tr_L g d m_X8_at_ 10 [some (.ref (a0 + 1000)), some (.int x1)] [] h r := by
  refine tr_s (.aload_n 0) 1 11 [some (.ref (a0 + 1000)), some (.int x1)] [.ref (a0 + 1000)] h rfl rfl rfl ?_
  refine tr_s (.iload_n 1) 1 12 [some (.ref (a0 + 1000)), some (.int x1)] [.int x1, .ref (a0 + 1000)] h rfl rfl rfl ?_
  refine tr_ald .caload 1 _ j0 x1 l0 (Or.inr (Or.inl ⟨rfl, rfl, by omega⟩)) rfl (hh_rd m0) e0 b0 z0 ?_
  refine tr_goto 4 17 rfl rfl rfl ?_
  exact tl_ret hL .ireturn 1 (some (.int (l0.getD j0 0))) rfl rfl rfl (tr_ec rfl hc0) hr
theorem sg_X8_at__16 {g : tr_g} {d : Nat} {h : ev_AH} {r : ev_O × ev_AH} {w0 w1 : Option Value} (hL : hh_L h) (hr : r = (.inl (some (.int 0)), h)) : tr_L g d m_X8_at_ 16 [w0, w1] [] h r := by
  refine tr_ic 0 0 (by decide) rfl ?_
  exact tl_ret hL .ireturn 1 (some (.int 0)) rfl rfl rfl rfl hr
theorem sg_X8_at_0 {g : tr_g} {d : Nat} {h : ev_AH} {r : ev_O × ev_AH} {a0 : Nat} {x1 : Int32} (hL : hh_L h) (t : x1 < 0 → tr_L g d m_X8_at 16 [some (.ref (a0 + 1000)), some (.int x1)] [] h r) (f : 0 ≤ x1 → tr_L g d m_X8_at 4 [some (.ref (a0 + 1000)), some (.int x1)] [] h r) : tr_L g d m_X8_at 0 [some (.ref (a0 + 1000)), some (.int x1)] [] h r := by
  refine tr_s (.iload_n 1) 1 1 [some (.ref (a0 + 1000)), some (.int x1)] [.int x1] h rfl rfl rfl ?_
  exact tr_if1 .lt 15 16 x1 rfl rfl rfl (fun hc => t ((tr_lt hc).1 rfl)) (fun hc => f ((tr_lt hc).2 rfl))
theorem sg_X8_at_4 {g : tr_g} {d : Nat} {h : ev_AH} {r : ev_O × ev_AH} {a0 : Nat} {x1 : Int32} {l0 : List Int32} (hL : hh_L h) (m0 : h.1[a0]? = some (.inl (0, l0))) (z0 : l0.length < 2147483648) (t : (Int32.ofNat l0.length) ≤ x1 → tr_L g d m_X8_at 16 [some (.ref (a0 + 1000)), some (.int x1)] [] h r) (f : x1 < (Int32.ofNat l0.length) → tr_L g d m_X8_at 10 [some (.ref (a0 + 1000)), some (.int x1)] [] h r) : tr_L g d m_X8_at 4 [some (.ref (a0 + 1000)), some (.int x1)] [] h r := by
  refine tr_s (.iload_n 1) 1 5 [some (.ref (a0 + 1000)), some (.int x1)] [.int x1] h rfl rfl rfl ?_
  refine tr_s (.aload_n 0) 1 6 [some (.ref (a0 + 1000)), some (.int x1)] [.ref (a0 + 1000), .int x1] h rfl rfl rfl ?_
  refine tr_alen _ 0 l0 rfl (hh_rd m0) (by decide) ?_
  exact tr_if2 .ge 9 16 x1 (Int32.ofNat l0.length) rfl rfl rfl (fun hc => t ((tr_ge hc).1 rfl)) (fun hc => f ((tr_ge hc).2 rfl))
theorem sg_X8_at_10 {g : tr_g} {d : Nat} {h : ev_AH} {r : ev_O × ev_AH} {a0 j0 : Nat} {x1 : Int32} {l0 : List Int32} (hL : hh_L h) (e0 : x1 = Int32.ofNat j0) (m0 : h.1[a0]? = some (.inl (0, l0))) (z0 : l0.length < 2147483648) (b0 : j0 < l0.length) (hr : r = (.inl (some (.int (l0.getD j0 0))), h)) : tr_L g d m_X8_at 10 [some (.ref (a0 + 1000)), some (.int x1)] [] h r := by
  refine tr_s (.aload_n 0) 1 11 [some (.ref (a0 + 1000)), some (.int x1)] [.ref (a0 + 1000)] h rfl rfl rfl ?_
  refine tr_s (.iload_n 1) 1 12 [some (.ref (a0 + 1000)), some (.int x1)] [.int x1, .ref (a0 + 1000)] h rfl rfl rfl ?_
  refine tr_ald .iaload 0 _ j0 x1 l0 (Or.inl ⟨rfl, rfl⟩) rfl (hh_rd m0) e0 b0 z0 ?_
  refine tr_goto 4 17 rfl rfl rfl ?_
  exact tl_ret hL .ireturn 1 (some (.int (l0.getD j0 0))) rfl rfl rfl rfl hr
theorem sg_X8_at_16 {g : tr_g} {d : Nat} {h : ev_AH} {r : ev_O × ev_AH} {w0 w1 : Option Value} (hL : hh_L h) (hr : r = (.inl (some (.int 0)), h)) : tr_L g d m_X8_at 16 [w0, w1] [] h r := by
  refine tr_ic 0 0 (by decide) rfl ?_
  exact tl_ret hL .ireturn 1 (some (.int 0)) rfl rfl rfl rfl hr
theorem sg_X8_put__0 {g : tr_g} {d : Nat} {h : ev_AH} {r : ev_O × ev_AH} {a0 : Nat} {x1 x2 : Int32} (hL : hh_L h) (t : x1 < 0 → tr_L g d m_X8_put_ 14 [some (.ref (a0 + 1000)), some (.int x1), some (.int x2)] [] h r) (f : 0 ≤ x1 → tr_L g d m_X8_put_ 4 [some (.ref (a0 + 1000)), some (.int x1), some (.int x2)] [] h r) : tr_L g d m_X8_put_ 0 [some (.ref (a0 + 1000)), some (.int x1), some (.int x2)] [] h r := by
  refine tr_s (.iload_n 1) 1 1 [some (.ref (a0 + 1000)), some (.int x1), some (.int x2)] [.int x1] h rfl rfl rfl ?_
  exact tr_if1 .lt 13 14 x1 rfl rfl rfl (fun hc => t ((tr_lt hc).1 rfl)) (fun hc => f ((tr_lt hc).2 rfl))
theorem sg_X8_put__4 {g : tr_g} {d : Nat} {h : ev_AH} {r : ev_O × ev_AH} {a0 : Nat} {x1 x2 : Int32} {l0 : List Int32} (hL : hh_L h) (m0 : h.1[a0]? = some (.inl (1, l0))) (z0 : l0.length < 2147483648) (t : (Int32.ofNat l0.length) ≤ x1 → tr_L g d m_X8_put_ 14 [some (.ref (a0 + 1000)), some (.int x1), some (.int x2)] [] h r) (f : x1 < (Int32.ofNat l0.length) → tr_L g d m_X8_put_ 10 [some (.ref (a0 + 1000)), some (.int x1), some (.int x2)] [] h r) : tr_L g d m_X8_put_ 4 [some (.ref (a0 + 1000)), some (.int x1), some (.int x2)] [] h r := by
  refine tr_s (.iload_n 1) 1 5 [some (.ref (a0 + 1000)), some (.int x1), some (.int x2)] [.int x1] h rfl rfl rfl ?_
  refine tr_s (.aload_n 0) 1 6 [some (.ref (a0 + 1000)), some (.int x1), some (.int x2)] [.ref (a0 + 1000), .int x1] h rfl rfl rfl ?_
  refine tr_alen _ 1 l0 rfl (hh_rd m0) (by decide) ?_
  exact tr_if2 .ge 7 14 x1 (Int32.ofNat l0.length) rfl rfl rfl (fun hc => t ((tr_ge hc).1 rfl)) (fun hc => f ((tr_ge hc).2 rfl))
theorem sg_X8_put__10 {g : tr_g} {d : Nat} {h : ev_AH} {r : ev_O × ev_AH} {a0 j0 : Nat} {x1 x2 : Int32} {l0 : List Int32} (hL : hh_L h) (e0 : x1 = Int32.ofNat j0) (hc0 : tr_ch x2) (m0 : h.1[a0]? = some (.inl (1, l0))) (z0 : l0.length < 2147483648) (b0 : j0 < l0.length) (hr : r = (.inl (none), ev_wr h (a0 + 1000) (.inl (1, l0.set j0 x2)))) (hLe : hh_L (ev_wr h (a0 + 1000) (.inl (1, l0.set j0 x2)))) : tr_L g d m_X8_put_ 10 [some (.ref (a0 + 1000)), some (.int x1), some (.int x2)] [] h r := by
  refine tr_s (.aload_n 0) 1 11 [some (.ref (a0 + 1000)), some (.int x1), some (.int x2)] [.ref (a0 + 1000)] h rfl rfl rfl ?_
  refine tr_s (.iload_n 1) 1 12 [some (.ref (a0 + 1000)), some (.int x1), some (.int x2)] [.int x1, .ref (a0 + 1000)] h rfl rfl rfl ?_
  refine tr_s (.iload_n 2) 1 13 [some (.ref (a0 + 1000)), some (.int x1), some (.int x2)] [.int x2, .int x1, .ref (a0 + 1000)] h rfl rfl rfl ?_
  refine tr_cas (a0 + 1000) j0 x1 x2 l0 rfl (by omega) (by rw [Nat.add_sub_cancel]; exact m0) e0 b0 z0 (tr_nac hc0) ?_
  exact tl_ret hLe .return_ 1 none rfl rfl rfl rfl hr
theorem sg_X8_put__14 {g : tr_g} {d : Nat} {h : ev_AH} {r : ev_O × ev_AH} {w0 w1 w2 : Option Value} (hL : hh_L h) (hr : r = (.inl (none), h)) : tr_L g d m_X8_put_ 14 [w0, w1, w2] [] h r := by
  exact tl_ret hL .return_ 1 none rfl rfl rfl rfl hr
theorem sg_X8_put_0 {g : tr_g} {d : Nat} {h : ev_AH} {r : ev_O × ev_AH} {a0 : Nat} {x1 x2 : Int32} (hL : hh_L h) (t : x1 < 0 → tr_L g d m_X8_put 14 [some (.ref (a0 + 1000)), some (.int x1), some (.int x2)] [] h r) (f : 0 ≤ x1 → tr_L g d m_X8_put 4 [some (.ref (a0 + 1000)), some (.int x1), some (.int x2)] [] h r) : tr_L g d m_X8_put 0 [some (.ref (a0 + 1000)), some (.int x1), some (.int x2)] [] h r := by
  refine tr_s (.iload_n 1) 1 1 [some (.ref (a0 + 1000)), some (.int x1), some (.int x2)] [.int x1] h rfl rfl rfl ?_
  exact tr_if1 .lt 13 14 x1 rfl rfl rfl (fun hc => t ((tr_lt hc).1 rfl)) (fun hc => f ((tr_lt hc).2 rfl))
theorem sg_X8_put_4 {g : tr_g} {d : Nat} {h : ev_AH} {r : ev_O × ev_AH} {a0 : Nat} {x1 x2 : Int32} {l0 : List Int32} (hL : hh_L h) (m0 : h.1[a0]? = some (.inl (0, l0))) (z0 : l0.length < 2147483648) (t : (Int32.ofNat l0.length) ≤ x1 → tr_L g d m_X8_put 14 [some (.ref (a0 + 1000)), some (.int x1), some (.int x2)] [] h r) (f : x1 < (Int32.ofNat l0.length) → tr_L g d m_X8_put 10 [some (.ref (a0 + 1000)), some (.int x1), some (.int x2)] [] h r) : tr_L g d m_X8_put 4 [some (.ref (a0 + 1000)), some (.int x1), some (.int x2)] [] h r := by
  refine tr_s (.iload_n 1) 1 5 [some (.ref (a0 + 1000)), some (.int x1), some (.int x2)] [.int x1] h rfl rfl rfl ?_
  refine tr_s (.aload_n 0) 1 6 [some (.ref (a0 + 1000)), some (.int x1), some (.int x2)] [.ref (a0 + 1000), .int x1] h rfl rfl rfl ?_
  refine tr_alen _ 0 l0 rfl (hh_rd m0) (by decide) ?_
  exact tr_if2 .ge 7 14 x1 (Int32.ofNat l0.length) rfl rfl rfl (fun hc => t ((tr_ge hc).1 rfl)) (fun hc => f ((tr_ge hc).2 rfl))
theorem sg_X8_put_10 {g : tr_g} {d : Nat} {h : ev_AH} {r : ev_O × ev_AH} {a0 j0 : Nat} {x1 x2 : Int32} {l0 : List Int32} (hL : hh_L h) (e0 : x1 = Int32.ofNat j0) (m0 : h.1[a0]? = some (.inl (0, l0))) (z0 : l0.length < 2147483648) (b0 : j0 < l0.length) (hr : r = (.inl (none), ev_wr h (a0 + 1000) (.inl (0, l0.set j0 x2)))) (hLe : hh_L (ev_wr h (a0 + 1000) (.inl (0, l0.set j0 x2)))) : tr_L g d m_X8_put 10 [some (.ref (a0 + 1000)), some (.int x1), some (.int x2)] [] h r := by
  refine tr_s (.aload_n 0) 1 11 [some (.ref (a0 + 1000)), some (.int x1), some (.int x2)] [.ref (a0 + 1000)] h rfl rfl rfl ?_
  refine tr_s (.iload_n 1) 1 12 [some (.ref (a0 + 1000)), some (.int x1), some (.int x2)] [.int x1, .ref (a0 + 1000)] h rfl rfl rfl ?_
  refine tr_s (.iload_n 2) 1 13 [some (.ref (a0 + 1000)), some (.int x1), some (.int x2)] [.int x2, .int x1, .ref (a0 + 1000)] h rfl rfl rfl ?_
  refine tr_ias (a0 + 1000) j0 x1 x2 l0 rfl (by omega) (by rw [Nat.add_sub_cancel]; exact m0) e0 b0 z0 ?_
  exact tl_ret hLe .return_ 1 none rfl rfl rfl rfl hr
theorem sg_X8_put_14 {g : tr_g} {d : Nat} {h : ev_AH} {r : ev_O × ev_AH} {w0 w1 w2 : Option Value} (hL : hh_L h) (hr : r = (.inl (none), h)) : tr_L g d m_X8_put 14 [w0, w1, w2] [] h r := by
  exact tl_ret hL .return_ 1 none rfl rfl rfl rfl hr
theorem sg_X8_copy__0 {g : tr_g} {d : Nat} {h : ev_AH} {r : ev_O × ev_AH} {a0 a1 : Nat} (hL : hh_L h) (k : tr_L g d m_X8_copy_ 2 [some (.ref (a0 + 1000)), some (.ref (a1 + 1000)), some (.int 0)] [] h r) : tr_L g d m_X8_copy_ 0 [some (.ref (a0 + 1000)), some (.ref (a1 + 1000)), none] [] h r := by
  refine tr_ic 0 0 (by decide) rfl ?_
  refine tr_st (.istore_n 2) 1 2 0 (.int 0) rfl rfl rfl rfl rfl rfl rfl ?_
  exact k
theorem sg_X8_copy__2 {g : tr_g} {d : Nat} {h : ev_AH} {r : ev_O × ev_AH} {a0 a1 : Nat} {x2 : Int32} {l0 : List Int32} (hL : hh_L h) (m0 : h.1[a0]? = some (.inl (1, l0))) (z0 : l0.length < 2147483648) (t : (Int32.ofNat l0.length) ≤ x2 → tr_L g d m_X8_copy_ 26 [some (.ref (a0 + 1000)), some (.ref (a1 + 1000)), some (.int x2)] [] h r) (f : x2 < (Int32.ofNat l0.length) → tr_L g d m_X8_copy_ 8 [some (.ref (a0 + 1000)), some (.ref (a1 + 1000)), some (.int x2)] [] h r) : tr_L g d m_X8_copy_ 2 [some (.ref (a0 + 1000)), some (.ref (a1 + 1000)), some (.int x2)] [] h r := by
  refine tr_s (.iload_n 2) 1 3 [some (.ref (a0 + 1000)), some (.ref (a1 + 1000)), some (.int x2)] [.int x2] h rfl rfl rfl ?_
  refine tr_s (.aload_n 0) 1 4 [some (.ref (a0 + 1000)), some (.ref (a1 + 1000)), some (.int x2)] [.ref (a0 + 1000), .int x2] h rfl rfl rfl ?_
  refine tr_alen _ 1 l0 rfl (hh_rd m0) (by decide) ?_
  exact tr_if2 .ge 21 26 x2 (Int32.ofNat l0.length) rfl rfl rfl (fun hc => t ((tr_ge hc).1 rfl)) (fun hc => f ((tr_ge hc).2 rfl))
theorem sg_X8_copy__8 {g : tr_g} {d : Nat} {h : ev_AH} {r : ev_O × ev_AH} {a0 a1 : Nat} {x2 : Int32} {l0 : List Int32} (hL : hh_L h) (m0 : h.1[a1]? = some (.inl (1, l0))) (z0 : l0.length < 2147483648) (t : (Int32.ofNat l0.length) ≤ x2 → tr_L g d m_X8_copy_ 26 [some (.ref (a0 + 1000)), some (.ref (a1 + 1000)), some (.int x2)] [] h r) (f : x2 < (Int32.ofNat l0.length) → tr_L g d m_X8_copy_ 14 [some (.ref (a0 + 1000)), some (.ref (a1 + 1000)), some (.int x2)] [] h r) : tr_L g d m_X8_copy_ 8 [some (.ref (a0 + 1000)), some (.ref (a1 + 1000)), some (.int x2)] [] h r := by
  refine tr_s (.iload_n 2) 1 9 [some (.ref (a0 + 1000)), some (.ref (a1 + 1000)), some (.int x2)] [.int x2] h rfl rfl rfl ?_
  refine tr_s (.aload_n 1) 1 10 [some (.ref (a0 + 1000)), some (.ref (a1 + 1000)), some (.int x2)] [.ref (a1 + 1000), .int x2] h rfl rfl rfl ?_
  refine tr_alen _ 1 l0 rfl (hh_rd m0) (by decide) ?_
  exact tr_if2 .ge 15 26 x2 (Int32.ofNat l0.length) rfl rfl rfl (fun hc => t ((tr_ge hc).1 rfl)) (fun hc => f ((tr_ge hc).2 rfl))
theorem sg_X8_copy__14 {g : tr_g} {d : Nat} {h : ev_AH} {r : ev_O × ev_AH} {a0 a1 j0 j1 : Nat} {x2 : Int32} {l0 l1 : List Int32} (hL : hh_L h) (e0 : x2 = Int32.ofNat j0) (m0 : h.1[a0]? = some (.inl (1, l0))) (z0 : l0.length < 2147483648) (b0 : j0 < l0.length) (e1 : x2 = Int32.ofNat j1) (hc0 : tr_ch (l0.getD j0 0)) (m1 : h.1[a1]? = some (.inl (1, l1))) (z1 : l1.length < 2147483648) (b1 : j1 < l1.length) (k : tr_L g d m_X8_copy_ 2 [some (.ref (a0 + 1000)), some (.ref (a1 + 1000)), some (.int (x2 + 1))] [] (ev_wr h (a1 + 1000) (.inl (1, l1.set j1 (l0.getD j0 0)))) r) : tr_L g d m_X8_copy_ 14 [some (.ref (a0 + 1000)), some (.ref (a1 + 1000)), some (.int x2)] [] h r := by
  refine tr_s (.aload_n 1) 1 15 [some (.ref (a0 + 1000)), some (.ref (a1 + 1000)), some (.int x2)] [.ref (a1 + 1000)] h rfl rfl rfl ?_
  refine tr_s (.iload_n 2) 1 16 [some (.ref (a0 + 1000)), some (.ref (a1 + 1000)), some (.int x2)] [.int x2, .ref (a1 + 1000)] h rfl rfl rfl ?_
  refine tr_s (.aload_n 0) 1 17 [some (.ref (a0 + 1000)), some (.ref (a1 + 1000)), some (.int x2)] [.ref (a0 + 1000), .int x2, .ref (a1 + 1000)] h rfl rfl rfl ?_
  refine tr_s (.iload_n 2) 1 18 [some (.ref (a0 + 1000)), some (.ref (a1 + 1000)), some (.int x2)] [.int x2, .ref (a0 + 1000), .int x2, .ref (a1 + 1000)] h rfl rfl rfl ?_
  refine tr_ald .caload 1 _ j0 x2 l0 (Or.inr (Or.inl ⟨rfl, rfl, by omega⟩)) rfl (hh_rd m0) e0 b0 z0 ?_
  refine tr_cas (a1 + 1000) j1 x2 (l0.getD j0 0) l1 rfl (by omega) (by rw [Nat.add_sub_cancel]; exact m1) e1 b1 z1 (tr_nac hc0) ?_
  refine tr_inc 2 1 x2 1 (by decide) rfl rfl rfl ?_
  refine tr_goto (-21) 2 rfl rfl rfl ?_
  exact k
theorem sg_X8_copy__26 {g : tr_g} {d : Nat} {h : ev_AH} {r : ev_O × ev_AH} {w0 w1 w2 : Option Value} (hL : hh_L h) (hr : r = (.inl (none), h)) : tr_L g d m_X8_copy_ 26 [w0, w1, w2] [] h r := by
  exact tl_ret hL .return_ 1 none rfl rfl rfl rfl hr
theorem sg_X8_copy_0 {g : tr_g} {d : Nat} {h : ev_AH} {r : ev_O × ev_AH} {a0 a1 : Nat} (hL : hh_L h) (k : tr_L g d m_X8_copy 2 [some (.ref (a0 + 1000)), some (.ref (a1 + 1000)), some (.int 0)] [] h r) : tr_L g d m_X8_copy 0 [some (.ref (a0 + 1000)), some (.ref (a1 + 1000)), none] [] h r := by
  refine tr_ic 0 0 (by decide) rfl ?_
  refine tr_st (.istore_n 2) 1 2 0 (.int 0) rfl rfl rfl rfl rfl rfl rfl ?_
  exact k
theorem sg_X8_copy_2 {g : tr_g} {d : Nat} {h : ev_AH} {r : ev_O × ev_AH} {a0 a1 : Nat} {x2 : Int32} {l0 : List Int32} (hL : hh_L h) (m0 : h.1[a0]? = some (.inl (0, l0))) (z0 : l0.length < 2147483648) (t : (Int32.ofNat l0.length) ≤ x2 → tr_L g d m_X8_copy 26 [some (.ref (a0 + 1000)), some (.ref (a1 + 1000)), some (.int x2)] [] h r) (f : x2 < (Int32.ofNat l0.length) → tr_L g d m_X8_copy 8 [some (.ref (a0 + 1000)), some (.ref (a1 + 1000)), some (.int x2)] [] h r) : tr_L g d m_X8_copy 2 [some (.ref (a0 + 1000)), some (.ref (a1 + 1000)), some (.int x2)] [] h r := by
  refine tr_s (.iload_n 2) 1 3 [some (.ref (a0 + 1000)), some (.ref (a1 + 1000)), some (.int x2)] [.int x2] h rfl rfl rfl ?_
  refine tr_s (.aload_n 0) 1 4 [some (.ref (a0 + 1000)), some (.ref (a1 + 1000)), some (.int x2)] [.ref (a0 + 1000), .int x2] h rfl rfl rfl ?_
  refine tr_alen _ 0 l0 rfl (hh_rd m0) (by decide) ?_
  exact tr_if2 .ge 21 26 x2 (Int32.ofNat l0.length) rfl rfl rfl (fun hc => t ((tr_ge hc).1 rfl)) (fun hc => f ((tr_ge hc).2 rfl))
theorem sg_X8_copy_8 {g : tr_g} {d : Nat} {h : ev_AH} {r : ev_O × ev_AH} {a0 a1 : Nat} {x2 : Int32} {l0 : List Int32} (hL : hh_L h) (m0 : h.1[a1]? = some (.inl (0, l0))) (z0 : l0.length < 2147483648) (t : (Int32.ofNat l0.length) ≤ x2 → tr_L g d m_X8_copy 26 [some (.ref (a0 + 1000)), some (.ref (a1 + 1000)), some (.int x2)] [] h r) (f : x2 < (Int32.ofNat l0.length) → tr_L g d m_X8_copy 14 [some (.ref (a0 + 1000)), some (.ref (a1 + 1000)), some (.int x2)] [] h r) : tr_L g d m_X8_copy 8 [some (.ref (a0 + 1000)), some (.ref (a1 + 1000)), some (.int x2)] [] h r := by
  refine tr_s (.iload_n 2) 1 9 [some (.ref (a0 + 1000)), some (.ref (a1 + 1000)), some (.int x2)] [.int x2] h rfl rfl rfl ?_
  refine tr_s (.aload_n 1) 1 10 [some (.ref (a0 + 1000)), some (.ref (a1 + 1000)), some (.int x2)] [.ref (a1 + 1000), .int x2] h rfl rfl rfl ?_
  refine tr_alen _ 0 l0 rfl (hh_rd m0) (by decide) ?_
  exact tr_if2 .ge 15 26 x2 (Int32.ofNat l0.length) rfl rfl rfl (fun hc => t ((tr_ge hc).1 rfl)) (fun hc => f ((tr_ge hc).2 rfl))
theorem sg_X8_copy_14 {g : tr_g} {d : Nat} {h : ev_AH} {r : ev_O × ev_AH} {a0 a1 j0 j1 : Nat} {x2 : Int32} {l0 l1 : List Int32} (hL : hh_L h) (e0 : x2 = Int32.ofNat j0) (m0 : h.1[a0]? = some (.inl (0, l0))) (z0 : l0.length < 2147483648) (b0 : j0 < l0.length) (e1 : x2 = Int32.ofNat j1) (m1 : h.1[a1]? = some (.inl (0, l1))) (z1 : l1.length < 2147483648) (b1 : j1 < l1.length) (k : tr_L g d m_X8_copy 2 [some (.ref (a0 + 1000)), some (.ref (a1 + 1000)), some (.int (x2 + 1))] [] (ev_wr h (a1 + 1000) (.inl (0, l1.set j1 (l0.getD j0 0)))) r) : tr_L g d m_X8_copy 14 [some (.ref (a0 + 1000)), some (.ref (a1 + 1000)), some (.int x2)] [] h r := by
  refine tr_s (.aload_n 1) 1 15 [some (.ref (a0 + 1000)), some (.ref (a1 + 1000)), some (.int x2)] [.ref (a1 + 1000)] h rfl rfl rfl ?_
  refine tr_s (.iload_n 2) 1 16 [some (.ref (a0 + 1000)), some (.ref (a1 + 1000)), some (.int x2)] [.int x2, .ref (a1 + 1000)] h rfl rfl rfl ?_
  refine tr_s (.aload_n 0) 1 17 [some (.ref (a0 + 1000)), some (.ref (a1 + 1000)), some (.int x2)] [.ref (a0 + 1000), .int x2, .ref (a1 + 1000)] h rfl rfl rfl ?_
  refine tr_s (.iload_n 2) 1 18 [some (.ref (a0 + 1000)), some (.ref (a1 + 1000)), some (.int x2)] [.int x2, .ref (a0 + 1000), .int x2, .ref (a1 + 1000)] h rfl rfl rfl ?_
  refine tr_ald .iaload 0 _ j0 x2 l0 (Or.inl ⟨rfl, rfl⟩) rfl (hh_rd m0) e0 b0 z0 ?_
  refine tr_ias (a1 + 1000) j1 x2 (l0.getD j0 0) l1 rfl (by omega) (by rw [Nat.add_sub_cancel]; exact m1) e1 b1 z1 ?_
  refine tr_inc 2 1 x2 1 (by decide) rfl rfl rfl ?_
  refine tr_goto (-21) 2 rfl rfl rfl ?_
  exact k
theorem sg_X8_copy_26 {g : tr_g} {d : Nat} {h : ev_AH} {r : ev_O × ev_AH} {w0 w1 w2 : Option Value} (hL : hh_L h) (hr : r = (.inl (none), h)) : tr_L g d m_X8_copy 26 [w0, w1, w2] [] h r := by
  exact tl_ret hL .return_ 1 none rfl rfl rfl rfl hr
theorem sg_X0_cellAt_0 {g : tr_g} {d : Nat} {h : ev_AH} {r : ev_O × ev_AH} {x0 : Int32} (hL : hh_L h) (t : 7 ≤ x0 → tr_L g d m_X0_cellAt 8 [some (.int x0)] [] h r) (f : x0 < 7 → tr_L g d m_X0_cellAt 6 [some (.int x0)] [] h r) : tr_L g d m_X0_cellAt 0 [some (.int x0)] [] h r := by
  refine tr_s (.iload_n 0) 1 1 [some (.int x0)] [.int x0] h rfl rfl rfl ?_
  refine tr_bi 7 7 (by decide) rfl ?_
  exact tr_if2 .ge 5 8 x0 7 rfl rfl rfl (fun hc => t ((tr_ge hc).1 rfl)) (fun hc => f ((tr_ge hc).2 rfl))
theorem sg_X0_cellAt_6 {g : tr_g} {d : Nat} {h : ev_AH} {r : ev_O × ev_AH} {x0 : Int32} (hL : hh_L h) (hr : r = (.inl (some (.int x0)), h)) : tr_L g d m_X0_cellAt 6 [some (.int x0)] [] h r := by
  refine tr_s (.iload_n 0) 1 7 [some (.int x0)] [.int x0] h rfl rfl rfl ?_
  exact tl_ret hL .ireturn 1 (some (.int x0)) rfl rfl rfl rfl hr
theorem sg_X0_cellAt_8 {g : tr_g} {d : Nat} {h : ev_AH} {r : ev_O × ev_AH} {x0 : Int32} (hL : hh_L h) (t : 12 ≤ x0 → tr_L g d m_X0_cellAt 27 [some (.int x0)] [] h r) (f : x0 < 12 → tr_L g d m_X0_cellAt 14 [some (.int x0)] [] h r) : tr_L g d m_X0_cellAt 8 [some (.int x0)] [] h r := by
  refine tr_s (.iload_n 0) 1 9 [some (.int x0)] [.int x0] h rfl rfl rfl ?_
  refine tr_bi 12 12 (by decide) rfl ?_
  exact tr_if2 .ge 16 27 x0 12 rfl rfl rfl (fun hc => t ((tr_ge hc).1 rfl)) (fun hc => f ((tr_ge hc).2 rfl))
theorem sg_X0_cellAt_14 {g : tr_g} {d : Nat} {h : ev_AH} {r : ev_O × ev_AH} {x0 : Int32} (hL : hh_L h) (hr : r = (.inl (some (.int (((7 * (x0 - 7)) + 7) - 1))), h)) : tr_L g d m_X0_cellAt 14 [some (.int x0)] [] h r := by
  refine tr_bi 7 7 (by decide) rfl ?_
  refine tr_s (.iload_n 0) 1 17 [some (.int x0)] [.int x0, .int 7] h rfl rfl rfl ?_
  refine tr_bi 7 7 (by decide) rfl ?_
  refine tr_s .isub 1 20 [some (.int x0)] [.int (x0 - 7), .int 7] h rfl rfl rfl ?_
  refine tr_s .imul 1 21 [some (.int x0)] [.int (7 * (x0 - 7))] h rfl rfl rfl ?_
  refine tr_bi 7 7 (by decide) rfl ?_
  refine tr_s .iadd 1 24 [some (.int x0)] [.int ((7 * (x0 - 7)) + 7)] h rfl rfl rfl ?_
  refine tr_ic 1 1 (by decide) rfl ?_
  refine tr_s .isub 1 26 [some (.int x0)] [.int (((7 * (x0 - 7)) + 7) - 1)] h rfl rfl rfl ?_
  exact tl_ret hL .ireturn 1 (some (.int (((7 * (x0 - 7)) + 7) - 1))) rfl rfl rfl rfl hr
theorem sg_X0_cellAt_27 {g : tr_g} {d : Nat} {h : ev_AH} {r : ev_O × ev_AH} {x0 : Int32} (hL : hh_L h) (t : 19 ≤ x0 → tr_L g d m_X0_cellAt 38 [some (.int x0)] [] h r) (f : x0 < 19 → tr_L g d m_X0_cellAt 33 [some (.int x0)] [] h r) : tr_L g d m_X0_cellAt 27 [some (.int x0)] [] h r := by
  refine tr_s (.iload_n 0) 1 28 [some (.int x0)] [.int x0] h rfl rfl rfl ?_
  refine tr_bi 19 19 (by decide) rfl ?_
  exact tr_if2 .ge 8 38 x0 19 rfl rfl rfl (fun hc => t ((tr_ge hc).1 rfl)) (fun hc => f ((tr_ge hc).2 rfl))
theorem sg_X0_cellAt_33 {g : tr_g} {d : Nat} {h : ev_AH} {r : ev_O × ev_AH} {x0 : Int32} (hL : hh_L h) (hr : r = (.inl (some (.int (46 - x0))), h)) : tr_L g d m_X0_cellAt 33 [some (.int x0)] [] h r := by
  refine tr_bi 46 46 (by decide) rfl ?_
  refine tr_s (.iload_n 0) 1 36 [some (.int x0)] [.int x0, .int 46] h rfl rfl rfl ?_
  refine tr_s .isub 1 37 [some (.int x0)] [.int (46 - x0)] h rfl rfl rfl ?_
  exact tl_ret hL .ireturn 1 (some (.int (46 - x0))) rfl rfl rfl rfl hr
theorem sg_X0_cellAt_38 {g : tr_g} {d : Nat} {h : ev_AH} {r : ev_O × ev_AH} {x0 : Int32} (hL : hh_L h) (hr : r = (.inl (some (.int (7 * (23 - x0)))), h)) : tr_L g d m_X0_cellAt 38 [some (.int x0)] [] h r := by
  refine tr_bi 7 7 (by decide) rfl ?_
  refine tr_bi 23 23 (by decide) rfl ?_
  refine tr_s (.iload_n 0) 1 43 [some (.int x0)] [.int x0, .int 23, .int 7] h rfl rfl rfl ?_
  refine tr_s .isub 1 44 [some (.int x0)] [.int (23 - x0), .int 7] h rfl rfl rfl ?_
  refine tr_s .imul 1 45 [some (.int x0)] [.int (7 * (23 - x0))] h rfl rfl rfl ?_
  exact tl_ret hL .ireturn 1 (some (.int (7 * (23 - x0)))) rfl rfl rfl rfl hr
theorem sg_X0_directionAt_0 {g : tr_g} {d : Nat} {h : ev_AH} {r : ev_O × ev_AH} {x0 : Int32} (hL : hh_L h) (t : 7 ≤ x0 → tr_L g d m_X0_directionAt 8 [some (.int x0)] [] h r) (f : x0 < 7 → tr_L g d m_X0_directionAt 6 [some (.int x0)] [] h r) : tr_L g d m_X0_directionAt 0 [some (.int x0)] [] h r := by
  refine tr_s (.iload_n 0) 1 1 [some (.int x0)] [.int x0] h rfl rfl rfl ?_
  refine tr_bi 7 7 (by decide) rfl ?_
  exact tr_if2 .ge 5 8 x0 7 rfl rfl rfl (fun hc => t ((tr_ge hc).1 rfl)) (fun hc => f ((tr_ge hc).2 rfl))
theorem sg_X0_directionAt_6 {g : tr_g} {d : Nat} {h : ev_AH} {r : ev_O × ev_AH} {w0 : Option Value} (hL : hh_L h) (hr : r = (.inl (some (.int 2)), h)) : tr_L g d m_X0_directionAt 6 [w0] [] h r := by
  refine tr_ic 2 2 (by decide) rfl ?_
  exact tl_ret hL .ireturn 1 (some (.int 2)) rfl rfl rfl rfl hr
theorem sg_X0_directionAt_8 {g : tr_g} {d : Nat} {h : ev_AH} {r : ev_O × ev_AH} {x0 : Int32} (hL : hh_L h) (t : 12 ≤ x0 → tr_L g d m_X0_directionAt 16 [some (.int x0)] [] h r) (f : x0 < 12 → tr_L g d m_X0_directionAt 14 [some (.int x0)] [] h r) : tr_L g d m_X0_directionAt 8 [some (.int x0)] [] h r := by
  refine tr_s (.iload_n 0) 1 9 [some (.int x0)] [.int x0] h rfl rfl rfl ?_
  refine tr_bi 12 12 (by decide) rfl ?_
  exact tr_if2 .ge 5 16 x0 12 rfl rfl rfl (fun hc => t ((tr_ge hc).1 rfl)) (fun hc => f ((tr_ge hc).2 rfl))
theorem sg_X0_directionAt_14 {g : tr_g} {d : Nat} {h : ev_AH} {r : ev_O × ev_AH} {w0 : Option Value} (hL : hh_L h) (hr : r = (.inl (some (.int 3)), h)) : tr_L g d m_X0_directionAt 14 [w0] [] h r := by
  refine tr_ic 3 3 (by decide) rfl ?_
  exact tl_ret hL .ireturn 1 (some (.int 3)) rfl rfl rfl rfl hr
theorem sg_X0_directionAt_16 {g : tr_g} {d : Nat} {h : ev_AH} {r : ev_O × ev_AH} {x0 : Int32} (hL : hh_L h) (t : 19 ≤ x0 → tr_L g d m_X0_directionAt 26 [some (.int x0)] [] h r) (f : x0 < 19 → tr_L g d m_X0_directionAt 22 [some (.int x0)] [] h r) : tr_L g d m_X0_directionAt 16 [some (.int x0)] [] h r := by
  refine tr_s (.iload_n 0) 1 17 [some (.int x0)] [.int x0] h rfl rfl rfl ?_
  refine tr_bi 19 19 (by decide) rfl ?_
  exact tr_if2 .ge 7 26 x0 19 rfl rfl rfl (fun hc => t ((tr_ge hc).1 rfl)) (fun hc => f ((tr_ge hc).2 rfl))
theorem sg_X0_directionAt_22 {g : tr_g} {d : Nat} {h : ev_AH} {r : ev_O × ev_AH} {w0 : Option Value} (hL : hh_L h) (hr : r = (.inl (some (.int 0)), h)) : tr_L g d m_X0_directionAt 22 [w0] [] h r := by
  refine tr_ic 0 0 (by decide) rfl ?_
  refine tr_goto 4 27 rfl rfl rfl ?_
  exact tl_ret hL .ireturn 1 (some (.int 0)) rfl rfl rfl rfl hr
theorem sg_X0_directionAt_26 {g : tr_g} {d : Nat} {h : ev_AH} {r : ev_O × ev_AH} {w0 : Option Value} (hL : hh_L h) (hr : r = (.inl (some (.int 1)), h)) : tr_L g d m_X0_directionAt 26 [w0] [] h r := by
  refine tr_ic 1 1 (by decide) rfl ?_
  exact tl_ret hL .ireturn 1 (some (.int 1)) rfl rfl rfl rfl hr
theorem sg_X0_side_0 {g : tr_g} {d : Nat} {h : ev_AH} {r : ev_O × ev_AH} {x0 x1 : Int32} (hL : hh_L h) (hr : r = (.inl (some (.int ((4 * x0) + x1))), h)) : tr_L g d m_X0_side 0 [some (.int x0), some (.int x1)] [] h r := by
  refine tr_ic 4 4 (by decide) rfl ?_
  refine tr_s (.iload_n 0) 1 2 [some (.int x0), some (.int x1)] [.int x0, .int 4] h rfl rfl rfl ?_
  refine tr_s .imul 1 3 [some (.int x0), some (.int x1)] [.int (4 * x0)] h rfl rfl rfl ?_
  refine tr_s (.iload_n 1) 1 4 [some (.int x0), some (.int x1)] [.int x1, .int (4 * x0)] h rfl rfl rfl ?_
  refine tr_s .iadd 1 5 [some (.int x0), some (.int x1)] [.int ((4 * x0) + x1)] h rfl rfl rfl ?_
  exact tl_ret hL .ireturn 1 (some (.int ((4 * x0) + x1))) rfl rfl rfl rfl hr
theorem sg_X0_reflected_0 {g : tr_g} {d : Nat} {h : ev_AH} {r : ev_O × ev_AH} {x0 x1 : Int32} (hL : hh_L h) (t : x0 ≠ 47 → tr_L g d m_X0_reflected 10 [some (.int x0), some (.int x1)] [] h r) (f : x0 = 47 → tr_L g d m_X0_reflected 6 [some (.int x0), some (.int x1)] [] h r) : tr_L g d m_X0_reflected 0 [some (.int x0), some (.int x1)] [] h r := by
  refine tr_s (.iload_n 0) 1 1 [some (.int x0), some (.int x1)] [.int x0] h rfl rfl rfl ?_
  refine tr_bi 47 47 (by decide) rfl ?_
  exact tr_if2 .ne 7 10 x0 47 rfl rfl rfl (fun hc => t ((tr_ne hc).1 rfl)) (fun hc => f ((tr_ne hc).2 rfl))
theorem sg_X0_reflected_6 {g : tr_g} {d : Nat} {h : ev_AH} {r : ev_O × ev_AH} {w0 : Option Value} {x1 : Int32} (hL : hh_L h) (hr : r = (.inl (some (.int (x1 ^^^ 1))), h)) : tr_L g d m_X0_reflected 6 [w0, some (.int x1)] [] h r := by
  refine tr_s (.iload_n 1) 1 7 [w0, some (.int x1)] [.int x1] h rfl rfl rfl ?_
  refine tr_ic 1 1 (by decide) rfl ?_
  refine tr_s .ixor 1 9 [w0, some (.int x1)] [.int (x1 ^^^ 1)] h rfl rfl rfl ?_
  exact tl_ret hL .ireturn 1 (some (.int (x1 ^^^ 1))) rfl rfl rfl rfl hr
theorem sg_X0_reflected_10 {g : tr_g} {d : Nat} {h : ev_AH} {r : ev_O × ev_AH} {x0 x1 : Int32} (hL : hh_L h) (t : x0 ≠ 92 → tr_L g d m_X0_reflected 22 [some (.int x0), some (.int x1)] [] h r) (f : x0 = 92 → tr_L g d m_X0_reflected 16 [some (.int x0), some (.int x1)] [] h r) : tr_L g d m_X0_reflected 10 [some (.int x0), some (.int x1)] [] h r := by
  refine tr_s (.iload_n 0) 1 11 [some (.int x0), some (.int x1)] [.int x0] h rfl rfl rfl ?_
  refine tr_bi 92 92 (by decide) rfl ?_
  exact tr_if2 .ne 9 22 x0 92 rfl rfl rfl (fun hc => t ((tr_ne hc).1 rfl)) (fun hc => f ((tr_ne hc).2 rfl))
theorem sg_X0_reflected_16 {g : tr_g} {d : Nat} {h : ev_AH} {r : ev_O × ev_AH} {w0 : Option Value} {x1 : Int32} (hL : hh_L h) (hr : r = (.inl (some (.int (3 - x1))), h)) : tr_L g d m_X0_reflected 16 [w0, some (.int x1)] [] h r := by
  refine tr_ic 3 3 (by decide) rfl ?_
  refine tr_s (.iload_n 1) 1 18 [w0, some (.int x1)] [.int x1, .int 3] h rfl rfl rfl ?_
  refine tr_s .isub 1 19 [w0, some (.int x1)] [.int (3 - x1)] h rfl rfl rfl ?_
  refine tr_goto 4 23 rfl rfl rfl ?_
  exact tl_ret hL .ireturn 1 (some (.int (3 - x1))) rfl rfl rfl rfl hr
theorem sg_X0_reflected_22 {g : tr_g} {d : Nat} {h : ev_AH} {r : ev_O × ev_AH} {w0 : Option Value} {x1 : Int32} (hL : hh_L h) (hr : r = (.inl (some (.int x1)), h)) : tr_L g d m_X0_reflected 22 [w0, some (.int x1)] [] h r := by
  refine tr_s (.iload_n 1) 1 23 [w0, some (.int x1)] [.int x1] h rfl rfl rfl ?_
  exact tl_ret hL .ireturn 1 (some (.int x1)) rfl rfl rfl rfl hr
theorem sg_X0_opposite_0 {g : tr_g} {d : Nat} {h : ev_AH} {r : ev_O × ev_AH} {x0 : Int32} (hL : hh_L h) (hr : r = (.inl (some (.int (x0 ^^^ 2))), h)) : tr_L g d m_X0_opposite 0 [some (.int x0)] [] h r := by
  refine tr_s (.iload_n 0) 1 1 [some (.int x0)] [.int x0] h rfl rfl rfl ?_
  refine tr_ic 2 2 (by decide) rfl ?_
  refine tr_s .ixor 1 3 [some (.int x0)] [.int (x0 ^^^ 2)] h rfl rfl rfl ?_
  exact tl_ret hL .ireturn 1 (some (.int (x0 ^^^ 2))) rfl rfl rfl rfl hr
theorem sg_X0_neighbour_0_t0 {g : tr_g} {d : Nat} {h : ev_AH} {r : ev_O × ev_AH} {x0 x1 : Int32} (hL : hh_L h) (e : x1 = 0) (k : tr_L g d m_X0_neighbour 36 [some (.int x0), some (.int x1), some (.int (x0 / 7)), some (.int (x0 - x0 / 7 * 7))] [] h r) : tr_L g d m_X0_neighbour 0 [some (.int x0), some (.int x1), none, none] [] h r := by
  refine tr_s (.iload_n 0) 1 1 [some (.int x0), some (.int x1), none, none] [.int x0] h rfl rfl rfl ?_
  refine tr_bi 7 7 (by decide) rfl ?_
  refine tr_s .idiv 1 4 [some (.int x0), some (.int x1), none, none] [.int (x0 / 7)] h rfl rfl rfl ?_
  refine tr_st (.istore_n 2) 1 2 0 (.int (x0 / 7)) rfl rfl rfl rfl rfl rfl rfl ?_
  refine tr_s (.iload_n 0) 1 6 [some (.int x0), some (.int x1), some (.int (x0 / 7)), none] [.int x0] h rfl rfl rfl ?_
  refine tr_bi 7 7 (by decide) rfl ?_
  refine tr_s .irem 1 9 [some (.int x0), some (.int x1), some (.int (x0 / 7)), none] [.int (x0 - x0 / 7 * 7)] h rfl rfl rfl ?_
  refine tr_st (.istore_n 3) 1 3 0 (.int (x0 - x0 / 7 * 7)) rfl rfl rfl rfl rfl rfl rfl ?_
  refine tr_s (.iload_n 1) 1 11 [some (.int x0), some (.int x1), some (.int (x0 / 7)), some (.int (x0 - x0 / 7 * 7))] [.int x1] h rfl rfl rfl ?_
  exact tr_s (.tableswitch 66 0 2 #[25, 38, 52]) 25 36 [some (.int x0), some (.int x1), some (.int (x0 / 7)), some (.int (x0 - x0 / 7 * 7))] [] h rfl rfl (by rw [e]; rfl) k
theorem sg_X0_neighbour_0_t1 {g : tr_g} {d : Nat} {h : ev_AH} {r : ev_O × ev_AH} {x0 x1 : Int32} (hL : hh_L h) (e : x1 = 1) (k : tr_L g d m_X0_neighbour 49 [some (.int x0), some (.int x1), some (.int (x0 / 7)), some (.int (x0 - x0 / 7 * 7))] [] h r) : tr_L g d m_X0_neighbour 0 [some (.int x0), some (.int x1), none, none] [] h r := by
  refine tr_s (.iload_n 0) 1 1 [some (.int x0), some (.int x1), none, none] [.int x0] h rfl rfl rfl ?_
  refine tr_bi 7 7 (by decide) rfl ?_
  refine tr_s .idiv 1 4 [some (.int x0), some (.int x1), none, none] [.int (x0 / 7)] h rfl rfl rfl ?_
  refine tr_st (.istore_n 2) 1 2 0 (.int (x0 / 7)) rfl rfl rfl rfl rfl rfl rfl ?_
  refine tr_s (.iload_n 0) 1 6 [some (.int x0), some (.int x1), some (.int (x0 / 7)), none] [.int x0] h rfl rfl rfl ?_
  refine tr_bi 7 7 (by decide) rfl ?_
  refine tr_s .irem 1 9 [some (.int x0), some (.int x1), some (.int (x0 / 7)), none] [.int (x0 - x0 / 7 * 7)] h rfl rfl rfl ?_
  refine tr_st (.istore_n 3) 1 3 0 (.int (x0 - x0 / 7 * 7)) rfl rfl rfl rfl rfl rfl rfl ?_
  refine tr_s (.iload_n 1) 1 11 [some (.int x0), some (.int x1), some (.int (x0 / 7)), some (.int (x0 - x0 / 7 * 7))] [.int x1] h rfl rfl rfl ?_
  exact tr_s (.tableswitch 66 0 2 #[25, 38, 52]) 25 49 [some (.int x0), some (.int x1), some (.int (x0 / 7)), some (.int (x0 - x0 / 7 * 7))] [] h rfl rfl (by rw [e]; rfl) k
theorem sg_X0_neighbour_0_t2 {g : tr_g} {d : Nat} {h : ev_AH} {r : ev_O × ev_AH} {x0 x1 : Int32} (hL : hh_L h) (e : x1 = 2) (k : tr_L g d m_X0_neighbour 63 [some (.int x0), some (.int x1), some (.int (x0 / 7)), some (.int (x0 - x0 / 7 * 7))] [] h r) : tr_L g d m_X0_neighbour 0 [some (.int x0), some (.int x1), none, none] [] h r := by
  refine tr_s (.iload_n 0) 1 1 [some (.int x0), some (.int x1), none, none] [.int x0] h rfl rfl rfl ?_
  refine tr_bi 7 7 (by decide) rfl ?_
  refine tr_s .idiv 1 4 [some (.int x0), some (.int x1), none, none] [.int (x0 / 7)] h rfl rfl rfl ?_
  refine tr_st (.istore_n 2) 1 2 0 (.int (x0 / 7)) rfl rfl rfl rfl rfl rfl rfl ?_
  refine tr_s (.iload_n 0) 1 6 [some (.int x0), some (.int x1), some (.int (x0 / 7)), none] [.int x0] h rfl rfl rfl ?_
  refine tr_bi 7 7 (by decide) rfl ?_
  refine tr_s .irem 1 9 [some (.int x0), some (.int x1), some (.int (x0 / 7)), none] [.int (x0 - x0 / 7 * 7)] h rfl rfl rfl ?_
  refine tr_st (.istore_n 3) 1 3 0 (.int (x0 - x0 / 7 * 7)) rfl rfl rfl rfl rfl rfl rfl ?_
  refine tr_s (.iload_n 1) 1 11 [some (.int x0), some (.int x1), some (.int (x0 / 7)), some (.int (x0 - x0 / 7 * 7))] [.int x1] h rfl rfl rfl ?_
  exact tr_s (.tableswitch 66 0 2 #[25, 38, 52]) 25 63 [some (.int x0), some (.int x1), some (.int (x0 / 7)), some (.int (x0 - x0 / 7 * 7))] [] h rfl rfl (by rw [e]; rfl) k
theorem sg_X0_neighbour_0_td {g : tr_g} {d : Nat} {h : ev_AH} {r : ev_O × ev_AH} {x0 x1 : Int32} (hL : hh_L h) (e : x1.toInt < 0 ∨ 2 < x1.toInt) (k : tr_L g d m_X0_neighbour 77 [some (.int x0), some (.int x1), some (.int (x0 / 7)), some (.int (x0 - x0 / 7 * 7))] [] h r) : tr_L g d m_X0_neighbour 0 [some (.int x0), some (.int x1), none, none] [] h r := by
  refine tr_s (.iload_n 0) 1 1 [some (.int x0), some (.int x1), none, none] [.int x0] h rfl rfl rfl ?_
  refine tr_bi 7 7 (by decide) rfl ?_
  refine tr_s .idiv 1 4 [some (.int x0), some (.int x1), none, none] [.int (x0 / 7)] h rfl rfl rfl ?_
  refine tr_st (.istore_n 2) 1 2 0 (.int (x0 / 7)) rfl rfl rfl rfl rfl rfl rfl ?_
  refine tr_s (.iload_n 0) 1 6 [some (.int x0), some (.int x1), some (.int (x0 / 7)), none] [.int x0] h rfl rfl rfl ?_
  refine tr_bi 7 7 (by decide) rfl ?_
  refine tr_s .irem 1 9 [some (.int x0), some (.int x1), some (.int (x0 / 7)), none] [.int (x0 - x0 / 7 * 7)] h rfl rfl rfl ?_
  refine tr_st (.istore_n 3) 1 3 0 (.int (x0 - x0 / 7 * 7)) rfl rfl rfl rfl rfl rfl rfl ?_
  refine tr_s (.iload_n 1) 1 11 [some (.int x0), some (.int x1), some (.int (x0 / 7)), some (.int (x0 - x0 / 7 * 7))] [.int x1] h rfl rfl rfl ?_
  exact tr_s (.tableswitch 66 0 2 #[25, 38, 52]) 25 77 [some (.int x0), some (.int x1), some (.int (x0 / 7)), some (.int (x0 - x0 / 7 * 7))] [] h rfl rfl (tr_tsd rfl e) k
theorem sg_X0_neighbour_36 {g : tr_g} {d : Nat} {h : ev_AH} {r : ev_O × ev_AH} {x0 x2 : Int32} {w1 w3 : Option Value} (hL : hh_L h) (t : x2 ≤ 0 → tr_L g d m_X0_neighbour 47 [some (.int x0), w1, some (.int x2), w3] [] h r) (f : 0 < x2 → tr_L g d m_X0_neighbour 40 [some (.int x0), w1, some (.int x2), w3] [] h r) : tr_L g d m_X0_neighbour 36 [some (.int x0), w1, some (.int x2), w3] [] h r := by
  refine tr_s (.iload_n 2) 1 37 [some (.int x0), w1, some (.int x2), w3] [.int x2] h rfl rfl rfl ?_
  exact tr_if1 .le 10 47 x2 rfl rfl rfl (fun hc => t ((tr_le hc).1 rfl)) (fun hc => f ((tr_le hc).2 rfl))
theorem sg_X0_neighbour_40 {g : tr_g} {d : Nat} {h : ev_AH} {r : ev_O × ev_AH} {x0 : Int32} {w1 w2 w3 : Option Value} (hL : hh_L h) (hr : r = (.inl (some (.int (x0 - 7))), h)) : tr_L g d m_X0_neighbour 40 [some (.int x0), w1, w2, w3] [] h r := by
  refine tr_s (.iload_n 0) 1 41 [some (.int x0), w1, w2, w3] [.int x0] h rfl rfl rfl ?_
  refine tr_bi 7 7 (by decide) rfl ?_
  refine tr_s .isub 1 44 [some (.int x0), w1, w2, w3] [.int (x0 - 7)] h rfl rfl rfl ?_
  refine tr_goto 4 48 rfl rfl rfl ?_
  exact tl_ret hL .ireturn 1 (some (.int (x0 - 7))) rfl rfl rfl rfl hr
theorem sg_X0_neighbour_47 {g : tr_g} {d : Nat} {h : ev_AH} {r : ev_O × ev_AH} {w0 w1 w2 w3 : Option Value} (hL : hh_L h) (hr : r = (.inl (some (.int (-1))), h)) : tr_L g d m_X0_neighbour 47 [w0, w1, w2, w3] [] h r := by
  refine tr_ic (-1) (-1) (by decide) rfl ?_
  exact tl_ret hL .ireturn 1 (some (.int (-1))) rfl rfl rfl rfl hr
theorem sg_X0_neighbour_49 {g : tr_g} {d : Nat} {h : ev_AH} {r : ev_O × ev_AH} {x0 x3 : Int32} {w1 w2 : Option Value} (hL : hh_L h) (t : 6 ≤ x3 → tr_L g d m_X0_neighbour 61 [some (.int x0), w1, w2, some (.int x3)] [] h r) (f : x3 < 6 → tr_L g d m_X0_neighbour 55 [some (.int x0), w1, w2, some (.int x3)] [] h r) : tr_L g d m_X0_neighbour 49 [some (.int x0), w1, w2, some (.int x3)] [] h r := by
  refine tr_s (.iload_n 3) 1 50 [some (.int x0), w1, w2, some (.int x3)] [.int x3] h rfl rfl rfl ?_
  refine tr_bi 6 6 (by decide) rfl ?_
  exact tr_if2 .ge 9 61 x3 6 rfl rfl rfl (fun hc => t ((tr_ge hc).1 rfl)) (fun hc => f ((tr_ge hc).2 rfl))
theorem sg_X0_neighbour_55 {g : tr_g} {d : Nat} {h : ev_AH} {r : ev_O × ev_AH} {x0 : Int32} {w1 w2 w3 : Option Value} (hL : hh_L h) (hr : r = (.inl (some (.int (x0 + 1))), h)) : tr_L g d m_X0_neighbour 55 [some (.int x0), w1, w2, w3] [] h r := by
  refine tr_s (.iload_n 0) 1 56 [some (.int x0), w1, w2, w3] [.int x0] h rfl rfl rfl ?_
  refine tr_ic 1 1 (by decide) rfl ?_
  refine tr_s .iadd 1 58 [some (.int x0), w1, w2, w3] [.int (x0 + 1)] h rfl rfl rfl ?_
  refine tr_goto 4 62 rfl rfl rfl ?_
  exact tl_ret hL .ireturn 1 (some (.int (x0 + 1))) rfl rfl rfl rfl hr
theorem sg_X0_neighbour_61 {g : tr_g} {d : Nat} {h : ev_AH} {r : ev_O × ev_AH} {w0 w1 w2 w3 : Option Value} (hL : hh_L h) (hr : r = (.inl (some (.int (-1))), h)) : tr_L g d m_X0_neighbour 61 [w0, w1, w2, w3] [] h r := by
  refine tr_ic (-1) (-1) (by decide) rfl ?_
  exact tl_ret hL .ireturn 1 (some (.int (-1))) rfl rfl rfl rfl hr
theorem sg_X0_neighbour_63 {g : tr_g} {d : Nat} {h : ev_AH} {r : ev_O × ev_AH} {x0 x2 : Int32} {w1 w3 : Option Value} (hL : hh_L h) (t : 4 ≤ x2 → tr_L g d m_X0_neighbour 75 [some (.int x0), w1, some (.int x2), w3] [] h r) (f : x2 < 4 → tr_L g d m_X0_neighbour 68 [some (.int x0), w1, some (.int x2), w3] [] h r) : tr_L g d m_X0_neighbour 63 [some (.int x0), w1, some (.int x2), w3] [] h r := by
  refine tr_s (.iload_n 2) 1 64 [some (.int x0), w1, some (.int x2), w3] [.int x2] h rfl rfl rfl ?_
  refine tr_ic 4 4 (by decide) rfl ?_
  exact tr_if2 .ge 10 75 x2 4 rfl rfl rfl (fun hc => t ((tr_ge hc).1 rfl)) (fun hc => f ((tr_ge hc).2 rfl))
theorem sg_X0_neighbour_68 {g : tr_g} {d : Nat} {h : ev_AH} {r : ev_O × ev_AH} {x0 : Int32} {w1 w2 w3 : Option Value} (hL : hh_L h) (hr : r = (.inl (some (.int (x0 + 7))), h)) : tr_L g d m_X0_neighbour 68 [some (.int x0), w1, w2, w3] [] h r := by
  refine tr_s (.iload_n 0) 1 69 [some (.int x0), w1, w2, w3] [.int x0] h rfl rfl rfl ?_
  refine tr_bi 7 7 (by decide) rfl ?_
  refine tr_s .iadd 1 72 [some (.int x0), w1, w2, w3] [.int (x0 + 7)] h rfl rfl rfl ?_
  refine tr_goto 4 76 rfl rfl rfl ?_
  exact tl_ret hL .ireturn 1 (some (.int (x0 + 7))) rfl rfl rfl rfl hr
theorem sg_X0_neighbour_75 {g : tr_g} {d : Nat} {h : ev_AH} {r : ev_O × ev_AH} {w0 w1 w2 w3 : Option Value} (hL : hh_L h) (hr : r = (.inl (some (.int (-1))), h)) : tr_L g d m_X0_neighbour 75 [w0, w1, w2, w3] [] h r := by
  refine tr_ic (-1) (-1) (by decide) rfl ?_
  exact tl_ret hL .ireturn 1 (some (.int (-1))) rfl rfl rfl rfl hr
theorem sg_X0_neighbour_77 {g : tr_g} {d : Nat} {h : ev_AH} {r : ev_O × ev_AH} {x0 x3 : Int32} {w1 w2 : Option Value} (hL : hh_L h) (t : x3 ≤ 0 → tr_L g d m_X0_neighbour 87 [some (.int x0), w1, w2, some (.int x3)] [] h r) (f : 0 < x3 → tr_L g d m_X0_neighbour 81 [some (.int x0), w1, w2, some (.int x3)] [] h r) : tr_L g d m_X0_neighbour 77 [some (.int x0), w1, w2, some (.int x3)] [] h r := by
  refine tr_s (.iload_n 3) 1 78 [some (.int x0), w1, w2, some (.int x3)] [.int x3] h rfl rfl rfl ?_
  exact tr_if1 .le 9 87 x3 rfl rfl rfl (fun hc => t ((tr_le hc).1 rfl)) (fun hc => f ((tr_le hc).2 rfl))
theorem sg_X0_neighbour_81 {g : tr_g} {d : Nat} {h : ev_AH} {r : ev_O × ev_AH} {x0 : Int32} {w1 w2 w3 : Option Value} (hL : hh_L h) (hr : r = (.inl (some (.int (x0 - 1))), h)) : tr_L g d m_X0_neighbour 81 [some (.int x0), w1, w2, w3] [] h r := by
  refine tr_s (.iload_n 0) 1 82 [some (.int x0), w1, w2, w3] [.int x0] h rfl rfl rfl ?_
  refine tr_ic 1 1 (by decide) rfl ?_
  refine tr_s .isub 1 84 [some (.int x0), w1, w2, w3] [.int (x0 - 1)] h rfl rfl rfl ?_
  refine tr_goto 4 88 rfl rfl rfl ?_
  exact tl_ret hL .ireturn 1 (some (.int (x0 - 1))) rfl rfl rfl rfl hr
theorem sg_X0_neighbour_87 {g : tr_g} {d : Nat} {h : ev_AH} {r : ev_O × ev_AH} {w0 w1 w2 w3 : Option Value} (hL : hh_L h) (hr : r = (.inl (some (.int (-1))), h)) : tr_L g d m_X0_neighbour 87 [w0, w1, w2, w3] [] h r := by
  refine tr_ic (-1) (-1) (by decide) rfl ?_
  exact tl_ret hL .ireturn 1 (some (.int (-1))) rfl rfl rfl rfl hr
theorem sg_X0_portAt_0_t0 {g : tr_g} {d : Nat} {h : ev_AH} {r : ev_O × ev_AH} {x0 x1 : Int32} (hL : hh_L h) (e : x1 = 0) (k : tr_L g d m_X0_portAt 36 [some (.int x0), some (.int x1), some (.int (x0 / 7)), some (.int (x0 - x0 / 7 * 7))] [] h r) : tr_L g d m_X0_portAt 0 [some (.int x0), some (.int x1), none, none] [] h r := by
  refine tr_s (.iload_n 0) 1 1 [some (.int x0), some (.int x1), none, none] [.int x0] h rfl rfl rfl ?_
  refine tr_bi 7 7 (by decide) rfl ?_
  refine tr_s .idiv 1 4 [some (.int x0), some (.int x1), none, none] [.int (x0 / 7)] h rfl rfl rfl ?_
  refine tr_st (.istore_n 2) 1 2 0 (.int (x0 / 7)) rfl rfl rfl rfl rfl rfl rfl ?_
  refine tr_s (.iload_n 0) 1 6 [some (.int x0), some (.int x1), some (.int (x0 / 7)), none] [.int x0] h rfl rfl rfl ?_
  refine tr_bi 7 7 (by decide) rfl ?_
  refine tr_s .irem 1 9 [some (.int x0), some (.int x1), some (.int (x0 / 7)), none] [.int (x0 - x0 / 7 * 7)] h rfl rfl rfl ?_
  refine tr_st (.istore_n 3) 1 3 0 (.int (x0 - x0 / 7 * 7)) rfl rfl rfl rfl rfl rfl rfl ?_
  refine tr_s (.iload_n 1) 1 11 [some (.int x0), some (.int x1), some (.int (x0 / 7)), some (.int (x0 - x0 / 7 * 7))] [.int x1] h rfl rfl rfl ?_
  exact tr_s (.tableswitch 37 0 2 #[25, 27, 32]) 25 36 [some (.int x0), some (.int x1), some (.int (x0 / 7)), some (.int (x0 - x0 / 7 * 7))] [] h rfl rfl (by rw [e]; rfl) k
theorem sg_X0_portAt_0_t1 {g : tr_g} {d : Nat} {h : ev_AH} {r : ev_O × ev_AH} {x0 x1 : Int32} (hL : hh_L h) (e : x1 = 1) (k : tr_L g d m_X0_portAt 38 [some (.int x0), some (.int x1), some (.int (x0 / 7)), some (.int (x0 - x0 / 7 * 7))] [] h r) : tr_L g d m_X0_portAt 0 [some (.int x0), some (.int x1), none, none] [] h r := by
  refine tr_s (.iload_n 0) 1 1 [some (.int x0), some (.int x1), none, none] [.int x0] h rfl rfl rfl ?_
  refine tr_bi 7 7 (by decide) rfl ?_
  refine tr_s .idiv 1 4 [some (.int x0), some (.int x1), none, none] [.int (x0 / 7)] h rfl rfl rfl ?_
  refine tr_st (.istore_n 2) 1 2 0 (.int (x0 / 7)) rfl rfl rfl rfl rfl rfl rfl ?_
  refine tr_s (.iload_n 0) 1 6 [some (.int x0), some (.int x1), some (.int (x0 / 7)), none] [.int x0] h rfl rfl rfl ?_
  refine tr_bi 7 7 (by decide) rfl ?_
  refine tr_s .irem 1 9 [some (.int x0), some (.int x1), some (.int (x0 / 7)), none] [.int (x0 - x0 / 7 * 7)] h rfl rfl rfl ?_
  refine tr_st (.istore_n 3) 1 3 0 (.int (x0 - x0 / 7 * 7)) rfl rfl rfl rfl rfl rfl rfl ?_
  refine tr_s (.iload_n 1) 1 11 [some (.int x0), some (.int x1), some (.int (x0 / 7)), some (.int (x0 - x0 / 7 * 7))] [.int x1] h rfl rfl rfl ?_
  exact tr_s (.tableswitch 37 0 2 #[25, 27, 32]) 25 38 [some (.int x0), some (.int x1), some (.int (x0 / 7)), some (.int (x0 - x0 / 7 * 7))] [] h rfl rfl (by rw [e]; rfl) k
theorem sg_X0_portAt_0_t2 {g : tr_g} {d : Nat} {h : ev_AH} {r : ev_O × ev_AH} {x0 x1 : Int32} (hL : hh_L h) (e : x1 = 2) (k : tr_L g d m_X0_portAt 43 [some (.int x0), some (.int x1), some (.int (x0 / 7)), some (.int (x0 - x0 / 7 * 7))] [] h r) : tr_L g d m_X0_portAt 0 [some (.int x0), some (.int x1), none, none] [] h r := by
  refine tr_s (.iload_n 0) 1 1 [some (.int x0), some (.int x1), none, none] [.int x0] h rfl rfl rfl ?_
  refine tr_bi 7 7 (by decide) rfl ?_
  refine tr_s .idiv 1 4 [some (.int x0), some (.int x1), none, none] [.int (x0 / 7)] h rfl rfl rfl ?_
  refine tr_st (.istore_n 2) 1 2 0 (.int (x0 / 7)) rfl rfl rfl rfl rfl rfl rfl ?_
  refine tr_s (.iload_n 0) 1 6 [some (.int x0), some (.int x1), some (.int (x0 / 7)), none] [.int x0] h rfl rfl rfl ?_
  refine tr_bi 7 7 (by decide) rfl ?_
  refine tr_s .irem 1 9 [some (.int x0), some (.int x1), some (.int (x0 / 7)), none] [.int (x0 - x0 / 7 * 7)] h rfl rfl rfl ?_
  refine tr_st (.istore_n 3) 1 3 0 (.int (x0 - x0 / 7 * 7)) rfl rfl rfl rfl rfl rfl rfl ?_
  refine tr_s (.iload_n 1) 1 11 [some (.int x0), some (.int x1), some (.int (x0 / 7)), some (.int (x0 - x0 / 7 * 7))] [.int x1] h rfl rfl rfl ?_
  exact tr_s (.tableswitch 37 0 2 #[25, 27, 32]) 25 43 [some (.int x0), some (.int x1), some (.int (x0 / 7)), some (.int (x0 - x0 / 7 * 7))] [] h rfl rfl (by rw [e]; rfl) k
theorem sg_X0_portAt_0_td {g : tr_g} {d : Nat} {h : ev_AH} {r : ev_O × ev_AH} {x0 x1 : Int32} (hL : hh_L h) (e : x1.toInt < 0 ∨ 2 < x1.toInt) (k : tr_L g d m_X0_portAt 48 [some (.int x0), some (.int x1), some (.int (x0 / 7)), some (.int (x0 - x0 / 7 * 7))] [] h r) : tr_L g d m_X0_portAt 0 [some (.int x0), some (.int x1), none, none] [] h r := by
  refine tr_s (.iload_n 0) 1 1 [some (.int x0), some (.int x1), none, none] [.int x0] h rfl rfl rfl ?_
  refine tr_bi 7 7 (by decide) rfl ?_
  refine tr_s .idiv 1 4 [some (.int x0), some (.int x1), none, none] [.int (x0 / 7)] h rfl rfl rfl ?_
  refine tr_st (.istore_n 2) 1 2 0 (.int (x0 / 7)) rfl rfl rfl rfl rfl rfl rfl ?_
  refine tr_s (.iload_n 0) 1 6 [some (.int x0), some (.int x1), some (.int (x0 / 7)), none] [.int x0] h rfl rfl rfl ?_
  refine tr_bi 7 7 (by decide) rfl ?_
  refine tr_s .irem 1 9 [some (.int x0), some (.int x1), some (.int (x0 / 7)), none] [.int (x0 - x0 / 7 * 7)] h rfl rfl rfl ?_
  refine tr_st (.istore_n 3) 1 3 0 (.int (x0 - x0 / 7 * 7)) rfl rfl rfl rfl rfl rfl rfl ?_
  refine tr_s (.iload_n 1) 1 11 [some (.int x0), some (.int x1), some (.int (x0 / 7)), some (.int (x0 - x0 / 7 * 7))] [.int x1] h rfl rfl rfl ?_
  exact tr_s (.tableswitch 37 0 2 #[25, 27, 32]) 25 48 [some (.int x0), some (.int x1), some (.int (x0 / 7)), some (.int (x0 - x0 / 7 * 7))] [] h rfl rfl (tr_tsd rfl e) k
theorem sg_X0_portAt_36 {g : tr_g} {d : Nat} {h : ev_AH} {r : ev_O × ev_AH} {w0 w1 w2 : Option Value} {x3 : Int32} (hL : hh_L h) (hr : r = (.inl (some (.int x3)), h)) : tr_L g d m_X0_portAt 36 [w0, w1, w2, some (.int x3)] [] h r := by
  refine tr_s (.iload_n 3) 1 37 [w0, w1, w2, some (.int x3)] [.int x3] h rfl rfl rfl ?_
  exact tl_ret hL .ireturn 1 (some (.int x3)) rfl rfl rfl rfl hr
theorem sg_X0_portAt_38 {g : tr_g} {d : Nat} {h : ev_AH} {r : ev_O × ev_AH} {w0 w1 w3 : Option Value} {x2 : Int32} (hL : hh_L h) (hr : r = (.inl (some (.int (7 + x2))), h)) : tr_L g d m_X0_portAt 38 [w0, w1, some (.int x2), w3] [] h r := by
  refine tr_bi 7 7 (by decide) rfl ?_
  refine tr_s (.iload_n 2) 1 41 [w0, w1, some (.int x2), w3] [.int x2, .int 7] h rfl rfl rfl ?_
  refine tr_s .iadd 1 42 [w0, w1, some (.int x2), w3] [.int (7 + x2)] h rfl rfl rfl ?_
  exact tl_ret hL .ireturn 1 (some (.int (7 + x2))) rfl rfl rfl rfl hr
theorem sg_X0_portAt_43 {g : tr_g} {d : Nat} {h : ev_AH} {r : ev_O × ev_AH} {w0 w1 w2 : Option Value} {x3 : Int32} (hL : hh_L h) (hr : r = (.inl (some (.int (18 - x3))), h)) : tr_L g d m_X0_portAt 43 [w0, w1, w2, some (.int x3)] [] h r := by
  refine tr_bi 18 18 (by decide) rfl ?_
  refine tr_s (.iload_n 3) 1 46 [w0, w1, w2, some (.int x3)] [.int x3, .int 18] h rfl rfl rfl ?_
  refine tr_s .isub 1 47 [w0, w1, w2, some (.int x3)] [.int (18 - x3)] h rfl rfl rfl ?_
  exact tl_ret hL .ireturn 1 (some (.int (18 - x3))) rfl rfl rfl rfl hr
theorem sg_X0_portAt_48 {g : tr_g} {d : Nat} {h : ev_AH} {r : ev_O × ev_AH} {w0 w1 w3 : Option Value} {x2 : Int32} (hL : hh_L h) (hr : r = (.inl (some (.int (23 - x2))), h)) : tr_L g d m_X0_portAt 48 [w0, w1, some (.int x2), w3] [] h r := by
  refine tr_bi 23 23 (by decide) rfl ?_
  refine tr_s (.iload_n 2) 1 51 [w0, w1, some (.int x2), w3] [.int x2, .int 23] h rfl rfl rfl ?_
  refine tr_s .isub 1 52 [w0, w1, some (.int x2), w3] [.int (23 - x2)] h rfl rfl rfl ?_
  exact tl_ret hL .ireturn 1 (some (.int (23 - x2))) rfl rfl rfl rfl hr
theorem sg_X2_findCat_0 {g : tr_g} {d : Nat} {h : ev_AH} {r : ev_O × ev_AH} {x1 : Int32} (hL : hh_L h) (k : tr_L g d m_X2_findCat 2 [some (.ref 1001), some (.int x1), some (.int 0)] [] h r) : tr_L g d m_X2_findCat 0 [some (.ref 1001), some (.int x1), none] [] h r := by
  refine tr_ic 0 0 (by decide) rfl ?_
  refine tr_st (.istore_n 2) 1 2 0 (.int 0) rfl rfl rfl rfl rfl rfl rfl ?_
  exact k
theorem sg_X2_findCat_2 {g : tr_g} {d : Nat} {h : ev_AH} {r : ev_O × ev_AH} {x1 x2 : Int32} (hL : hh_L h) (t : (hh_i h 1 6) ≤ x2 → tr_L g d m_X2_findCat 30 [some (.ref 1001), some (.int x1), some (.int x2)] [] h r) (f : x2 < (hh_i h 1 6) → tr_L g d m_X2_findCat 10 [some (.ref 1001), some (.int x1), some (.int x2)] [] h r) : tr_L g d m_X2_findCat 2 [some (.ref 1001), some (.int x1), some (.int x2)] [] h r := by
  refine tr_s (.iload_n 2) 1 3 [some (.ref 1001), some (.int x1), some (.int x2)] [.int x2] h rfl rfl rfl ?_
  refine tr_s (.aload_n 0) 1 4 [some (.ref 1001), some (.int x1), some (.int x2)] [.ref 1001, .int x2] h rfl rfl rfl ?_
  refine tl_gi hL 31 1 1 6 [1002, 1003, 1004, 1005, 1006, 1007, 0, 0, 0, 0, 0, 0, 0, 0] rfl rfl rfl rfl ?_
  exact tr_if2 .ge 23 30 x2 (hh_i h 1 6) rfl rfl rfl (fun hc => t ((tr_ge hc).1 rfl)) (fun hc => f ((tr_ge hc).2 rfl))
theorem sg_X2_findCat_10 {g : tr_g} {d : Nat} {h : ev_AH} {r : ev_O × ev_AH} {x1 x2 v0 : Int32} {h1 : ev_AH} (hL : hh_L h) (c_0 : tr_L g d m_X8_at 0 [some (.ref 1003), some (.int x2)] [] h (.inl (some (.int v0)), h1)) (t : v0 ≠ x1 → tr_L g (d + 1) m_X2_findCat 24 [some (.ref 1001), some (.int x1), some (.int x2)] [] h1 r) (f : v0 = x1 → tr_L g (d + 1) m_X2_findCat 22 [some (.ref 1001), some (.int x1), some (.int x2)] [] h1 r) : tr_L g (d + 1) m_X2_findCat 10 [some (.ref 1001), some (.int x1), some (.int x2)] [] h r := by
  refine tr_s (.aload_n 0) 1 11 [some (.ref 1001), some (.int x1), some (.int x2)] [.ref 1001] h rfl rfl rfl ?_
  refine tl_gr hL 15 1 1 1 3 [1002, 1003, 1004, 1005, 1006, 1007, 0, 0, 0, 0, 0, 0, 0, 0] rfl rfl rfl rfl ?_
  refine tr_s (.iload_n 2) 1 15 [some (.ref 1001), some (.int x1), some (.int x2)] [.int x2, .ref 1003] h rfl rfl rfl ?_
  refine tr_call (.invokestatic 65) 65 3 2 0 m_X8_at [.ref 1003, .int x2] [] (some (.int v0)) h1 rfl rfl rfl rfl rfl rfl rfl rfl rfl (tr_cok rfl (Or.inl rfl)) c_0 ?_
  have hL0 := c_0.2
  refine tr_s (.iload_n 1) 1 19 [some (.ref 1001), some (.int x1), some (.int x2)] [.int x1, .int v0] h1 rfl rfl rfl ?_
  exact tr_if2 .ne 5 24 v0 x1 rfl rfl rfl (fun hc => t ((tr_ne hc).1 rfl)) (fun hc => f ((tr_ne hc).2 rfl))
theorem sg_X2_findCat_22 {g : tr_g} {d : Nat} {h : ev_AH} {r : ev_O × ev_AH} {w0 w1 : Option Value} {x2 : Int32} (hL : hh_L h) (hr : r = (.inl (some (.int x2)), h)) : tr_L g d m_X2_findCat 22 [w0, w1, some (.int x2)] [] h r := by
  refine tr_s (.iload_n 2) 1 23 [w0, w1, some (.int x2)] [.int x2] h rfl rfl rfl ?_
  exact tl_ret hL .ireturn 1 (some (.int x2)) rfl rfl rfl rfl hr
theorem sg_X2_findCat_24 {g : tr_g} {d : Nat} {h : ev_AH} {r : ev_O × ev_AH} {x1 x2 : Int32} (hL : hh_L h) (k : tr_L g d m_X2_findCat 2 [some (.ref 1001), some (.int x1), some (.int (x2 + 1))] [] h r) : tr_L g d m_X2_findCat 24 [some (.ref 1001), some (.int x1), some (.int x2)] [] h r := by
  refine tr_inc 2 1 x2 1 (by decide) rfl rfl rfl ?_
  refine tr_goto (-25) 2 rfl rfl rfl ?_
  exact k
theorem sg_X2_findCat_30 {g : tr_g} {d : Nat} {h : ev_AH} {r : ev_O × ev_AH} {w0 w1 w2 : Option Value} (hL : hh_L h) (hr : r = (.inl (some (.int (-1))), h)) : tr_L g d m_X2_findCat 30 [w0, w1, w2] [] h r := by
  refine tr_ic (-1) (-1) (by decide) rfl ?_
  exact tl_ret hL .ireturn 1 (some (.int (-1))) rfl rfl rfl rfl hr
theorem sg_X2_reasonAgainstMirror_0 {g : tr_g} {d : Nat} {h : ev_AH} {r : ev_O × ev_AH} {x1 v0 : Int32} {h1 : ev_AH} (hL : hh_L h) (c_0 : tr_L g d m_X2_findCat 0 [some (.ref 1001), some (.int x1), none] [] h (.inl (some (.int v0)), h1)) (t : v0 ≠ (-1) → tr_L g (d + 1) m_X2_reasonAgainstMirror 13 [some (.ref 1001), some (.int x1)] [] h1 r) (f : v0 = (-1) → tr_L g (d + 1) m_X2_reasonAgainstMirror 9 [some (.ref 1001), some (.int x1)] [] h1 r) : tr_L g (d + 1) m_X2_reasonAgainstMirror 0 [some (.ref 1001), some (.int x1)] [] h r := by
  refine tr_s (.aload_n 0) 1 1 [some (.ref 1001), some (.int x1)] [.ref 1001] h rfl rfl rfl ?_
  refine tr_s (.iload_n 1) 1 2 [some (.ref 1001), some (.int x1)] [.int x1, .ref 1001] h rfl rfl rfl ?_
  refine tr_call (.invokevirtual 73) 73 0 1 1 m_X2_findCat [.ref 1001, .int x1] [] (some (.int v0)) h1 rfl rfl rfl rfl rfl rfl rfl rfl rfl (tr_cok rfl (Or.inr ⟨_, _, rfl, tr_rc (hh_rd (hh_obj hL (k := 1) rfl).1) (by decide)⟩)) c_0 ?_
  have hL0 := c_0.2
  refine tr_ic (-1) (-1) (by decide) rfl ?_
  exact tr_if2 .ne 7 13 v0 (-1) rfl rfl rfl (fun hc => t ((tr_ne hc).1 rfl)) (fun hc => f ((tr_ne hc).2 rfl))
theorem sg_X2_reasonAgainstMirror_9 {g : tr_g} {d : Nat} {h : ev_AH} {r : ev_O × ev_AH} {w0 w1 : Option Value} (hL : hh_L h) (hr : r = (.inl (some (.int 0)), h)) : tr_L g d m_X2_reasonAgainstMirror 9 [w0, w1] [] h r := by
  refine tr_ic 0 0 (by decide) rfl ?_
  refine tr_goto 4 14 rfl rfl rfl ?_
  exact tl_ret hL .ireturn 1 (some (.int 0)) rfl rfl rfl rfl hr
theorem sg_X2_reasonAgainstMirror_13 {g : tr_g} {d : Nat} {h : ev_AH} {r : ev_O × ev_AH} {w0 w1 : Option Value} (hL : hh_L h) (hr : r = (.inl (some (.int 2)), h)) : tr_L g d m_X2_reasonAgainstMirror 13 [w0, w1] [] h r := by
  refine tr_ic 2 2 (by decide) rfl ?_
  exact tl_ret hL .ireturn 1 (some (.int 2)) rfl rfl rfl rfl hr
theorem sg_X2_changeContent_0 {g : tr_g} {d : Nat} {h : ev_AH} {r : ev_O × ev_AH} {x1 x2 v0 : Int32} {h1 : ev_AH} (hL : hh_L h) (c_0 : tr_L g d m_X8_at_ 0 [some (.ref 1002), some (.int x1)] [] h (.inl (some (.int v0)), h1)) (t : v0 = x2 → tr_L g (d + 1) m_X2_changeContent 26 [some (.ref 1001), some (.int x1), some (.int x2)] [] h1 r) (f : v0 ≠ x2 → tr_L g (d + 1) m_X2_changeContent 12 [some (.ref 1001), some (.int x1), some (.int x2)] [] h1 r) : tr_L g (d + 1) m_X2_changeContent 0 [some (.ref 1001), some (.int x1), some (.int x2)] [] h r := by
  refine tr_s (.aload_n 0) 1 1 [some (.ref 1001), some (.int x1), some (.int x2)] [.ref 1001] h rfl rfl rfl ?_
  refine tl_gr hL 9 1 1 0 2 [1002, 1003, 1004, 1005, 1006, 1007, 0, 0, 0, 0, 0, 0, 0, 0] rfl rfl rfl rfl ?_
  refine tr_s (.iload_n 1) 1 5 [some (.ref 1001), some (.int x1), some (.int x2)] [.int x1, .ref 1002] h rfl rfl rfl ?_
  refine tr_call (.invokestatic 91) 91 3 2 0 m_X8_at_ [.ref 1002, .int x1] [] (some (.int v0)) h1 rfl rfl rfl rfl rfl rfl rfl rfl rfl (tr_cok rfl (Or.inl rfl)) c_0 ?_
  have hL0 := c_0.2
  refine tr_s (.iload_n 2) 1 9 [some (.ref 1001), some (.int x1), some (.int x2)] [.int x2, .int v0] h1 rfl rfl rfl ?_
  exact tr_if2 .eq 17 26 v0 x2 rfl rfl rfl (fun hc => t ((tr_eq hc).1 rfl)) (fun hc => f ((tr_eq hc).2 rfl))
theorem sg_X2_changeContent_12 {g : tr_g} {d : Nat} {h : ev_AH} {r : ev_O × ev_AH} {x1 x2 : Int32} {h1 : ev_AH} (hL : hh_L h) (c_0 : tr_L g d m_X8_put_ 0 [some (.ref 1002), some (.int x1), some (.int x2)] [] h (.inl none, h1)) (hr : r = (.inl (none), hh_si h1 1 1 13 1)) : tr_L g (d + 1) m_X2_changeContent 12 [some (.ref 1001), some (.int x1), some (.int x2)] [] h r := by
  refine tr_s (.aload_n 0) 1 13 [some (.ref 1001), some (.int x1), some (.int x2)] [.ref 1001] h rfl rfl rfl ?_
  refine tl_gr hL 9 1 1 0 2 [1002, 1003, 1004, 1005, 1006, 1007, 0, 0, 0, 0, 0, 0, 0, 0] rfl rfl rfl rfl ?_
  refine tr_s (.iload_n 1) 1 17 [some (.ref 1001), some (.int x1), some (.int x2)] [.int x1, .ref 1002] h rfl rfl rfl ?_
  refine tr_s (.iload_n 2) 1 18 [some (.ref 1001), some (.int x1), some (.int x2)] [.int x2, .int x1, .ref 1002] h rfl rfl rfl ?_
  refine tr_call (.invokestatic 80) 80 3 3 0 m_X8_put_ [.ref 1002, .int x1, .int x2] [] none h1 rfl rfl rfl rfl rfl rfl rfl rfl rfl (tr_cok rfl (Or.inl rfl)) c_0 ?_
  have hL0 := c_0.2
  refine tr_s (.aload_n 0) 1 22 [some (.ref 1001), some (.int x1), some (.int x2)] [.ref 1001] h1 rfl rfl rfl ?_
  refine tr_ic 1 1 (by decide) rfl ?_
  refine tl_pf hL0 55 1 1 13 [1002, 1003, 1004, 1005, 1006, 1007, 0, 0, 0, 0, 0, 0, 0, 0] 1 .boolean rfl rfl rfl rfl rfl (by decide) ?_
  have hL1 := hh_L_si (sl := 13) (x := 1) hL0 (show hh_t[1]? = some (.inr (1, [1002, 1003, 1004, 1005, 1006, 1007, 0, 0, 0, 0, 0, 0, 0, 0])) from rfl) rfl
  exact tl_ret hL1 .return_ 1 none rfl rfl rfl rfl hr
theorem sg_X2_changeContent_26 {g : tr_g} {d : Nat} {h : ev_AH} {r : ev_O × ev_AH} {w0 w1 w2 : Option Value} (hL : hh_L h) (hr : r = (.inl (none), h)) : tr_L g d m_X2_changeContent 26 [w0, w1, w2] [] h r := by
  exact tl_ret hL .return_ 1 none rfl rfl rfl rfl hr
theorem sg_X2_countMirrors_0 {g : tr_g} {d : Nat} {h : ev_AH} {r : ev_O × ev_AH} (hL : hh_L h) (k : tr_L g d m_X2_countMirrors 4 [some (.ref 1001), some (.int 0), some (.int 0), none] [] h r) : tr_L g d m_X2_countMirrors 0 [some (.ref 1001), none, none, none] [] h r := by
  refine tr_ic 0 0 (by decide) rfl ?_
  refine tr_st (.istore_n 1) 1 1 0 (.int 0) rfl rfl rfl rfl rfl rfl rfl ?_
  refine tr_ic 0 0 (by decide) rfl ?_
  refine tr_st (.istore_n 2) 1 2 0 (.int 0) rfl rfl rfl rfl rfl rfl rfl ?_
  exact k
theorem sg_X2_countMirrors_4 {g : tr_g} {d : Nat} {h : ev_AH} {r : ev_O × ev_AH} {x1 x2 : Int32} {w3 : Option Value} (hL : hh_L h) (t : 35 ≤ x2 → tr_L g d m_X2_countMirrors 41 [some (.ref 1001), some (.int x1), some (.int x2), w3] [] h r) (f : x2 < 35 → tr_L g d m_X2_countMirrors 13 [some (.ref 1001), some (.int x1), some (.int x2), w3] [] h r) : tr_L g d m_X2_countMirrors 4 [some (.ref 1001), some (.int x1), some (.int x2), w3] [] h r := by
  refine tr_s (.iload_n 2) 1 5 [some (.ref 1001), some (.int x1), some (.int x2), w3] [.int x2] h rfl rfl rfl ?_
  refine tr_s (.aload_n 0) 1 6 [some (.ref 1001), some (.int x1), some (.int x2), w3] [.ref 1001, .int x2] h rfl rfl rfl ?_
  refine tl_gr hL 9 1 1 0 2 [1002, 1003, 1004, 1005, 1006, 1007, 0, 0, 0, 0, 0, 0, 0, 0] rfl rfl rfl rfl ?_
  refine tl_al hL 2 1 35 rfl rfl (by decide) 35 (by decide) ?_
  exact tr_if2 .ge 31 41 x2 35 rfl rfl rfl (fun hc => t ((tr_ge hc).1 rfl)) (fun hc => f ((tr_ge hc).2 rfl))
theorem sg_X2_countMirrors_13 {g : tr_g} {d : Nat} {h : ev_AH} {r : ev_O × ev_AH} {x1 x2 : Int32} {w3 : Option Value} {j0 : Nat} (hL : hh_L h) (e0 : x2 = Int32.ofNat j0) (b0 : j0 < 35) (t : ((hh_a h 2).getD j0 0) = 47 → tr_L g d m_X2_countMirrors 32 [some (.ref 1001), some (.int x1), some (.int x2), some (.int ((hh_a h 2).getD j0 0))] [] h r) (f : ((hh_a h 2).getD j0 0) ≠ 47 → tr_L g d m_X2_countMirrors 26 [some (.ref 1001), some (.int x1), some (.int x2), some (.int ((hh_a h 2).getD j0 0))] [] h r) : tr_L g d m_X2_countMirrors 13 [some (.ref 1001), some (.int x1), some (.int x2), w3] [] h r := by
  refine tr_s (.aload_n 0) 1 14 [some (.ref 1001), some (.int x1), some (.int x2), w3] [.ref 1001] h rfl rfl rfl ?_
  refine tl_gr hL 9 1 1 0 2 [1002, 1003, 1004, 1005, 1006, 1007, 0, 0, 0, 0, 0, 0, 0, 0] rfl rfl rfl rfl ?_
  refine tr_s (.iload_n 2) 1 18 [some (.ref 1001), some (.int x1), some (.int x2), w3] [.int x2, .ref 1002] h rfl rfl rfl ?_
  refine tl_ald hL .caload 2 1 35 j0 x2 rfl (by decide) rfl e0 b0 (by decide) ?_
  refine tr_st (.istore_n 3) 1 3 0 (.int ((hh_a h 2).getD j0 0)) rfl rfl rfl rfl rfl rfl rfl ?_
  refine tr_s (.iload_n 3) 1 21 [some (.ref 1001), some (.int x1), some (.int x2), some (.int ((hh_a h 2).getD j0 0))] [.int ((hh_a h 2).getD j0 0)] h rfl rfl rfl ?_
  refine tr_bi 47 47 (by decide) rfl ?_
  exact tr_if2 .eq 9 32 ((hh_a h 2).getD j0 0) 47 rfl rfl rfl (fun hc => t ((tr_eq hc).1 rfl)) (fun hc => f ((tr_eq hc).2 rfl))
theorem sg_X2_countMirrors_26 {g : tr_g} {d : Nat} {h : ev_AH} {r : ev_O × ev_AH} {x1 x2 x3 : Int32} (hL : hh_L h) (t : x3 ≠ 92 → tr_L g d m_X2_countMirrors 35 [some (.ref 1001), some (.int x1), some (.int x2), some (.int x3)] [] h r) (f : x3 = 92 → tr_L g d m_X2_countMirrors 32 [some (.ref 1001), some (.int x1), some (.int x2), some (.int x3)] [] h r) : tr_L g d m_X2_countMirrors 26 [some (.ref 1001), some (.int x1), some (.int x2), some (.int x3)] [] h r := by
  refine tr_s (.iload_n 3) 1 27 [some (.ref 1001), some (.int x1), some (.int x2), some (.int x3)] [.int x3] h rfl rfl rfl ?_
  refine tr_bi 92 92 (by decide) rfl ?_
  exact tr_if2 .ne 6 35 x3 92 rfl rfl rfl (fun hc => t ((tr_ne hc).1 rfl)) (fun hc => f ((tr_ne hc).2 rfl))
theorem sg_X2_countMirrors_32 {g : tr_g} {d : Nat} {h : ev_AH} {r : ev_O × ev_AH} {x1 x2 : Int32} {w3 : Option Value} (hL : hh_L h) (k : tr_L g d m_X2_countMirrors 4 [some (.ref 1001), some (.int (x1 + 1)), some (.int (x2 + 1)), w3] [] h r) : tr_L g d m_X2_countMirrors 32 [some (.ref 1001), some (.int x1), some (.int x2), w3] [] h r := by
  refine tr_inc 1 1 x1 1 (by decide) rfl rfl rfl ?_
  refine tr_inc 2 1 x2 1 (by decide) rfl rfl rfl ?_
  refine tr_goto (-34) 4 rfl rfl rfl ?_
  exact k
theorem sg_X2_countMirrors_35 {g : tr_g} {d : Nat} {h : ev_AH} {r : ev_O × ev_AH} {x1 x2 : Int32} {w3 : Option Value} (hL : hh_L h) (k : tr_L g d m_X2_countMirrors 4 [some (.ref 1001), some (.int x1), some (.int (x2 + 1)), w3] [] h r) : tr_L g d m_X2_countMirrors 35 [some (.ref 1001), some (.int x1), some (.int x2), w3] [] h r := by
  refine tr_inc 2 1 x2 1 (by decide) rfl rfl rfl ?_
  refine tr_goto (-34) 4 rfl rfl rfl ?_
  exact k
theorem sg_X2_countMirrors_41 {g : tr_g} {d : Nat} {h : ev_AH} {r : ev_O × ev_AH} {w0 w2 w3 : Option Value} {x1 : Int32} (hL : hh_L h) (hr : r = (.inl (some (.int x1)), h)) : tr_L g d m_X2_countMirrors 41 [w0, some (.int x1), w2, w3] [] h r := by
  refine tr_s (.iload_n 1) 1 42 [w0, some (.int x1), w2, w3] [.int x1] h rfl rfl rfl ?_
  exact tl_ret hL .ireturn 1 (some (.int x1)) rfl rfl rfl rfl hr
theorem sg_X2_hear_0 {g : tr_g} {d : Nat} {h : ev_AH} {r : ev_O × ev_AH} {x1 x2 v0 : Int32} {h1 : ev_AH} (hL : hh_L h) (c_0 : tr_L g d m_X2_placeIn 0 [some (.ref 1001), some (.int x1), some (.int x2), none] [] h (.inl (some (.int v0)), h1)) (t : v0 ≤ 0 → tr_L g (d + 1) m_X2_hear 47 [some (.ref 1001), some (.int x1), some (.int x2), some (.int v0), none] [] h1 r) (f : 0 < v0 → tr_L g (d + 1) m_X2_hear 11 [some (.ref 1001), some (.int x1), some (.int x2), some (.int v0), none] [] h1 r) : tr_L g (d + 1) m_X2_hear 0 [some (.ref 1001), some (.int x1), some (.int x2), none, none] [] h r := by
  refine tr_s (.aload_n 0) 1 1 [some (.ref 1001), some (.int x1), some (.int x2), none, none] [.ref 1001] h rfl rfl rfl ?_
  refine tr_s (.iload_n 1) 1 2 [some (.ref 1001), some (.int x1), some (.int x2), none, none] [.int x1, .ref 1001] h rfl rfl rfl ?_
  refine tr_s (.iload_n 2) 1 3 [some (.ref 1001), some (.int x1), some (.int x2), none, none] [.int x2, .int x1, .ref 1001] h rfl rfl rfl ?_
  refine tr_call (.invokevirtual 94) 94 0 2 1 m_X2_placeIn [.ref 1001, .int x1, .int x2] [] (some (.int v0)) h1 rfl rfl rfl rfl rfl rfl rfl rfl rfl (tr_cok rfl (Or.inr ⟨_, _, rfl, tr_rc (hh_rd (hh_obj hL (k := 1) rfl).1) (by decide)⟩)) c_0 ?_
  have hL0 := c_0.2
  refine tr_st (.istore_n 3) 1 3 0 (.int v0) rfl rfl rfl rfl rfl rfl rfl ?_
  refine tr_s (.iload_n 3) 1 8 [some (.ref 1001), some (.int x1), some (.int x2), some (.int v0), none] [.int v0] h1 rfl rfl rfl ?_
  exact tr_if1 .le 39 47 v0 rfl rfl rfl (fun hc => t ((tr_le hc).1 rfl)) (fun hc => f ((tr_le hc).2 rfl))
theorem sg_X2_hear_11 {g : tr_g} {d : Nat} {h : ev_AH} {r : ev_O × ev_AH} {x1 x2 x3 v0 : Int32} {w4 : Option Value} {h1 h2 h3 : ev_AH} (hL : hh_L h) (c_0 : tr_L g d m_X2_optionIn 0 [some (.ref 1001), some (.int x1), some (.int (x3 - 1))] [] h (.inl (some (.int v0)), h1)) (c_1 : tr_L g d m_X8_put 0 [some (.ref 1004), some (.int ((4 * x1) + x3)), some (.int v0)] [] h1 (.inl none, h2)) (c_2 : tr_L g d m_X8_put 0 [some (.ref 1004), some (.int (((4 * x1) + x3) - 1)), some (.int x2)] [] h2 (.inl none, h3)) (k : tr_L g (d + 1) m_X2_hear 47 [some (.ref 1001), some (.int x1), some (.int x2), some (.int x3), some (.int ((4 * x1) + x3))] [] h3 r) : tr_L g (d + 1) m_X2_hear 11 [some (.ref 1001), some (.int x1), some (.int x2), some (.int x3), w4] [] h r := by
  refine tr_ic 4 4 (by decide) rfl ?_
  refine tr_s (.iload_n 1) 1 13 [some (.ref 1001), some (.int x1), some (.int x2), some (.int x3), w4] [.int x1, .int 4] h rfl rfl rfl ?_
  refine tr_s .imul 1 14 [some (.ref 1001), some (.int x1), some (.int x2), some (.int x3), w4] [.int (4 * x1)] h rfl rfl rfl ?_
  refine tr_s (.iload_n 3) 1 15 [some (.ref 1001), some (.int x1), some (.int x2), some (.int x3), w4] [.int x3, .int (4 * x1)] h rfl rfl rfl ?_
  refine tr_s .iadd 1 16 [some (.ref 1001), some (.int x1), some (.int x2), some (.int x3), w4] [.int ((4 * x1) + x3)] h rfl rfl rfl ?_
  refine tr_st (.istore 4) 2 4 0 (.int ((4 * x1) + x3)) rfl rfl rfl rfl rfl rfl rfl ?_
  refine tr_s (.aload_n 0) 1 19 [some (.ref 1001), some (.int x1), some (.int x2), some (.int x3), some (.int ((4 * x1) + x3))] [.ref 1001] h rfl rfl rfl ?_
  refine tl_gr hL 19 1 1 2 4 [1002, 1003, 1004, 1005, 1006, 1007, 0, 0, 0, 0, 0, 0, 0, 0] rfl rfl rfl rfl ?_
  refine tr_s (.iload 4) 2 24 [some (.ref 1001), some (.int x1), some (.int x2), some (.int x3), some (.int ((4 * x1) + x3))] [.int ((4 * x1) + x3), .ref 1004] h rfl rfl rfl ?_
  refine tr_s (.aload_n 0) 1 25 [some (.ref 1001), some (.int x1), some (.int x2), some (.int x3), some (.int ((4 * x1) + x3))] [.ref 1001, .int ((4 * x1) + x3), .ref 1004] h rfl rfl rfl ?_
  refine tr_s (.iload_n 1) 1 26 [some (.ref 1001), some (.int x1), some (.int x2), some (.int x3), some (.int ((4 * x1) + x3))] [.int x1, .ref 1001, .int ((4 * x1) + x3), .ref 1004] h rfl rfl rfl ?_
  refine tr_s (.iload_n 3) 1 27 [some (.ref 1001), some (.int x1), some (.int x2), some (.int x3), some (.int ((4 * x1) + x3))] [.int x3, .int x1, .ref 1001, .int ((4 * x1) + x3), .ref 1004] h rfl rfl rfl ?_
  refine tr_ic 1 1 (by decide) rfl ?_
  refine tr_s .isub 1 29 [some (.ref 1001), some (.int x1), some (.int x2), some (.int x3), some (.int ((4 * x1) + x3))] [.int (x3 - 1), .int x1, .ref 1001, .int ((4 * x1) + x3), .ref 1004] h rfl rfl rfl ?_
  refine tr_call (.invokevirtual 98) 98 0 2 1 m_X2_optionIn [.ref 1001, .int x1, .int (x3 - 1)] [.int ((4 * x1) + x3), .ref 1004] (some (.int v0)) h1 rfl rfl rfl rfl rfl rfl rfl rfl rfl (tr_cok rfl (Or.inr ⟨_, _, rfl, tr_rc (hh_rd (hh_obj hL (k := 1) rfl).1) (by decide)⟩)) c_0 ?_
  have hL0 := c_0.2
  refine tr_call (.invokestatic 84) 84 3 3 0 m_X8_put [.ref 1004, .int ((4 * x1) + x3), .int v0] [] none h2 rfl rfl rfl rfl rfl rfl rfl rfl rfl (tr_cok rfl (Or.inl rfl)) c_1 ?_
  have hL1 := c_1.2
  refine tr_s (.aload_n 0) 1 36 [some (.ref 1001), some (.int x1), some (.int x2), some (.int x3), some (.int ((4 * x1) + x3))] [.ref 1001] h2 rfl rfl rfl ?_
  refine tl_gr hL1 19 1 1 2 4 [1002, 1003, 1004, 1005, 1006, 1007, 0, 0, 0, 0, 0, 0, 0, 0] rfl rfl rfl rfl ?_
  refine tr_s (.iload 4) 2 41 [some (.ref 1001), some (.int x1), some (.int x2), some (.int x3), some (.int ((4 * x1) + x3))] [.int ((4 * x1) + x3), .ref 1004] h2 rfl rfl rfl ?_
  refine tr_ic 1 1 (by decide) rfl ?_
  refine tr_s .isub 1 43 [some (.ref 1001), some (.int x1), some (.int x2), some (.int x3), some (.int ((4 * x1) + x3))] [.int (((4 * x1) + x3) - 1), .ref 1004] h2 rfl rfl rfl ?_
  refine tr_s (.iload_n 2) 1 44 [some (.ref 1001), some (.int x1), some (.int x2), some (.int x3), some (.int ((4 * x1) + x3))] [.int x2, .int (((4 * x1) + x3) - 1), .ref 1004] h2 rfl rfl rfl ?_
  refine tr_call (.invokestatic 84) 84 3 3 0 m_X8_put [.ref 1004, .int (((4 * x1) + x3) - 1), .int x2] [] none h3 rfl rfl rfl rfl rfl rfl rfl rfl rfl (tr_cok rfl (Or.inl rfl)) c_2 ?_
  have hL2 := c_2.2
  exact k
theorem sg_X2_hear_47 {g : tr_g} {d : Nat} {h : ev_AH} {r : ev_O × ev_AH} {x1 v0 : Int32} {w2 w3 w4 : Option Value} {h1 h2 : ev_AH} (hL : hh_L h) (c_0 : tr_L g d m_X8_at 0 [some (.ref 1006), some (.int x1)] [] h (.inl (some (.int v0)), h1)) (c_1 : tr_L g d m_X8_put 0 [some (.ref 1006), some (.int x1), some (.int (v0 + 1))] [] h1 (.inl none, h2)) (hr : r = (.inl (none), hh_si h2 1 1 11 ((hh_i h2 1 11) + 1))) : tr_L g (d + 1) m_X2_hear 47 [some (.ref 1001), some (.int x1), w2, w3, w4] [] h r := by
  refine tr_s (.aload_n 0) 1 48 [some (.ref 1001), some (.int x1), w2, w3, w4] [.ref 1001] h rfl rfl rfl ?_
  refine tl_gr hL 25 1 1 4 6 [1002, 1003, 1004, 1005, 1006, 1007, 0, 0, 0, 0, 0, 0, 0, 0] rfl rfl rfl rfl ?_
  refine tr_s (.iload_n 1) 1 52 [some (.ref 1001), some (.int x1), w2, w3, w4] [.int x1, .ref 1006] h rfl rfl rfl ?_
  refine tr_s (.aload_n 0) 1 53 [some (.ref 1001), some (.int x1), w2, w3, w4] [.ref 1001, .int x1, .ref 1006] h rfl rfl rfl ?_
  refine tl_gr hL 25 1 1 4 6 [1002, 1003, 1004, 1005, 1006, 1007, 0, 0, 0, 0, 0, 0, 0, 0] rfl rfl rfl rfl ?_
  refine tr_s (.iload_n 1) 1 57 [some (.ref 1001), some (.int x1), w2, w3, w4] [.int x1, .ref 1006, .int x1, .ref 1006] h rfl rfl rfl ?_
  refine tr_call (.invokestatic 65) 65 3 2 0 m_X8_at [.ref 1006, .int x1] [.int x1, .ref 1006] (some (.int v0)) h1 rfl rfl rfl rfl rfl rfl rfl rfl rfl (tr_cok rfl (Or.inl rfl)) c_0 ?_
  have hL0 := c_0.2
  refine tr_ic 1 1 (by decide) rfl ?_
  refine tr_s .iadd 1 62 [some (.ref 1001), some (.int x1), w2, w3, w4] [.int (v0 + 1), .int x1, .ref 1006] h1 rfl rfl rfl ?_
  refine tr_call (.invokestatic 84) 84 3 3 0 m_X8_put [.ref 1006, .int x1, .int (v0 + 1)] [] none h2 rfl rfl rfl rfl rfl rfl rfl rfl rfl (tr_cok rfl (Or.inl rfl)) c_1 ?_
  have hL1 := c_1.2
  refine tr_s (.aload_n 0) 1 66 [some (.ref 1001), some (.int x1), w2, w3, w4] [.ref 1001] h2 rfl rfl rfl ?_
  refine tr_s .dup 1 67 [some (.ref 1001), some (.int x1), w2, w3, w4] [.ref 1001, .ref 1001] h2 rfl rfl rfl ?_
  refine tl_gi hL1 48 1 1 11 [1002, 1003, 1004, 1005, 1006, 1007, 0, 0, 0, 0, 0, 0, 0, 0] rfl rfl rfl rfl ?_
  refine tr_ic 1 1 (by decide) rfl ?_
  refine tr_s .iadd 1 72 [some (.ref 1001), some (.int x1), w2, w3, w4] [.int ((hh_i h2 1 11) + 1), .ref 1001] h2 rfl rfl rfl ?_
  refine tl_pf hL1 48 1 1 11 [1002, 1003, 1004, 1005, 1006, 1007, 0, 0, 0, 0, 0, 0, 0, 0] ((hh_i h2 1 11) + 1) .int rfl rfl rfl rfl rfl tr_oki ?_
  have hL2 := hh_L_si (sl := 11) (x := ((hh_i h2 1 11) + 1)) hL1 (show hh_t[1]? = some (.inr (1, [1002, 1003, 1004, 1005, 1006, 1007, 0, 0, 0, 0, 0, 0, 0, 0])) from rfl) rfl
  exact tl_ret hL2 .return_ 1 none rfl rfl rfl rfl hr
theorem sg_X2_placeIn_0 {g : tr_g} {d : Nat} {h : ev_AH} {r : ev_O × ev_AH} {x1 x2 : Int32} (hL : hh_L h) (k : tr_L g d m_X2_placeIn 2 [some (.ref 1001), some (.int x1), some (.int x2), some (.int 0)] [] h r) : tr_L g d m_X2_placeIn 0 [some (.ref 1001), some (.int x1), some (.int x2), none] [] h r := by
  refine tr_ic 0 0 (by decide) rfl ?_
  refine tr_st (.istore_n 3) 1 3 0 (.int 0) rfl rfl rfl rfl rfl rfl rfl ?_
  exact k
theorem sg_X2_placeIn_2 {g : tr_g} {d : Nat} {h : ev_AH} {r : ev_O × ev_AH} {x1 x2 x3 : Int32} (hL : hh_L h) (t : 3 ≤ x3 → tr_L g d m_X2_placeIn 31 [some (.ref 1001), some (.int x1), some (.int x2), some (.int x3)] [] h r) (f : x3 < 3 → tr_L g d m_X2_placeIn 7 [some (.ref 1001), some (.int x1), some (.int x2), some (.int x3)] [] h r) : tr_L g d m_X2_placeIn 2 [some (.ref 1001), some (.int x1), some (.int x2), some (.int x3)] [] h r := by
  refine tr_s (.iload_n 3) 1 3 [some (.ref 1001), some (.int x1), some (.int x2), some (.int x3)] [.int x3] h rfl rfl rfl ?_
  refine tr_ic 3 3 (by decide) rfl ?_
  exact tr_if2 .ge 27 31 x3 3 rfl rfl rfl (fun hc => t ((tr_ge hc).1 rfl)) (fun hc => f ((tr_ge hc).2 rfl))
theorem sg_X2_placeIn_7 {g : tr_g} {d : Nat} {h : ev_AH} {r : ev_O × ev_AH} {x1 x2 x3 v0 : Int32} {h1 : ev_AH} (hL : hh_L h) (c_0 : tr_L g d m_X8_at 0 [some (.ref 1004), some (.int ((4 * x1) + x3))] [] h (.inl (some (.int v0)), h1)) (t : v0 ≠ x2 → tr_L g (d + 1) m_X2_placeIn 25 [some (.ref 1001), some (.int x1), some (.int x2), some (.int x3)] [] h1 r) (f : v0 = x2 → tr_L g (d + 1) m_X2_placeIn 23 [some (.ref 1001), some (.int x1), some (.int x2), some (.int x3)] [] h1 r) : tr_L g (d + 1) m_X2_placeIn 7 [some (.ref 1001), some (.int x1), some (.int x2), some (.int x3)] [] h r := by
  refine tr_s (.aload_n 0) 1 8 [some (.ref 1001), some (.int x1), some (.int x2), some (.int x3)] [.ref 1001] h rfl rfl rfl ?_
  refine tl_gr hL 19 1 1 2 4 [1002, 1003, 1004, 1005, 1006, 1007, 0, 0, 0, 0, 0, 0, 0, 0] rfl rfl rfl rfl ?_
  refine tr_ic 4 4 (by decide) rfl ?_
  refine tr_s (.iload_n 1) 1 13 [some (.ref 1001), some (.int x1), some (.int x2), some (.int x3)] [.int x1, .int 4, .ref 1004] h rfl rfl rfl ?_
  refine tr_s .imul 1 14 [some (.ref 1001), some (.int x1), some (.int x2), some (.int x3)] [.int (4 * x1), .ref 1004] h rfl rfl rfl ?_
  refine tr_s (.iload_n 3) 1 15 [some (.ref 1001), some (.int x1), some (.int x2), some (.int x3)] [.int x3, .int (4 * x1), .ref 1004] h rfl rfl rfl ?_
  refine tr_s .iadd 1 16 [some (.ref 1001), some (.int x1), some (.int x2), some (.int x3)] [.int ((4 * x1) + x3), .ref 1004] h rfl rfl rfl ?_
  refine tr_call (.invokestatic 65) 65 3 2 0 m_X8_at [.ref 1004, .int ((4 * x1) + x3)] [] (some (.int v0)) h1 rfl rfl rfl rfl rfl rfl rfl rfl rfl (tr_cok rfl (Or.inl rfl)) c_0 ?_
  have hL0 := c_0.2
  refine tr_s (.iload_n 2) 1 20 [some (.ref 1001), some (.int x1), some (.int x2), some (.int x3)] [.int x2, .int v0] h1 rfl rfl rfl ?_
  exact tr_if2 .ne 5 25 v0 x2 rfl rfl rfl (fun hc => t ((tr_ne hc).1 rfl)) (fun hc => f ((tr_ne hc).2 rfl))
theorem sg_X2_placeIn_23 {g : tr_g} {d : Nat} {h : ev_AH} {r : ev_O × ev_AH} {w0 w1 w2 : Option Value} {x3 : Int32} (hL : hh_L h) (hr : r = (.inl (some (.int x3)), h)) : tr_L g d m_X2_placeIn 23 [w0, w1, w2, some (.int x3)] [] h r := by
  refine tr_s (.iload_n 3) 1 24 [w0, w1, w2, some (.int x3)] [.int x3] h rfl rfl rfl ?_
  exact tl_ret hL .ireturn 1 (some (.int x3)) rfl rfl rfl rfl hr
theorem sg_X2_placeIn_25 {g : tr_g} {d : Nat} {h : ev_AH} {r : ev_O × ev_AH} {x1 x2 x3 : Int32} (hL : hh_L h) (k : tr_L g d m_X2_placeIn 2 [some (.ref 1001), some (.int x1), some (.int x2), some (.int (x3 + 1))] [] h r) : tr_L g d m_X2_placeIn 25 [some (.ref 1001), some (.int x1), some (.int x2), some (.int x3)] [] h r := by
  refine tr_inc 3 1 x3 1 (by decide) rfl rfl rfl ?_
  refine tr_goto (-26) 2 rfl rfl rfl ?_
  exact k
theorem sg_X2_placeIn_31 {g : tr_g} {d : Nat} {h : ev_AH} {r : ev_O × ev_AH} {w0 w1 w2 w3 : Option Value} (hL : hh_L h) (hr : r = (.inl (some (.int 3)), h)) : tr_L g d m_X2_placeIn 31 [w0, w1, w2, w3] [] h r := by
  refine tr_ic 3 3 (by decide) rfl ?_
  exact tl_ret hL .ireturn 1 (some (.int 3)) rfl rfl rfl rfl hr
theorem sg_X2_optionIn_0 {g : tr_g} {d : Nat} {h : ev_AH} {r : ev_O × ev_AH} {x1 x2 v0 : Int32} {h1 : ev_AH} (hL : hh_L h) (c_0 : tr_L g d m_X8_at 0 [some (.ref 1004), some (.int ((4 * x1) + x2))] [] h (.inl (some (.int v0)), h1)) (hr : r = (.inl (some (.int v0)), h1)) : tr_L g (d + 1) m_X2_optionIn 0 [some (.ref 1001), some (.int x1), some (.int x2)] [] h r := by
  refine tr_s (.aload_n 0) 1 1 [some (.ref 1001), some (.int x1), some (.int x2)] [.ref 1001] h rfl rfl rfl ?_
  refine tl_gr hL 19 1 1 2 4 [1002, 1003, 1004, 1005, 1006, 1007, 0, 0, 0, 0, 0, 0, 0, 0] rfl rfl rfl rfl ?_
  refine tr_ic 4 4 (by decide) rfl ?_
  refine tr_s (.iload_n 1) 1 6 [some (.ref 1001), some (.int x1), some (.int x2)] [.int x1, .int 4, .ref 1004] h rfl rfl rfl ?_
  refine tr_s .imul 1 7 [some (.ref 1001), some (.int x1), some (.int x2)] [.int (4 * x1), .ref 1004] h rfl rfl rfl ?_
  refine tr_s (.iload_n 2) 1 8 [some (.ref 1001), some (.int x1), some (.int x2)] [.int x2, .int (4 * x1), .ref 1004] h rfl rfl rfl ?_
  refine tr_s .iadd 1 9 [some (.ref 1001), some (.int x1), some (.int x2)] [.int ((4 * x1) + x2), .ref 1004] h rfl rfl rfl ?_
  refine tr_call (.invokestatic 65) 65 3 2 0 m_X8_at [.ref 1004, .int ((4 * x1) + x2)] [] (some (.int v0)) h1 rfl rfl rfl rfl rfl rfl rfl rfl rfl (tr_cok rfl (Or.inl rfl)) c_0 ?_
  have hL0 := c_0.2
  exact tl_ret hL0 .ireturn 1 (some (.int v0)) rfl rfl rfl rfl hr
theorem sg_X2_mayRetry_0 {g : tr_g} {d : Nat} {h : ev_AH} {r : ev_O × ev_AH} (hL : hh_L h) (t : (hh_i h 1 12) = 0 → tr_L g d m_X2_mayRetry 31 [some (.ref 1001)] [] h r) (f : (hh_i h 1 12) ≠ 0 → tr_L g d m_X2_mayRetry 7 [some (.ref 1001)] [] h r) : tr_L g d m_X2_mayRetry 0 [some (.ref 1001)] [] h r := by
  refine tr_s (.aload_n 0) 1 1 [some (.ref 1001)] [.ref 1001] h rfl rfl rfl ?_
  refine tl_gi hL 51 1 1 12 [1002, 1003, 1004, 1005, 1006, 1007, 0, 0, 0, 0, 0, 0, 0, 0] rfl rfl rfl rfl ?_
  exact tr_if1 .eq 27 31 (hh_i h 1 12) rfl rfl rfl (fun hc => t ((tr_eq hc).1 rfl)) (fun hc => f ((tr_eq hc).2 rfl))
theorem sg_X2_mayRetry_7 {g : tr_g} {d : Nat} {h : ev_AH} {r : ev_O × ev_AH} {h1 : ev_AH} {v0 : Int32} (hL : hh_L h) (c_0 : tr_L g d m_X8_at_ 0 [some (.ref 1007), some (.int 0)] [] h (.inl (some (.int v0)), h1)) (t : v0 = 45 → tr_L g (d + 1) m_X2_mayRetry 27 [some (.ref 1001)] [] h1 r) (f : v0 ≠ 45 → tr_L g (d + 1) m_X2_mayRetry 20 [some (.ref 1001)] [] h1 r) : tr_L g (d + 1) m_X2_mayRetry 7 [some (.ref 1001)] [] h r := by
  refine tr_s (.aload_n 0) 1 8 [some (.ref 1001)] [.ref 1001] h rfl rfl rfl ?_
  refine tl_gr hL 28 1 1 5 7 [1002, 1003, 1004, 1005, 1006, 1007, 0, 0, 0, 0, 0, 0, 0, 0] rfl rfl rfl rfl ?_
  refine tr_ic 0 0 (by decide) rfl ?_
  refine tr_call (.invokestatic 91) 91 3 2 0 m_X8_at_ [.ref 1007, .int 0] [] (some (.int v0)) h1 rfl rfl rfl rfl rfl rfl rfl rfl rfl (tr_cok rfl (Or.inl rfl)) c_0 ?_
  have hL0 := c_0.2
  refine tr_bi 45 45 (by decide) rfl ?_
  exact tr_if2 .eq 10 27 v0 45 rfl rfl rfl (fun hc => t ((tr_eq hc).1 rfl)) (fun hc => f ((tr_eq hc).2 rfl))
theorem sg_X2_mayRetry_20 {g : tr_g} {d : Nat} {h : ev_AH} {r : ev_O × ev_AH} (hL : hh_L h) (t : (hh_i h 1 13) = 0 → tr_L g d m_X2_mayRetry 31 [some (.ref 1001)] [] h r) (f : (hh_i h 1 13) ≠ 0 → tr_L g d m_X2_mayRetry 27 [some (.ref 1001)] [] h r) : tr_L g d m_X2_mayRetry 20 [some (.ref 1001)] [] h r := by
  refine tr_s (.aload_n 0) 1 21 [some (.ref 1001)] [.ref 1001] h rfl rfl rfl ?_
  refine tl_gi hL 55 1 1 13 [1002, 1003, 1004, 1005, 1006, 1007, 0, 0, 0, 0, 0, 0, 0, 0] rfl rfl rfl rfl ?_
  exact tr_if1 .eq 7 31 (hh_i h 1 13) rfl rfl rfl (fun hc => t ((tr_eq hc).1 rfl)) (fun hc => f ((tr_eq hc).2 rfl))
theorem sg_X2_mayRetry_27 {g : tr_g} {d : Nat} {h : ev_AH} {r : ev_O × ev_AH} {w0 : Option Value} (hL : hh_L h) (hr : r = (.inl (some (.int 1)), h)) : tr_L g d m_X2_mayRetry 27 [w0] [] h r := by
  refine tr_ic 1 1 (by decide) rfl ?_
  refine tr_goto 4 32 rfl rfl rfl ?_
  exact tl_ret hL .ireturn 1 (some (.int 1)) rfl rfl rfl rfl hr
theorem sg_X2_mayRetry_31 {g : tr_g} {d : Nat} {h : ev_AH} {r : ev_O × ev_AH} {w0 : Option Value} (hL : hh_L h) (hr : r = (.inl (some (.int 0)), h)) : tr_L g d m_X2_mayRetry 31 [w0] [] h r := by
  refine tr_ic 0 0 (by decide) rfl ?_
  exact tl_ret hL .ireturn 1 (some (.int 0)) rfl rfl rfl rfl hr
theorem sg_X2_startAgain_0 {g : tr_g} {d : Nat} {h : ev_AH} {r : ev_O × ev_AH} (hL : hh_L h) (k : tr_L g d m_X2_startAgain 4 [some (.ref 1001), some (.int 0), some (.int 0)] [] h r) : tr_L g d m_X2_startAgain 0 [some (.ref 1001), none, none] [] h r := by
  refine tr_ic 0 0 (by decide) rfl ?_
  refine tr_st (.istore_n 1) 1 1 0 (.int 0) rfl rfl rfl rfl rfl rfl rfl ?_
  refine tr_ic 0 0 (by decide) rfl ?_
  refine tr_st (.istore_n 2) 1 2 0 (.int 0) rfl rfl rfl rfl rfl rfl rfl ?_
  exact k
theorem sg_X2_startAgain_4 {g : tr_g} {d : Nat} {h : ev_AH} {r : ev_O × ev_AH} {x1 x2 : Int32} (hL : hh_L h) (t : (hh_i h 1 6) ≤ x2 → tr_L g d m_X2_startAgain 29 [some (.ref 1001), some (.int x1), some (.int x2)] [] h r) (f : x2 < (hh_i h 1 6) → tr_L g d m_X2_startAgain 12 [some (.ref 1001), some (.int x1), some (.int x2)] [] h r) : tr_L g d m_X2_startAgain 4 [some (.ref 1001), some (.int x1), some (.int x2)] [] h r := by
  refine tr_s (.iload_n 2) 1 5 [some (.ref 1001), some (.int x1), some (.int x2)] [.int x2] h rfl rfl rfl ?_
  refine tr_s (.aload_n 0) 1 6 [some (.ref 1001), some (.int x1), some (.int x2)] [.ref 1001, .int x2] h rfl rfl rfl ?_
  refine tl_gi hL 31 1 1 6 [1002, 1003, 1004, 1005, 1006, 1007, 0, 0, 0, 0, 0, 0, 0, 0] rfl rfl rfl rfl ?_
  exact tr_if2 .ge 20 29 x2 (hh_i h 1 6) rfl rfl rfl (fun hc => t ((tr_ge hc).1 rfl)) (fun hc => f ((tr_ge hc).2 rfl))
theorem sg_X2_startAgain_12 {g : tr_g} {d : Nat} {h : ev_AH} {r : ev_O × ev_AH} {x1 x2 v0 : Int32} {h1 : ev_AH} (hL : hh_L h) (c_0 : tr_L g d m_X2_resetRanking 0 [some (.ref 1001), some (.int x2), none, none, none] [] h (.inl (some (.int v0)), h1)) (t : v0 = 0 → tr_L g (d + 1) m_X2_startAgain 23 [some (.ref 1001), some (.int x1), some (.int x2)] [] h1 r) (f : v0 ≠ 0 → tr_L g (d + 1) m_X2_startAgain 20 [some (.ref 1001), some (.int x1), some (.int x2)] [] h1 r) : tr_L g (d + 1) m_X2_startAgain 12 [some (.ref 1001), some (.int x1), some (.int x2)] [] h r := by
  refine tr_s (.aload_n 0) 1 13 [some (.ref 1001), some (.int x1), some (.int x2)] [.ref 1001] h rfl rfl rfl ?_
  refine tr_s (.iload_n 2) 1 14 [some (.ref 1001), some (.int x1), some (.int x2)] [.int x2, .ref 1001] h rfl rfl rfl ?_
  refine tr_call (.invokevirtual 101) 101 0 1 1 m_X2_resetRanking [.ref 1001, .int x2] [] (some (.int v0)) h1 rfl rfl rfl rfl rfl rfl rfl rfl rfl (tr_cok rfl (Or.inr ⟨_, _, rfl, tr_rc (hh_rd (hh_obj hL (k := 1) rfl).1) (by decide)⟩)) c_0 ?_
  have hL0 := c_0.2
  exact tr_if1 .eq 6 23 v0 rfl rfl rfl (fun hc => t ((tr_eq hc).1 rfl)) (fun hc => f ((tr_eq hc).2 rfl))
theorem sg_X2_startAgain_20 {g : tr_g} {d : Nat} {h : ev_AH} {r : ev_O × ev_AH} {x1 x2 : Int32} (hL : hh_L h) (k : tr_L g d m_X2_startAgain 4 [some (.ref 1001), some (.int (x1 + 1)), some (.int (x2 + 1))] [] h r) : tr_L g d m_X2_startAgain 20 [some (.ref 1001), some (.int x1), some (.int x2)] [] h r := by
  refine tr_inc 1 1 x1 1 (by decide) rfl rfl rfl ?_
  refine tr_inc 2 1 x2 1 (by decide) rfl rfl rfl ?_
  refine tr_goto (-22) 4 rfl rfl rfl ?_
  exact k
theorem sg_X2_startAgain_23 {g : tr_g} {d : Nat} {h : ev_AH} {r : ev_O × ev_AH} {x1 x2 : Int32} (hL : hh_L h) (k : tr_L g d m_X2_startAgain 4 [some (.ref 1001), some (.int x1), some (.int (x2 + 1))] [] h r) : tr_L g d m_X2_startAgain 23 [some (.ref 1001), some (.int x1), some (.int x2)] [] h r := by
  refine tr_inc 2 1 x2 1 (by decide) rfl rfl rfl ?_
  refine tr_goto (-22) 4 rfl rfl rfl ?_
  exact k
theorem sg_X2_startAgain_29 {g : tr_g} {d : Nat} {h : ev_AH} {r : ev_O × ev_AH} {x1 : Int32} {w2 : Option Value} (hL : hh_L h) (hr : r = (.inl (some (.int x1)), hh_si (hh_si h 1 1 10 ((hh_i h 1 10) + 1)) 1 1 12 0)) : tr_L g d m_X2_startAgain 29 [some (.ref 1001), some (.int x1), w2] [] h r := by
  refine tr_s (.aload_n 0) 1 30 [some (.ref 1001), some (.int x1), w2] [.ref 1001] h rfl rfl rfl ?_
  refine tr_s .dup 1 31 [some (.ref 1001), some (.int x1), w2] [.ref 1001, .ref 1001] h rfl rfl rfl ?_
  refine tl_gi hL 45 1 1 10 [1002, 1003, 1004, 1005, 1006, 1007, 0, 0, 0, 0, 0, 0, 0, 0] rfl rfl rfl rfl ?_
  refine tr_ic 1 1 (by decide) rfl ?_
  refine tr_s .iadd 1 36 [some (.ref 1001), some (.int x1), w2] [.int ((hh_i h 1 10) + 1), .ref 1001] h rfl rfl rfl ?_
  refine tl_pf hL 45 1 1 10 [1002, 1003, 1004, 1005, 1006, 1007, 0, 0, 0, 0, 0, 0, 0, 0] ((hh_i h 1 10) + 1) .int rfl rfl rfl rfl rfl tr_oki ?_
  have hL0 := hh_L_si (sl := 10) (x := ((hh_i h 1 10) + 1)) hL (show hh_t[1]? = some (.inr (1, [1002, 1003, 1004, 1005, 1006, 1007, 0, 0, 0, 0, 0, 0, 0, 0])) from rfl) rfl
  refine tr_s (.aload_n 0) 1 40 [some (.ref 1001), some (.int x1), w2] [.ref 1001] (hh_si h 1 1 10 ((hh_i h 1 10) + 1)) rfl rfl rfl ?_
  refine tr_ic 0 0 (by decide) rfl ?_
  refine tl_pf hL0 51 1 1 12 [1002, 1003, 1004, 1005, 1006, 1007, 0, 0, 0, 0, 0, 0, 0, 0] 0 .boolean rfl rfl rfl rfl rfl (by decide) ?_
  have hL1 := hh_L_si (sl := 12) (x := 0) hL0 (show hh_t[1]? = some (.inr (1, [1002, 1003, 1004, 1005, 1006, 1007, 0, 0, 0, 0, 0, 0, 0, 0])) from rfl) rfl
  refine tr_s (.iload_n 1) 1 45 [some (.ref 1001), some (.int x1), w2] [.int x1] (hh_si (hh_si h 1 1 10 ((hh_i h 1 10) + 1)) 1 1 12 0) rfl rfl rfl ?_
  exact tl_ret hL1 .ireturn 1 (some (.int x1)) rfl rfl rfl rfl hr
theorem sg_X2_resetRanking_0 {g : tr_g} {d : Nat} {h : ev_AH} {r : ev_O × ev_AH} {x1 : Int32} (hL : hh_L h) (k : tr_L g d m_X2_resetRanking 4 [some (.ref 1001), some (.int x1), some (.int 0), some (.int 0), none] [] h r) : tr_L g d m_X2_resetRanking 0 [some (.ref 1001), some (.int x1), none, none, none] [] h r := by
  refine tr_ic 0 0 (by decide) rfl ?_
  refine tr_st (.istore_n 2) 1 2 0 (.int 0) rfl rfl rfl rfl rfl rfl rfl ?_
  refine tr_ic 0 0 (by decide) rfl ?_
  refine tr_st (.istore_n 3) 1 3 0 (.int 0) rfl rfl rfl rfl rfl rfl rfl ?_
  exact k
theorem sg_X2_resetRanking_4 {g : tr_g} {d : Nat} {h : ev_AH} {r : ev_O × ev_AH} {x1 x2 x3 : Int32} {w4 : Option Value} (hL : hh_L h) (t : 4 ≤ x3 → tr_L g d m_X2_resetRanking 56 [some (.ref 1001), some (.int x1), some (.int x2), some (.int x3), w4] [] h r) (f : x3 < 4 → tr_L g d m_X2_resetRanking 9 [some (.ref 1001), some (.int x1), some (.int x2), some (.int x3), w4] [] h r) : tr_L g d m_X2_resetRanking 4 [some (.ref 1001), some (.int x1), some (.int x2), some (.int x3), w4] [] h r := by
  refine tr_s (.iload_n 3) 1 5 [some (.ref 1001), some (.int x1), some (.int x2), some (.int x3), w4] [.int x3] h rfl rfl rfl ?_
  refine tr_ic 4 4 (by decide) rfl ?_
  exact tr_if2 .ge 50 56 x3 4 rfl rfl rfl (fun hc => t ((tr_ge hc).1 rfl)) (fun hc => f ((tr_ge hc).2 rfl))
theorem sg_X2_resetRanking_9 {g : tr_g} {d : Nat} {h : ev_AH} {r : ev_O × ev_AH} {x1 x2 x3 v0 v1 : Int32} {w4 : Option Value} {h1 h2 : ev_AH} (hL : hh_L h) (c_0 : tr_L g d m_X8_at 0 [some (.ref 1005), some (.int ((4 * x1) + x3))] [] h (.inl (some (.int v0)), h1)) (c_1 : tr_L g d m_X2_optionIn 0 [some (.ref 1001), some (.int x1), some (.int x3)] [] h1 (.inl (some (.int v1)), h2)) (t : v1 = v0 → tr_L g (d + 1) m_X2_resetRanking 50 [some (.ref 1001), some (.int x1), some (.int x2), some (.int x3), some (.int v0)] [] h2 r) (f : v1 ≠ v0 → tr_L g (d + 1) m_X2_resetRanking 34 [some (.ref 1001), some (.int x1), some (.int x2), some (.int x3), some (.int v0)] [] h2 r) : tr_L g (d + 1) m_X2_resetRanking 9 [some (.ref 1001), some (.int x1), some (.int x2), some (.int x3), w4] [] h r := by
  refine tr_s (.aload_n 0) 1 10 [some (.ref 1001), some (.int x1), some (.int x2), some (.int x3), w4] [.ref 1001] h rfl rfl rfl ?_
  refine tl_gr hL 22 1 1 3 5 [1002, 1003, 1004, 1005, 1006, 1007, 0, 0, 0, 0, 0, 0, 0, 0] rfl rfl rfl rfl ?_
  refine tr_ic 4 4 (by decide) rfl ?_
  refine tr_s (.iload_n 1) 1 15 [some (.ref 1001), some (.int x1), some (.int x2), some (.int x3), w4] [.int x1, .int 4, .ref 1005] h rfl rfl rfl ?_
  refine tr_s .imul 1 16 [some (.ref 1001), some (.int x1), some (.int x2), some (.int x3), w4] [.int (4 * x1), .ref 1005] h rfl rfl rfl ?_
  refine tr_s (.iload_n 3) 1 17 [some (.ref 1001), some (.int x1), some (.int x2), some (.int x3), w4] [.int x3, .int (4 * x1), .ref 1005] h rfl rfl rfl ?_
  refine tr_s .iadd 1 18 [some (.ref 1001), some (.int x1), some (.int x2), some (.int x3), w4] [.int ((4 * x1) + x3), .ref 1005] h rfl rfl rfl ?_
  refine tr_call (.invokestatic 65) 65 3 2 0 m_X8_at [.ref 1005, .int ((4 * x1) + x3)] [] (some (.int v0)) h1 rfl rfl rfl rfl rfl rfl rfl rfl rfl (tr_cok rfl (Or.inl rfl)) c_0 ?_
  have hL0 := c_0.2
  refine tr_st (.istore 4) 2 4 0 (.int v0) rfl rfl rfl rfl rfl rfl rfl ?_
  refine tr_s (.aload_n 0) 1 24 [some (.ref 1001), some (.int x1), some (.int x2), some (.int x3), some (.int v0)] [.ref 1001] h1 rfl rfl rfl ?_
  refine tr_s (.iload_n 1) 1 25 [some (.ref 1001), some (.int x1), some (.int x2), some (.int x3), some (.int v0)] [.int x1, .ref 1001] h1 rfl rfl rfl ?_
  refine tr_s (.iload_n 3) 1 26 [some (.ref 1001), some (.int x1), some (.int x2), some (.int x3), some (.int v0)] [.int x3, .int x1, .ref 1001] h1 rfl rfl rfl ?_
  refine tr_call (.invokevirtual 98) 98 0 2 1 m_X2_optionIn [.ref 1001, .int x1, .int x3] [] (some (.int v1)) h2 rfl rfl rfl rfl rfl rfl rfl rfl rfl (tr_cok rfl (Or.inr ⟨_, _, rfl, tr_rc (hh_rd (hh_obj hL0 (k := 1) rfl).1) (by decide)⟩)) c_1 ?_
  have hL1 := c_1.2
  refine tr_s (.iload 4) 2 31 [some (.ref 1001), some (.int x1), some (.int x2), some (.int x3), some (.int v0)] [.int v0, .int v1] h2 rfl rfl rfl ?_
  exact tr_if2 .eq 19 50 v1 v0 rfl rfl rfl (fun hc => t ((tr_eq hc).1 rfl)) (fun hc => f ((tr_eq hc).2 rfl))
theorem sg_X2_resetRanking_34 {g : tr_g} {d : Nat} {h : ev_AH} {r : ev_O × ev_AH} {x1 x3 x4 : Int32} {w2 : Option Value} {h1 : ev_AH} (hL : hh_L h) (c_0 : tr_L g d m_X8_put 0 [some (.ref 1004), some (.int ((4 * x1) + x3)), some (.int x4)] [] h (.inl none, h1)) (k : tr_L g (d + 1) m_X2_resetRanking 4 [some (.ref 1001), some (.int x1), some (.int 1), some (.int (x3 + 1)), some (.int x4)] [] h1 r) : tr_L g (d + 1) m_X2_resetRanking 34 [some (.ref 1001), some (.int x1), w2, some (.int x3), some (.int x4)] [] h r := by
  refine tr_s (.aload_n 0) 1 35 [some (.ref 1001), some (.int x1), w2, some (.int x3), some (.int x4)] [.ref 1001] h rfl rfl rfl ?_
  refine tl_gr hL 19 1 1 2 4 [1002, 1003, 1004, 1005, 1006, 1007, 0, 0, 0, 0, 0, 0, 0, 0] rfl rfl rfl rfl ?_
  refine tr_ic 4 4 (by decide) rfl ?_
  refine tr_s (.iload_n 1) 1 40 [some (.ref 1001), some (.int x1), w2, some (.int x3), some (.int x4)] [.int x1, .int 4, .ref 1004] h rfl rfl rfl ?_
  refine tr_s .imul 1 41 [some (.ref 1001), some (.int x1), w2, some (.int x3), some (.int x4)] [.int (4 * x1), .ref 1004] h rfl rfl rfl ?_
  refine tr_s (.iload_n 3) 1 42 [some (.ref 1001), some (.int x1), w2, some (.int x3), some (.int x4)] [.int x3, .int (4 * x1), .ref 1004] h rfl rfl rfl ?_
  refine tr_s .iadd 1 43 [some (.ref 1001), some (.int x1), w2, some (.int x3), some (.int x4)] [.int ((4 * x1) + x3), .ref 1004] h rfl rfl rfl ?_
  refine tr_s (.iload 4) 2 45 [some (.ref 1001), some (.int x1), w2, some (.int x3), some (.int x4)] [.int x4, .int ((4 * x1) + x3), .ref 1004] h rfl rfl rfl ?_
  refine tr_call (.invokestatic 84) 84 3 3 0 m_X8_put [.ref 1004, .int ((4 * x1) + x3), .int x4] [] none h1 rfl rfl rfl rfl rfl rfl rfl rfl rfl (tr_cok rfl (Or.inl rfl)) c_0 ?_
  have hL0 := c_0.2
  refine tr_ic 1 1 (by decide) rfl ?_
  refine tr_st (.istore_n 2) 1 2 0 (.int 1) rfl rfl rfl rfl rfl rfl rfl ?_
  refine tr_inc 3 1 x3 1 (by decide) rfl rfl rfl ?_
  refine tr_goto (-49) 4 rfl rfl rfl ?_
  exact k
theorem sg_X2_resetRanking_50 {g : tr_g} {d : Nat} {h : ev_AH} {r : ev_O × ev_AH} {x1 x2 x3 : Int32} {w4 : Option Value} (hL : hh_L h) (k : tr_L g d m_X2_resetRanking 4 [some (.ref 1001), some (.int x1), some (.int x2), some (.int (x3 + 1)), w4] [] h r) : tr_L g d m_X2_resetRanking 50 [some (.ref 1001), some (.int x1), some (.int x2), some (.int x3), w4] [] h r := by
  refine tr_inc 3 1 x3 1 (by decide) rfl rfl rfl ?_
  refine tr_goto (-49) 4 rfl rfl rfl ?_
  exact k
theorem sg_X2_resetRanking_56 {g : tr_g} {d : Nat} {h : ev_AH} {r : ev_O × ev_AH} {w0 w1 w3 w4 : Option Value} {x2 : Int32} (hL : hh_L h) (hb0 : x2 = 0 ∨ x2 = 1) (hr : r = (.inl (some (.int x2)), h)) : tr_L g d m_X2_resetRanking 56 [w0, w1, some (.int x2), w3, w4] [] h r := by
  refine tr_s (.iload_n 2) 1 57 [w0, w1, some (.int x2), w3, w4] [.int x2] h rfl rfl rfl ?_
  exact tl_ret hL .ireturn 1 (some (.int x2)) rfl rfl rfl (tr_eb rfl hb0) hr
theorem sg_X2_catsAhead_0 {g : tr_g} {d : Nat} {h : ev_AH} {r : ev_O × ev_AH} {x1 : Int32} (hL : hh_L h) (k : tr_L g d m_X2_catsAhead 4 [some (.ref 1001), some (.int x1), some (.int 0), some (.int 0), none] [] h r) : tr_L g d m_X2_catsAhead 0 [some (.ref 1001), some (.int x1), none, none, none] [] h r := by
  refine tr_ic 0 0 (by decide) rfl ?_
  refine tr_st (.istore_n 2) 1 2 0 (.int 0) rfl rfl rfl rfl rfl rfl rfl ?_
  refine tr_ic 0 0 (by decide) rfl ?_
  refine tr_st (.istore_n 3) 1 3 0 (.int 0) rfl rfl rfl rfl rfl rfl rfl ?_
  exact k
theorem sg_X2_catsAhead_4 {g : tr_g} {d : Nat} {h : ev_AH} {r : ev_O × ev_AH} {x1 x2 x3 : Int32} {w4 : Option Value} (hL : hh_L h) (t : (hh_i h 1 6) ≤ x3 → tr_L g d m_X2_catsAhead 69 [some (.ref 1001), some (.int x1), some (.int x2), some (.int x3), w4] [] h r) (f : x3 < (hh_i h 1 6) → tr_L g d m_X2_catsAhead 12 [some (.ref 1001), some (.int x1), some (.int x2), some (.int x3), w4] [] h r) : tr_L g d m_X2_catsAhead 4 [some (.ref 1001), some (.int x1), some (.int x2), some (.int x3), w4] [] h r := by
  refine tr_s (.iload_n 3) 1 5 [some (.ref 1001), some (.int x1), some (.int x2), some (.int x3), w4] [.int x3] h rfl rfl rfl ?_
  refine tr_s (.aload_n 0) 1 6 [some (.ref 1001), some (.int x1), some (.int x2), some (.int x3), w4] [.ref 1001, .int x3] h rfl rfl rfl ?_
  refine tl_gi hL 31 1 1 6 [1002, 1003, 1004, 1005, 1006, 1007, 0, 0, 0, 0, 0, 0, 0, 0] rfl rfl rfl rfl ?_
  exact tr_if2 .ge 60 69 x3 (hh_i h 1 6) rfl rfl rfl (fun hc => t ((tr_ge hc).1 rfl)) (fun hc => f ((tr_ge hc).2 rfl))
theorem sg_X2_catsAhead_12 {g : tr_g} {d : Nat} {h : ev_AH} {r : ev_O × ev_AH} {x1 x2 x3 v0 v1 : Int32} {w4 : Option Value} {h1 h2 : ev_AH} (hL : hh_L h) (c_0 : tr_L g d m_X8_at 0 [some (.ref 1006), some (.int x3)] [] h (.inl (some (.int v0)), h1)) (c_1 : tr_L g d m_X8_at 0 [some (.ref 1006), some (.int x1)] [] h1 (.inl (some (.int v1)), h2)) (t : 0 < (v0 - v1) → tr_L g (d + 1) m_X2_catsAhead 60 [some (.ref 1001), some (.int x1), some (.int x2), some (.int x3), some (.int (v0 - v1))] [] h2 r) (f : (v0 - v1) ≤ 0 → tr_L g (d + 1) m_X2_catsAhead 36 [some (.ref 1001), some (.int x1), some (.int x2), some (.int x3), some (.int (v0 - v1))] [] h2 r) : tr_L g (d + 1) m_X2_catsAhead 12 [some (.ref 1001), some (.int x1), some (.int x2), some (.int x3), w4] [] h r := by
  refine tr_s (.aload_n 0) 1 13 [some (.ref 1001), some (.int x1), some (.int x2), some (.int x3), w4] [.ref 1001] h rfl rfl rfl ?_
  refine tl_gr hL 25 1 1 4 6 [1002, 1003, 1004, 1005, 1006, 1007, 0, 0, 0, 0, 0, 0, 0, 0] rfl rfl rfl rfl ?_
  refine tr_s (.iload_n 3) 1 17 [some (.ref 1001), some (.int x1), some (.int x2), some (.int x3), w4] [.int x3, .ref 1006] h rfl rfl rfl ?_
  refine tr_call (.invokestatic 65) 65 3 2 0 m_X8_at [.ref 1006, .int x3] [] (some (.int v0)) h1 rfl rfl rfl rfl rfl rfl rfl rfl rfl (tr_cok rfl (Or.inl rfl)) c_0 ?_
  have hL0 := c_0.2
  refine tr_s (.aload_n 0) 1 21 [some (.ref 1001), some (.int x1), some (.int x2), some (.int x3), w4] [.ref 1001, .int v0] h1 rfl rfl rfl ?_
  refine tl_gr hL0 25 1 1 4 6 [1002, 1003, 1004, 1005, 1006, 1007, 0, 0, 0, 0, 0, 0, 0, 0] rfl rfl rfl rfl ?_
  refine tr_s (.iload_n 1) 1 25 [some (.ref 1001), some (.int x1), some (.int x2), some (.int x3), w4] [.int x1, .ref 1006, .int v0] h1 rfl rfl rfl ?_
  refine tr_call (.invokestatic 65) 65 3 2 0 m_X8_at [.ref 1006, .int x1] [.int v0] (some (.int v1)) h2 rfl rfl rfl rfl rfl rfl rfl rfl rfl (tr_cok rfl (Or.inl rfl)) c_1 ?_
  have hL1 := c_1.2
  refine tr_s .isub 1 29 [some (.ref 1001), some (.int x1), some (.int x2), some (.int x3), w4] [.int (v0 - v1)] h2 rfl rfl rfl ?_
  refine tr_st (.istore 4) 2 4 0 (.int (v0 - v1)) rfl rfl rfl rfl rfl rfl rfl ?_
  refine tr_s (.iload 4) 2 33 [some (.ref 1001), some (.int x1), some (.int x2), some (.int x3), some (.int (v0 - v1))] [.int (v0 - v1)] h2 rfl rfl rfl ?_
  exact tr_if1 .gt 27 60 (v0 - v1) rfl rfl rfl (fun hc => t ((tr_gt hc).1 rfl)) (fun hc => f ((tr_gt hc).2 rfl))
theorem sg_X2_catsAhead_36 {g : tr_g} {d : Nat} {h : ev_AH} {r : ev_O × ev_AH} {x1 x2 x3 x4 : Int32} (hL : hh_L h) (t : x4 ≠ 0 → tr_L g d m_X2_catsAhead 63 [some (.ref 1001), some (.int x1), some (.int x2), some (.int x3), some (.int x4)] [] h r) (f : x4 = 0 → tr_L g d m_X2_catsAhead 41 [some (.ref 1001), some (.int x1), some (.int x2), some (.int x3), some (.int x4)] [] h r) : tr_L g d m_X2_catsAhead 36 [some (.ref 1001), some (.int x1), some (.int x2), some (.int x3), some (.int x4)] [] h r := by
  refine tr_s (.iload 4) 2 38 [some (.ref 1001), some (.int x1), some (.int x2), some (.int x3), some (.int x4)] [.int x4] h rfl rfl rfl ?_
  exact tr_if1 .ne 25 63 x4 rfl rfl rfl (fun hc => t ((tr_ne hc).1 rfl)) (fun hc => f ((tr_ne hc).2 rfl))
theorem sg_X2_catsAhead_41 {g : tr_g} {d : Nat} {h : ev_AH} {r : ev_O × ev_AH} {x1 x2 x3 v0 v1 : Int32} {w4 : Option Value} {h1 h2 : ev_AH} (hL : hh_L h) (c_0 : tr_L g d m_X8_at 0 [some (.ref 1003), some (.int x3)] [] h (.inl (some (.int v0)), h1)) (c_1 : tr_L g d m_X8_at 0 [some (.ref 1003), some (.int x1)] [] h1 (.inl (some (.int v1)), h2)) (t : v1 ≤ v0 → tr_L g (d + 1) m_X2_catsAhead 63 [some (.ref 1001), some (.int x1), some (.int x2), some (.int x3), w4] [] h2 r) (f : v0 < v1 → tr_L g (d + 1) m_X2_catsAhead 60 [some (.ref 1001), some (.int x1), some (.int x2), some (.int x3), w4] [] h2 r) : tr_L g (d + 1) m_X2_catsAhead 41 [some (.ref 1001), some (.int x1), some (.int x2), some (.int x3), w4] [] h r := by
  refine tr_s (.aload_n 0) 1 42 [some (.ref 1001), some (.int x1), some (.int x2), some (.int x3), w4] [.ref 1001] h rfl rfl rfl ?_
  refine tl_gr hL 15 1 1 1 3 [1002, 1003, 1004, 1005, 1006, 1007, 0, 0, 0, 0, 0, 0, 0, 0] rfl rfl rfl rfl ?_
  refine tr_s (.iload_n 3) 1 46 [some (.ref 1001), some (.int x1), some (.int x2), some (.int x3), w4] [.int x3, .ref 1003] h rfl rfl rfl ?_
  refine tr_call (.invokestatic 65) 65 3 2 0 m_X8_at [.ref 1003, .int x3] [] (some (.int v0)) h1 rfl rfl rfl rfl rfl rfl rfl rfl rfl (tr_cok rfl (Or.inl rfl)) c_0 ?_
  have hL0 := c_0.2
  refine tr_s (.aload_n 0) 1 50 [some (.ref 1001), some (.int x1), some (.int x2), some (.int x3), w4] [.ref 1001, .int v0] h1 rfl rfl rfl ?_
  refine tl_gr hL0 15 1 1 1 3 [1002, 1003, 1004, 1005, 1006, 1007, 0, 0, 0, 0, 0, 0, 0, 0] rfl rfl rfl rfl ?_
  refine tr_s (.iload_n 1) 1 54 [some (.ref 1001), some (.int x1), some (.int x2), some (.int x3), w4] [.int x1, .ref 1003, .int v0] h1 rfl rfl rfl ?_
  refine tr_call (.invokestatic 65) 65 3 2 0 m_X8_at [.ref 1003, .int x1] [.int v0] (some (.int v1)) h2 rfl rfl rfl rfl rfl rfl rfl rfl rfl (tr_cok rfl (Or.inl rfl)) c_1 ?_
  have hL1 := c_1.2
  exact tr_if2 .ge 6 63 v0 v1 rfl rfl rfl (fun hc => t ((tr_ge hc).1 rfl)) (fun hc => f ((tr_ge hc).2 rfl))
theorem sg_X2_catsAhead_60 {g : tr_g} {d : Nat} {h : ev_AH} {r : ev_O × ev_AH} {x1 x2 x3 : Int32} {w4 : Option Value} (hL : hh_L h) (k : tr_L g d m_X2_catsAhead 4 [some (.ref 1001), some (.int x1), some (.int (x2 + 1)), some (.int (x3 + 1)), w4] [] h r) : tr_L g d m_X2_catsAhead 60 [some (.ref 1001), some (.int x1), some (.int x2), some (.int x3), w4] [] h r := by
  refine tr_inc 2 1 x2 1 (by decide) rfl rfl rfl ?_
  refine tr_inc 3 1 x3 1 (by decide) rfl rfl rfl ?_
  refine tr_goto (-62) 4 rfl rfl rfl ?_
  exact k
theorem sg_X2_catsAhead_63 {g : tr_g} {d : Nat} {h : ev_AH} {r : ev_O × ev_AH} {x1 x2 x3 : Int32} {w4 : Option Value} (hL : hh_L h) (k : tr_L g d m_X2_catsAhead 4 [some (.ref 1001), some (.int x1), some (.int x2), some (.int (x3 + 1)), w4] [] h r) : tr_L g d m_X2_catsAhead 63 [some (.ref 1001), some (.int x1), some (.int x2), some (.int x3), w4] [] h r := by
  refine tr_inc 3 1 x3 1 (by decide) rfl rfl rfl ?_
  refine tr_goto (-62) 4 rfl rfl rfl ?_
  exact k
theorem sg_X2_catsAhead_69 {g : tr_g} {d : Nat} {h : ev_AH} {r : ev_O × ev_AH} {w0 w1 w3 w4 : Option Value} {x2 : Int32} (hL : hh_L h) (hr : r = (.inl (some (.int x2)), h)) : tr_L g d m_X2_catsAhead 69 [w0, w1, some (.int x2), w3, w4] [] h r := by
  refine tr_s (.iload_n 2) 1 70 [w0, w1, some (.int x2), w3, w4] [.int x2] h rfl rfl rfl ?_
  exact tl_ret hL .ireturn 1 (some (.int x2)) rfl rfl rfl rfl hr
theorem sg_X2_conclude_0 {g : tr_g} {d : Nat} {h : ev_AH} {r : ev_O × ev_AH} {x1 : Int32} (hL : hh_L h) (k : tr_L g d m_X2_conclude 3 [some (.ref 1001), some (.int x1), some (.int 9)] [] h r) : tr_L g d m_X2_conclude 0 [some (.ref 1001), some (.int x1), none] [] h r := by
  refine tr_bi 9 9 (by decide) rfl ?_
  refine tr_st (.istore_n 2) 1 2 0 (.int 9) rfl rfl rfl rfl rfl rfl rfl ?_
  exact k
theorem sg_X2_conclude_3 {g : tr_g} {d : Nat} {h : ev_AH} {r : ev_O × ev_AH} {x1 x2 : Int32} (hL : hh_L h) (t : x2 ≤ 0 → tr_L g d m_X2_conclude 31 [some (.ref 1001), some (.int x1), some (.int x2)] [] h r) (f : 0 < x2 → tr_L g d m_X2_conclude 7 [some (.ref 1001), some (.int x1), some (.int x2)] [] h r) : tr_L g d m_X2_conclude 3 [some (.ref 1001), some (.int x1), some (.int x2)] [] h r := by
  refine tr_s (.iload_n 2) 1 4 [some (.ref 1001), some (.int x1), some (.int x2)] [.int x2] h rfl rfl rfl ?_
  exact tr_if1 .le 27 31 x2 rfl rfl rfl (fun hc => t ((tr_le hc).1 rfl)) (fun hc => f ((tr_le hc).2 rfl))
theorem sg_X2_conclude_7 {g : tr_g} {d : Nat} {h : ev_AH} {r : ev_O × ev_AH} {x1 x2 v0 : Int32} {h1 h2 : ev_AH} (hL : hh_L h) (c_0 : tr_L g d m_X8_at_ 0 [some (.ref 1007), some (.int (x2 - 1))] [] h (.inl (some (.int v0)), h1)) (c_1 : tr_L g d m_X8_put_ 0 [some (.ref 1007), some (.int x2), some (.int v0)] [] h1 (.inl none, h2)) (k : tr_L g (d + 1) m_X2_conclude 3 [some (.ref 1001), some (.int x1), some (.int (x2 + (-1)))] [] h2 r) : tr_L g (d + 1) m_X2_conclude 7 [some (.ref 1001), some (.int x1), some (.int x2)] [] h r := by
  refine tr_s (.aload_n 0) 1 8 [some (.ref 1001), some (.int x1), some (.int x2)] [.ref 1001] h rfl rfl rfl ?_
  refine tl_gr hL 28 1 1 5 7 [1002, 1003, 1004, 1005, 1006, 1007, 0, 0, 0, 0, 0, 0, 0, 0] rfl rfl rfl rfl ?_
  refine tr_s (.iload_n 2) 1 12 [some (.ref 1001), some (.int x1), some (.int x2)] [.int x2, .ref 1007] h rfl rfl rfl ?_
  refine tr_s (.aload_n 0) 1 13 [some (.ref 1001), some (.int x1), some (.int x2)] [.ref 1001, .int x2, .ref 1007] h rfl rfl rfl ?_
  refine tl_gr hL 28 1 1 5 7 [1002, 1003, 1004, 1005, 1006, 1007, 0, 0, 0, 0, 0, 0, 0, 0] rfl rfl rfl rfl ?_
  refine tr_s (.iload_n 2) 1 17 [some (.ref 1001), some (.int x1), some (.int x2)] [.int x2, .ref 1007, .int x2, .ref 1007] h rfl rfl rfl ?_
  refine tr_ic 1 1 (by decide) rfl ?_
  refine tr_s .isub 1 19 [some (.ref 1001), some (.int x1), some (.int x2)] [.int (x2 - 1), .ref 1007, .int x2, .ref 1007] h rfl rfl rfl ?_
  refine tr_call (.invokestatic 91) 91 3 2 0 m_X8_at_ [.ref 1007, .int (x2 - 1)] [.int x2, .ref 1007] (some (.int v0)) h1 rfl rfl rfl rfl rfl rfl rfl rfl rfl (tr_cok rfl (Or.inl rfl)) c_0 ?_
  have hL0 := c_0.2
  refine tr_call (.invokestatic 80) 80 3 3 0 m_X8_put_ [.ref 1007, .int x2, .int v0] [] none h2 rfl rfl rfl rfl rfl rfl rfl rfl rfl (tr_cok rfl (Or.inl rfl)) c_1 ?_
  have hL1 := c_1.2
  refine tr_inc 2 (-1) x2 (-1) (by decide) rfl rfl rfl ?_
  refine tr_goto (-25) 3 rfl rfl rfl ?_
  exact k
theorem sg_X2_conclude_31 {g : tr_g} {d : Nat} {h : ev_AH} {r : ev_O × ev_AH} {x1 : Int32} {w2 : Option Value} {h1 : ev_AH} (hL : hh_L h) (c_0 : tr_L g d m_X8_put_ 0 [some (.ref 1007), some (.int 0), some (.int x1)] [] h (.inl none, h1)) (t : x1 ≠ 45 → tr_L g (d + 1) m_X2_conclude 66 [some (.ref 1001), some (.int x1), w2] [] (hh_si h1 1 1 8 ((hh_i h1 1 8) + 1)) r) (f : x1 = 45 → tr_L g (d + 1) m_X2_conclude 56 [some (.ref 1001), some (.int x1), w2] [] (hh_si h1 1 1 8 ((hh_i h1 1 8) + 1)) r) : tr_L g (d + 1) m_X2_conclude 31 [some (.ref 1001), some (.int x1), w2] [] h r := by
  refine tr_s (.aload_n 0) 1 32 [some (.ref 1001), some (.int x1), w2] [.ref 1001] h rfl rfl rfl ?_
  refine tl_gr hL 28 1 1 5 7 [1002, 1003, 1004, 1005, 1006, 1007, 0, 0, 0, 0, 0, 0, 0, 0] rfl rfl rfl rfl ?_
  refine tr_ic 0 0 (by decide) rfl ?_
  refine tr_s (.iload_n 1) 1 37 [some (.ref 1001), some (.int x1), w2] [.int x1, .int 0, .ref 1007] h rfl rfl rfl ?_
  refine tr_call (.invokestatic 80) 80 3 3 0 m_X8_put_ [.ref 1007, .int 0, .int x1] [] none h1 rfl rfl rfl rfl rfl rfl rfl rfl rfl (tr_cok rfl (Or.inl rfl)) c_0 ?_
  have hL0 := c_0.2
  refine tr_s (.aload_n 0) 1 41 [some (.ref 1001), some (.int x1), w2] [.ref 1001] h1 rfl rfl rfl ?_
  refine tr_s .dup 1 42 [some (.ref 1001), some (.int x1), w2] [.ref 1001, .ref 1001] h1 rfl rfl rfl ?_
  refine tl_gi hL0 39 1 1 8 [1002, 1003, 1004, 1005, 1006, 1007, 0, 0, 0, 0, 0, 0, 0, 0] rfl rfl rfl rfl ?_
  refine tr_ic 1 1 (by decide) rfl ?_
  refine tr_s .iadd 1 47 [some (.ref 1001), some (.int x1), w2] [.int ((hh_i h1 1 8) + 1), .ref 1001] h1 rfl rfl rfl ?_
  refine tl_pf hL0 39 1 1 8 [1002, 1003, 1004, 1005, 1006, 1007, 0, 0, 0, 0, 0, 0, 0, 0] ((hh_i h1 1 8) + 1) .int rfl rfl rfl rfl rfl tr_oki ?_
  have hL1 := hh_L_si (sl := 8) (x := ((hh_i h1 1 8) + 1)) hL0 (show hh_t[1]? = some (.inr (1, [1002, 1003, 1004, 1005, 1006, 1007, 0, 0, 0, 0, 0, 0, 0, 0])) from rfl) rfl
  refine tr_s (.iload_n 1) 1 51 [some (.ref 1001), some (.int x1), w2] [.int x1] (hh_si h1 1 1 8 ((hh_i h1 1 8) + 1)) rfl rfl rfl ?_
  refine tr_bi 45 45 (by decide) rfl ?_
  exact tr_if2 .ne 13 66 x1 45 rfl rfl rfl (fun hc => t ((tr_ne hc).1 rfl)) (fun hc => f ((tr_ne hc).2 rfl))
theorem sg_X2_conclude_56 {g : tr_g} {d : Nat} {h : ev_AH} {r : ev_O × ev_AH} {w1 w2 : Option Value} (hL : hh_L h) (k : tr_L g d m_X2_conclude 66 [some (.ref 1001), w1, w2] [] (hh_si h 1 1 9 ((hh_i h 1 9) + 1)) r) : tr_L g d m_X2_conclude 56 [some (.ref 1001), w1, w2] [] h r := by
  refine tr_s (.aload_n 0) 1 57 [some (.ref 1001), w1, w2] [.ref 1001] h rfl rfl rfl ?_
  refine tr_s .dup 1 58 [some (.ref 1001), w1, w2] [.ref 1001, .ref 1001] h rfl rfl rfl ?_
  refine tl_gi hL 42 1 1 9 [1002, 1003, 1004, 1005, 1006, 1007, 0, 0, 0, 0, 0, 0, 0, 0] rfl rfl rfl rfl ?_
  refine tr_ic 1 1 (by decide) rfl ?_
  refine tr_s .iadd 1 63 [some (.ref 1001), w1, w2] [.int ((hh_i h 1 9) + 1), .ref 1001] h rfl rfl rfl ?_
  refine tl_pf hL 42 1 1 9 [1002, 1003, 1004, 1005, 1006, 1007, 0, 0, 0, 0, 0, 0, 0, 0] ((hh_i h 1 9) + 1) .int rfl rfl rfl rfl rfl tr_oki ?_
  have hL0 := hh_L_si (sl := 9) (x := ((hh_i h 1 9) + 1)) hL (show hh_t[1]? = some (.inr (1, [1002, 1003, 1004, 1005, 1006, 1007, 0, 0, 0, 0, 0, 0, 0, 0])) from rfl) rfl
  exact k
theorem sg_X2_conclude_66 {g : tr_g} {d : Nat} {h : ev_AH} {r : ev_O × ev_AH} {w1 w2 : Option Value} (hL : hh_L h) (hr : r = (.inl (none), hh_si (hh_si h 1 1 12 1) 1 1 13 0)) : tr_L g d m_X2_conclude 66 [some (.ref 1001), w1, w2] [] h r := by
  refine tr_s (.aload_n 0) 1 67 [some (.ref 1001), w1, w2] [.ref 1001] h rfl rfl rfl ?_
  refine tr_ic 1 1 (by decide) rfl ?_
  refine tl_pf hL 51 1 1 12 [1002, 1003, 1004, 1005, 1006, 1007, 0, 0, 0, 0, 0, 0, 0, 0] 1 .boolean rfl rfl rfl rfl rfl (by decide) ?_
  have hL0 := hh_L_si (sl := 12) (x := 1) hL (show hh_t[1]? = some (.inr (1, [1002, 1003, 1004, 1005, 1006, 1007, 0, 0, 0, 0, 0, 0, 0, 0])) from rfl) rfl
  refine tr_s (.aload_n 0) 1 72 [some (.ref 1001), w1, w2] [.ref 1001] (hh_si h 1 1 12 1) rfl rfl rfl ?_
  refine tr_ic 0 0 (by decide) rfl ?_
  refine tl_pf hL0 55 1 1 13 [1002, 1003, 1004, 1005, 1006, 1007, 0, 0, 0, 0, 0, 0, 0, 0] 0 .boolean rfl rfl rfl rfl rfl (by decide) ?_
  have hL1 := hh_L_si (sl := 13) (x := 0) hL0 (show hh_t[1]? = some (.inr (1, [1002, 1003, 1004, 1005, 1006, 1007, 0, 0, 0, 0, 0, 0, 0, 0])) from rfl) rfl
  exact tl_ret hL1 .return_ 1 none rfl rfl rfl rfl hr
theorem sg_X2_reasonAgainstCat_0 {g : tr_g} {d : Nat} {h : ev_AH} {r : ev_O × ev_AH} {x1 : Int32} (hL : hh_L h) (t : (hh_i h 1 6) < 7 → tr_L g d m_X2_reasonAgainstCat 13 [some (.ref 1001), some (.int x1)] [] h r) (f : 7 ≤ (hh_i h 1 6) → tr_L g d m_X2_reasonAgainstCat 9 [some (.ref 1001), some (.int x1)] [] h r) : tr_L g d m_X2_reasonAgainstCat 0 [some (.ref 1001), some (.int x1)] [] h r := by
  refine tr_s (.aload_n 0) 1 1 [some (.ref 1001), some (.int x1)] [.ref 1001] h rfl rfl rfl ?_
  refine tl_gi hL 31 1 1 6 [1002, 1003, 1004, 1005, 1006, 1007, 0, 0, 0, 0, 0, 0, 0, 0] rfl rfl rfl rfl ?_
  refine tr_bi 7 7 (by decide) rfl ?_
  exact tr_if2 .lt 7 13 (hh_i h 1 6) 7 rfl rfl rfl (fun hc => t ((tr_lt hc).1 rfl)) (fun hc => f ((tr_lt hc).2 rfl))
theorem sg_X2_reasonAgainstCat_9 {g : tr_g} {d : Nat} {h : ev_AH} {r : ev_O × ev_AH} {w0 w1 : Option Value} (hL : hh_L h) (hr : r = (.inl (some (.int 1)), h)) : tr_L g d m_X2_reasonAgainstCat 9 [w0, w1] [] h r := by
  refine tr_ic 1 1 (by decide) rfl ?_
  refine tr_goto 8 18 rfl rfl rfl ?_
  exact tl_ret hL .ireturn 1 (some (.int 1)) rfl rfl rfl rfl hr
theorem sg_X2_reasonAgainstCat_13 {g : tr_g} {d : Nat} {h : ev_AH} {r : ev_O × ev_AH} {x1 v0 : Int32} {h1 : ev_AH} (hL : hh_L h) (c_0 : tr_L g d m_X2_reasonAgainstMirror 0 [some (.ref 1001), some (.int x1)] [] h (.inl (some (.int v0)), h1)) (hr : r = (.inl (some (.int v0)), h1)) : tr_L g (d + 1) m_X2_reasonAgainstCat 13 [some (.ref 1001), some (.int x1)] [] h r := by
  refine tr_s (.aload_n 0) 1 14 [some (.ref 1001), some (.int x1)] [.ref 1001] h rfl rfl rfl ?_
  refine tr_s (.iload_n 1) 1 15 [some (.ref 1001), some (.int x1)] [.int x1, .ref 1001] h rfl rfl rfl ?_
  refine tr_call (.invokevirtual 69) 69 0 1 1 m_X2_reasonAgainstMirror [.ref 1001, .int x1] [] (some (.int v0)) h1 rfl rfl rfl rfl rfl rfl rfl rfl rfl (tr_cok rfl (Or.inr ⟨_, _, rfl, tr_rc (hh_rd (hh_obj hL (k := 1) rfl).1) (by decide)⟩)) c_0 ?_
  have hL0 := c_0.2
  exact tl_ret hL0 .ireturn 1 (some (.int v0)) rfl rfl rfl rfl hr
theorem sg_X2_seatCat_0 {g : tr_g} {d : Nat} {h : ev_AH} {r : ev_O × ev_AH} {x1 x2 x3 x4 v0 v1 v2 : Int32} {h1 h2 h3 h4 h5 h6 h7 h8 h9 h10 : ev_AH} (hL : hh_L h) (c_0 : tr_L g d m_X8_indexOf 0 [some (.int x2)] [] h (.inl (some (.int v0)), h1)) (c_1 : tr_L g d m_X8_indexOf 0 [some (.int x3)] [] h1 (.inl (some (.int v1)), h2)) (c_2 : tr_L g d m_X8_indexOf 0 [some (.int x4)] [] h2 (.inl (some (.int v2)), h3)) (c_3 : tr_L g d m_X8_put_ 0 [some (.ref 1002), some (.int x1), some (.int 99)] [] h3 (.inl none, h4)) (c_4 : tr_L g d m_X8_put 0 [some (.ref 1003), some (.int (hh_i h 1 6)), some (.int x1)] [] h4 (.inl none, h5)) (c_5 : tr_L g d m_X8_put 0 [some (.ref 1006), some (.int (hh_i h 1 6)), some (.int 0)] [] h5 (.inl none, h6)) (c_6 : tr_L g d m_X2_rank 0 [some (.ref 1001), some (.int (hh_i h 1 6)), some (.int 0), some (.int v0)] [] h6 (.inl none, h7)) (c_7 : tr_L g d m_X2_rank 0 [some (.ref 1001), some (.int (hh_i h 1 6)), some (.int 1), some (.int v1)] [] h7 (.inl none, h8)) (c_8 : tr_L g d m_X2_rank 0 [some (.ref 1001), some (.int (hh_i h 1 6)), some (.int 2), some (.int v2)] [] h8 (.inl none, h9)) (c_9 : tr_L g d m_X2_rank 0 [some (.ref 1001), some (.int (hh_i h 1 6)), some (.int 3), some (.int (((6 - v0) - v1) - v2))] [] h9 (.inl none, h10)) (hr : r = (.inl (none), hh_si (hh_si h10 1 1 6 ((hh_i h 1 6) + 1)) 1 1 13 1)) : tr_L g (d + 1) m_X2_seatCat 0 [some (.ref 1001), some (.int x1), some (.int x2), some (.int x3), some (.int x4), none, none, none, none] [] h r := by
  refine tr_s (.aload_n 0) 1 1 [some (.ref 1001), some (.int x1), some (.int x2), some (.int x3), some (.int x4), none, none, none, none] [.ref 1001] h rfl rfl rfl ?_
  refine tl_gi hL 31 1 1 6 [1002, 1003, 1004, 1005, 1006, 1007, 0, 0, 0, 0, 0, 0, 0, 0] rfl rfl rfl rfl ?_
  refine tr_st (.istore 5) 2 5 0 (.int (hh_i h 1 6)) rfl rfl rfl rfl rfl rfl rfl ?_
  refine tr_s (.iload_n 2) 1 7 [some (.ref 1001), some (.int x1), some (.int x2), some (.int x3), some (.int x4), some (.int (hh_i h 1 6)), none, none, none] [.int x2] h rfl rfl rfl ?_
  refine tr_call (.invokestatic 76) 76 3 1 0 m_X8_indexOf [.int x2] [] (some (.int v0)) h1 rfl rfl rfl rfl rfl rfl rfl rfl rfl (tr_cok rfl (Or.inl rfl)) c_0 ?_
  have hL0 := c_0.2
  refine tr_st (.istore 6) 2 6 0 (.int v0) rfl rfl rfl rfl rfl rfl rfl ?_
  refine tr_s (.iload_n 3) 1 13 [some (.ref 1001), some (.int x1), some (.int x2), some (.int x3), some (.int x4), some (.int (hh_i h 1 6)), some (.int v0), none, none] [.int x3] h1 rfl rfl rfl ?_
  refine tr_call (.invokestatic 76) 76 3 1 0 m_X8_indexOf [.int x3] [] (some (.int v1)) h2 rfl rfl rfl rfl rfl rfl rfl rfl rfl (tr_cok rfl (Or.inl rfl)) c_1 ?_
  have hL1 := c_1.2
  refine tr_st (.istore 7) 2 7 0 (.int v1) rfl rfl rfl rfl rfl rfl rfl ?_
  refine tr_s (.iload 4) 2 20 [some (.ref 1001), some (.int x1), some (.int x2), some (.int x3), some (.int x4), some (.int (hh_i h 1 6)), some (.int v0), some (.int v1), none] [.int x4] h2 rfl rfl rfl ?_
  refine tr_call (.invokestatic 76) 76 3 1 0 m_X8_indexOf [.int x4] [] (some (.int v2)) h3 rfl rfl rfl rfl rfl rfl rfl rfl rfl (tr_cok rfl (Or.inl rfl)) c_2 ?_
  have hL2 := c_2.2
  refine tr_st (.istore 8) 2 8 0 (.int v2) rfl rfl rfl rfl rfl rfl rfl ?_
  refine tr_s (.aload_n 0) 1 26 [some (.ref 1001), some (.int x1), some (.int x2), some (.int x3), some (.int x4), some (.int (hh_i h 1 6)), some (.int v0), some (.int v1), some (.int v2)] [.ref 1001] h3 rfl rfl rfl ?_
  refine tl_gr hL2 9 1 1 0 2 [1002, 1003, 1004, 1005, 1006, 1007, 0, 0, 0, 0, 0, 0, 0, 0] rfl rfl rfl rfl ?_
  refine tr_s (.iload_n 1) 1 30 [some (.ref 1001), some (.int x1), some (.int x2), some (.int x3), some (.int x4), some (.int (hh_i h 1 6)), some (.int v0), some (.int v1), some (.int v2)] [.int x1, .ref 1002] h3 rfl rfl rfl ?_
  refine tr_bi 99 99 (by decide) rfl ?_
  refine tr_call (.invokestatic 80) 80 3 3 0 m_X8_put_ [.ref 1002, .int x1, .int 99] [] none h4 rfl rfl rfl rfl rfl rfl rfl rfl rfl (tr_cok rfl (Or.inl rfl)) c_3 ?_
  have hL3 := c_3.2
  refine tr_s (.aload_n 0) 1 36 [some (.ref 1001), some (.int x1), some (.int x2), some (.int x3), some (.int x4), some (.int (hh_i h 1 6)), some (.int v0), some (.int v1), some (.int v2)] [.ref 1001] h4 rfl rfl rfl ?_
  refine tl_gr hL3 15 1 1 1 3 [1002, 1003, 1004, 1005, 1006, 1007, 0, 0, 0, 0, 0, 0, 0, 0] rfl rfl rfl rfl ?_
  refine tr_s (.iload 5) 2 41 [some (.ref 1001), some (.int x1), some (.int x2), some (.int x3), some (.int x4), some (.int (hh_i h 1 6)), some (.int v0), some (.int v1), some (.int v2)] [.int (hh_i h 1 6), .ref 1003] h4 rfl rfl rfl ?_
  refine tr_s (.iload_n 1) 1 42 [some (.ref 1001), some (.int x1), some (.int x2), some (.int x3), some (.int x4), some (.int (hh_i h 1 6)), some (.int v0), some (.int v1), some (.int v2)] [.int x1, .int (hh_i h 1 6), .ref 1003] h4 rfl rfl rfl ?_
  refine tr_call (.invokestatic 84) 84 3 3 0 m_X8_put [.ref 1003, .int (hh_i h 1 6), .int x1] [] none h5 rfl rfl rfl rfl rfl rfl rfl rfl rfl (tr_cok rfl (Or.inl rfl)) c_4 ?_
  have hL4 := c_4.2
  refine tr_s (.aload_n 0) 1 46 [some (.ref 1001), some (.int x1), some (.int x2), some (.int x3), some (.int x4), some (.int (hh_i h 1 6)), some (.int v0), some (.int v1), some (.int v2)] [.ref 1001] h5 rfl rfl rfl ?_
  refine tl_gr hL4 25 1 1 4 6 [1002, 1003, 1004, 1005, 1006, 1007, 0, 0, 0, 0, 0, 0, 0, 0] rfl rfl rfl rfl ?_
  refine tr_s (.iload 5) 2 51 [some (.ref 1001), some (.int x1), some (.int x2), some (.int x3), some (.int x4), some (.int (hh_i h 1 6)), some (.int v0), some (.int v1), some (.int v2)] [.int (hh_i h 1 6), .ref 1006] h5 rfl rfl rfl ?_
  refine tr_ic 0 0 (by decide) rfl ?_
  refine tr_call (.invokestatic 84) 84 3 3 0 m_X8_put [.ref 1006, .int (hh_i h 1 6), .int 0] [] none h6 rfl rfl rfl rfl rfl rfl rfl rfl rfl (tr_cok rfl (Or.inl rfl)) c_5 ?_
  have hL5 := c_5.2
  refine tr_s (.aload_n 0) 1 56 [some (.ref 1001), some (.int x1), some (.int x2), some (.int x3), some (.int x4), some (.int (hh_i h 1 6)), some (.int v0), some (.int v1), some (.int v2)] [.ref 1001] h6 rfl rfl rfl ?_
  refine tr_s (.iload 5) 2 58 [some (.ref 1001), some (.int x1), some (.int x2), some (.int x3), some (.int x4), some (.int (hh_i h 1 6)), some (.int v0), some (.int v1), some (.int v2)] [.int (hh_i h 1 6), .ref 1001] h6 rfl rfl rfl ?_
  refine tr_ic 0 0 (by decide) rfl ?_
  refine tr_s (.iload 6) 2 61 [some (.ref 1001), some (.int x1), some (.int x2), some (.int x3), some (.int x4), some (.int (hh_i h 1 6)), some (.int v0), some (.int v1), some (.int v2)] [.int v0, .int 0, .int (hh_i h 1 6), .ref 1001] h6 rfl rfl rfl ?_
  refine tr_call (.invokevirtual 87) 87 0 3 1 m_X2_rank [.ref 1001, .int (hh_i h 1 6), .int 0, .int v0] [] none h7 rfl rfl rfl rfl rfl rfl rfl rfl rfl (tr_cok rfl (Or.inr ⟨_, _, rfl, tr_rc (hh_rd (hh_obj hL5 (k := 1) rfl).1) (by decide)⟩)) c_6 ?_
  have hL6 := c_6.2
  refine tr_s (.aload_n 0) 1 65 [some (.ref 1001), some (.int x1), some (.int x2), some (.int x3), some (.int x4), some (.int (hh_i h 1 6)), some (.int v0), some (.int v1), some (.int v2)] [.ref 1001] h7 rfl rfl rfl ?_
  refine tr_s (.iload 5) 2 67 [some (.ref 1001), some (.int x1), some (.int x2), some (.int x3), some (.int x4), some (.int (hh_i h 1 6)), some (.int v0), some (.int v1), some (.int v2)] [.int (hh_i h 1 6), .ref 1001] h7 rfl rfl rfl ?_
  refine tr_ic 1 1 (by decide) rfl ?_
  refine tr_s (.iload 7) 2 70 [some (.ref 1001), some (.int x1), some (.int x2), some (.int x3), some (.int x4), some (.int (hh_i h 1 6)), some (.int v0), some (.int v1), some (.int v2)] [.int v1, .int 1, .int (hh_i h 1 6), .ref 1001] h7 rfl rfl rfl ?_
  refine tr_call (.invokevirtual 87) 87 0 3 1 m_X2_rank [.ref 1001, .int (hh_i h 1 6), .int 1, .int v1] [] none h8 rfl rfl rfl rfl rfl rfl rfl rfl rfl (tr_cok rfl (Or.inr ⟨_, _, rfl, tr_rc (hh_rd (hh_obj hL6 (k := 1) rfl).1) (by decide)⟩)) c_7 ?_
  have hL7 := c_7.2
  refine tr_s (.aload_n 0) 1 74 [some (.ref 1001), some (.int x1), some (.int x2), some (.int x3), some (.int x4), some (.int (hh_i h 1 6)), some (.int v0), some (.int v1), some (.int v2)] [.ref 1001] h8 rfl rfl rfl ?_
  refine tr_s (.iload 5) 2 76 [some (.ref 1001), some (.int x1), some (.int x2), some (.int x3), some (.int x4), some (.int (hh_i h 1 6)), some (.int v0), some (.int v1), some (.int v2)] [.int (hh_i h 1 6), .ref 1001] h8 rfl rfl rfl ?_
  refine tr_ic 2 2 (by decide) rfl ?_
  refine tr_s (.iload 8) 2 79 [some (.ref 1001), some (.int x1), some (.int x2), some (.int x3), some (.int x4), some (.int (hh_i h 1 6)), some (.int v0), some (.int v1), some (.int v2)] [.int v2, .int 2, .int (hh_i h 1 6), .ref 1001] h8 rfl rfl rfl ?_
  refine tr_call (.invokevirtual 87) 87 0 3 1 m_X2_rank [.ref 1001, .int (hh_i h 1 6), .int 2, .int v2] [] none h9 rfl rfl rfl rfl rfl rfl rfl rfl rfl (tr_cok rfl (Or.inr ⟨_, _, rfl, tr_rc (hh_rd (hh_obj hL7 (k := 1) rfl).1) (by decide)⟩)) c_8 ?_
  have hL8 := c_8.2
  refine tr_s (.aload_n 0) 1 83 [some (.ref 1001), some (.int x1), some (.int x2), some (.int x3), some (.int x4), some (.int (hh_i h 1 6)), some (.int v0), some (.int v1), some (.int v2)] [.ref 1001] h9 rfl rfl rfl ?_
  refine tr_s (.iload 5) 2 85 [some (.ref 1001), some (.int x1), some (.int x2), some (.int x3), some (.int x4), some (.int (hh_i h 1 6)), some (.int v0), some (.int v1), some (.int v2)] [.int (hh_i h 1 6), .ref 1001] h9 rfl rfl rfl ?_
  refine tr_ic 3 3 (by decide) rfl ?_
  refine tr_bi 6 6 (by decide) rfl ?_
  refine tr_s (.iload 6) 2 90 [some (.ref 1001), some (.int x1), some (.int x2), some (.int x3), some (.int x4), some (.int (hh_i h 1 6)), some (.int v0), some (.int v1), some (.int v2)] [.int v0, .int 6, .int 3, .int (hh_i h 1 6), .ref 1001] h9 rfl rfl rfl ?_
  refine tr_s .isub 1 91 [some (.ref 1001), some (.int x1), some (.int x2), some (.int x3), some (.int x4), some (.int (hh_i h 1 6)), some (.int v0), some (.int v1), some (.int v2)] [.int (6 - v0), .int 3, .int (hh_i h 1 6), .ref 1001] h9 rfl rfl rfl ?_
  refine tr_s (.iload 7) 2 93 [some (.ref 1001), some (.int x1), some (.int x2), some (.int x3), some (.int x4), some (.int (hh_i h 1 6)), some (.int v0), some (.int v1), some (.int v2)] [.int v1, .int (6 - v0), .int 3, .int (hh_i h 1 6), .ref 1001] h9 rfl rfl rfl ?_
  refine tr_s .isub 1 94 [some (.ref 1001), some (.int x1), some (.int x2), some (.int x3), some (.int x4), some (.int (hh_i h 1 6)), some (.int v0), some (.int v1), some (.int v2)] [.int ((6 - v0) - v1), .int 3, .int (hh_i h 1 6), .ref 1001] h9 rfl rfl rfl ?_
  refine tr_s (.iload 8) 2 96 [some (.ref 1001), some (.int x1), some (.int x2), some (.int x3), some (.int x4), some (.int (hh_i h 1 6)), some (.int v0), some (.int v1), some (.int v2)] [.int v2, .int ((6 - v0) - v1), .int 3, .int (hh_i h 1 6), .ref 1001] h9 rfl rfl rfl ?_
  refine tr_s .isub 1 97 [some (.ref 1001), some (.int x1), some (.int x2), some (.int x3), some (.int x4), some (.int (hh_i h 1 6)), some (.int v0), some (.int v1), some (.int v2)] [.int (((6 - v0) - v1) - v2), .int 3, .int (hh_i h 1 6), .ref 1001] h9 rfl rfl rfl ?_
  refine tr_call (.invokevirtual 87) 87 0 3 1 m_X2_rank [.ref 1001, .int (hh_i h 1 6), .int 3, .int (((6 - v0) - v1) - v2)] [] none h10 rfl rfl rfl rfl rfl rfl rfl rfl rfl (tr_cok rfl (Or.inr ⟨_, _, rfl, tr_rc (hh_rd (hh_obj hL8 (k := 1) rfl).1) (by decide)⟩)) c_9 ?_
  have hL9 := c_9.2
  refine tr_s (.aload_n 0) 1 101 [some (.ref 1001), some (.int x1), some (.int x2), some (.int x3), some (.int x4), some (.int (hh_i h 1 6)), some (.int v0), some (.int v1), some (.int v2)] [.ref 1001] h10 rfl rfl rfl ?_
  refine tr_s (.iload 5) 2 103 [some (.ref 1001), some (.int x1), some (.int x2), some (.int x3), some (.int x4), some (.int (hh_i h 1 6)), some (.int v0), some (.int v1), some (.int v2)] [.int (hh_i h 1 6), .ref 1001] h10 rfl rfl rfl ?_
  refine tr_ic 1 1 (by decide) rfl ?_
  refine tr_s .iadd 1 105 [some (.ref 1001), some (.int x1), some (.int x2), some (.int x3), some (.int x4), some (.int (hh_i h 1 6)), some (.int v0), some (.int v1), some (.int v2)] [.int ((hh_i h 1 6) + 1), .ref 1001] h10 rfl rfl rfl ?_
  refine tl_pf hL9 31 1 1 6 [1002, 1003, 1004, 1005, 1006, 1007, 0, 0, 0, 0, 0, 0, 0, 0] ((hh_i h 1 6) + 1) .int rfl rfl rfl rfl rfl tr_oki ?_
  have hL10 := hh_L_si (sl := 6) (x := ((hh_i h 1 6) + 1)) hL9 (show hh_t[1]? = some (.inr (1, [1002, 1003, 1004, 1005, 1006, 1007, 0, 0, 0, 0, 0, 0, 0, 0])) from rfl) rfl
  refine tr_s (.aload_n 0) 1 109 [some (.ref 1001), some (.int x1), some (.int x2), some (.int x3), some (.int x4), some (.int (hh_i h 1 6)), some (.int v0), some (.int v1), some (.int v2)] [.ref 1001] (hh_si h10 1 1 6 ((hh_i h 1 6) + 1)) rfl rfl rfl ?_
  refine tr_ic 1 1 (by decide) rfl ?_
  refine tl_pf hL10 55 1 1 13 [1002, 1003, 1004, 1005, 1006, 1007, 0, 0, 0, 0, 0, 0, 0, 0] 1 .boolean rfl rfl rfl rfl rfl (by decide) ?_
  have hL11 := hh_L_si (sl := 13) (x := 1) hL10 (show hh_t[1]? = some (.inr (1, [1002, 1003, 1004, 1005, 1006, 1007, 0, 0, 0, 0, 0, 0, 0, 0])) from rfl) rfl
  exact tl_ret hL11 .return_ 1 none rfl rfl rfl rfl hr
theorem sg_X2_rank_0 {g : tr_g} {d : Nat} {h : ev_AH} {r : ev_O × ev_AH} {x1 x2 x3 : Int32} {h1 h2 : ev_AH} (hL : hh_L h) (c_0 : tr_L g d m_X8_put 0 [some (.ref 1004), some (.int ((4 * x1) + x2)), some (.int x3)] [] h (.inl none, h1)) (c_1 : tr_L g d m_X8_put 0 [some (.ref 1005), some (.int ((4 * x1) + x2)), some (.int x3)] [] h1 (.inl none, h2)) (hr : r = (.inl (none), h2)) : tr_L g (d + 1) m_X2_rank 0 [some (.ref 1001), some (.int x1), some (.int x2), some (.int x3)] [] h r := by
  refine tr_s (.aload_n 0) 1 1 [some (.ref 1001), some (.int x1), some (.int x2), some (.int x3)] [.ref 1001] h rfl rfl rfl ?_
  refine tl_gr hL 19 1 1 2 4 [1002, 1003, 1004, 1005, 1006, 1007, 0, 0, 0, 0, 0, 0, 0, 0] rfl rfl rfl rfl ?_
  refine tr_ic 4 4 (by decide) rfl ?_
  refine tr_s (.iload_n 1) 1 6 [some (.ref 1001), some (.int x1), some (.int x2), some (.int x3)] [.int x1, .int 4, .ref 1004] h rfl rfl rfl ?_
  refine tr_s .imul 1 7 [some (.ref 1001), some (.int x1), some (.int x2), some (.int x3)] [.int (4 * x1), .ref 1004] h rfl rfl rfl ?_
  refine tr_s (.iload_n 2) 1 8 [some (.ref 1001), some (.int x1), some (.int x2), some (.int x3)] [.int x2, .int (4 * x1), .ref 1004] h rfl rfl rfl ?_
  refine tr_s .iadd 1 9 [some (.ref 1001), some (.int x1), some (.int x2), some (.int x3)] [.int ((4 * x1) + x2), .ref 1004] h rfl rfl rfl ?_
  refine tr_s (.iload_n 3) 1 10 [some (.ref 1001), some (.int x1), some (.int x2), some (.int x3)] [.int x3, .int ((4 * x1) + x2), .ref 1004] h rfl rfl rfl ?_
  refine tr_call (.invokestatic 84) 84 3 3 0 m_X8_put [.ref 1004, .int ((4 * x1) + x2), .int x3] [] none h1 rfl rfl rfl rfl rfl rfl rfl rfl rfl (tr_cok rfl (Or.inl rfl)) c_0 ?_
  have hL0 := c_0.2
  refine tr_s (.aload_n 0) 1 14 [some (.ref 1001), some (.int x1), some (.int x2), some (.int x3)] [.ref 1001] h1 rfl rfl rfl ?_
  refine tl_gr hL0 22 1 1 3 5 [1002, 1003, 1004, 1005, 1006, 1007, 0, 0, 0, 0, 0, 0, 0, 0] rfl rfl rfl rfl ?_
  refine tr_ic 4 4 (by decide) rfl ?_
  refine tr_s (.iload_n 1) 1 19 [some (.ref 1001), some (.int x1), some (.int x2), some (.int x3)] [.int x1, .int 4, .ref 1005] h1 rfl rfl rfl ?_
  refine tr_s .imul 1 20 [some (.ref 1001), some (.int x1), some (.int x2), some (.int x3)] [.int (4 * x1), .ref 1005] h1 rfl rfl rfl ?_
  refine tr_s (.iload_n 2) 1 21 [some (.ref 1001), some (.int x1), some (.int x2), some (.int x3)] [.int x2, .int (4 * x1), .ref 1005] h1 rfl rfl rfl ?_
  refine tr_s .iadd 1 22 [some (.ref 1001), some (.int x1), some (.int x2), some (.int x3)] [.int ((4 * x1) + x2), .ref 1005] h1 rfl rfl rfl ?_
  refine tr_s (.iload_n 3) 1 23 [some (.ref 1001), some (.int x1), some (.int x2), some (.int x3)] [.int x3, .int ((4 * x1) + x2), .ref 1005] h1 rfl rfl rfl ?_
  refine tr_call (.invokestatic 84) 84 3 3 0 m_X8_put [.ref 1005, .int ((4 * x1) + x2), .int x3] [] none h2 rfl rfl rfl rfl rfl rfl rfl rfl rfl (tr_cok rfl (Or.inl rfl)) c_1 ?_
  have hL1 := c_1.2
  exact tl_ret hL1 .return_ 1 none rfl rfl rfl rfl hr
theorem sg_X2_countHeard_0 {g : tr_g} {d : Nat} {h : ev_AH} {r : ev_O × ev_AH} (hL : hh_L h) (k : tr_L g d m_X2_countHeard 4 [some (.ref 1001), some (.int 0), some (.int 0)] [] h r) : tr_L g d m_X2_countHeard 0 [some (.ref 1001), none, none] [] h r := by
  refine tr_ic 0 0 (by decide) rfl ?_
  refine tr_st (.istore_n 1) 1 1 0 (.int 0) rfl rfl rfl rfl rfl rfl rfl ?_
  refine tr_ic 0 0 (by decide) rfl ?_
  refine tr_st (.istore_n 2) 1 2 0 (.int 0) rfl rfl rfl rfl rfl rfl rfl ?_
  exact k
theorem sg_X2_countHeard_4 {g : tr_g} {d : Nat} {h : ev_AH} {r : ev_O × ev_AH} {x1 x2 : Int32} (hL : hh_L h) (t : (hh_i h 1 6) ≤ x2 → tr_L g d m_X2_countHeard 29 [some (.ref 1001), some (.int x1), some (.int x2)] [] h r) (f : x2 < (hh_i h 1 6) → tr_L g d m_X2_countHeard 12 [some (.ref 1001), some (.int x1), some (.int x2)] [] h r) : tr_L g d m_X2_countHeard 4 [some (.ref 1001), some (.int x1), some (.int x2)] [] h r := by
  refine tr_s (.iload_n 2) 1 5 [some (.ref 1001), some (.int x1), some (.int x2)] [.int x2] h rfl rfl rfl ?_
  refine tr_s (.aload_n 0) 1 6 [some (.ref 1001), some (.int x1), some (.int x2)] [.ref 1001, .int x2] h rfl rfl rfl ?_
  refine tl_gi hL 31 1 1 6 [1002, 1003, 1004, 1005, 1006, 1007, 0, 0, 0, 0, 0, 0, 0, 0] rfl rfl rfl rfl ?_
  exact tr_if2 .ge 20 29 x2 (hh_i h 1 6) rfl rfl rfl (fun hc => t ((tr_ge hc).1 rfl)) (fun hc => f ((tr_ge hc).2 rfl))
theorem sg_X2_countHeard_12 {g : tr_g} {d : Nat} {h : ev_AH} {r : ev_O × ev_AH} {x1 x2 v0 : Int32} {h1 : ev_AH} (hL : hh_L h) (c_0 : tr_L g d m_X8_at 0 [some (.ref 1006), some (.int x2)] [] h (.inl (some (.int v0)), h1)) (k : tr_L g (d + 1) m_X2_countHeard 4 [some (.ref 1001), some (.int (x1 + v0)), some (.int (x2 + 1))] [] h1 r) : tr_L g (d + 1) m_X2_countHeard 12 [some (.ref 1001), some (.int x1), some (.int x2)] [] h r := by
  refine tr_s (.iload_n 1) 1 13 [some (.ref 1001), some (.int x1), some (.int x2)] [.int x1] h rfl rfl rfl ?_
  refine tr_s (.aload_n 0) 1 14 [some (.ref 1001), some (.int x1), some (.int x2)] [.ref 1001, .int x1] h rfl rfl rfl ?_
  refine tl_gr hL 25 1 1 4 6 [1002, 1003, 1004, 1005, 1006, 1007, 0, 0, 0, 0, 0, 0, 0, 0] rfl rfl rfl rfl ?_
  refine tr_s (.iload_n 2) 1 18 [some (.ref 1001), some (.int x1), some (.int x2)] [.int x2, .ref 1006, .int x1] h rfl rfl rfl ?_
  refine tr_call (.invokestatic 65) 65 3 2 0 m_X8_at [.ref 1006, .int x2] [.int x1] (some (.int v0)) h1 rfl rfl rfl rfl rfl rfl rfl rfl rfl (tr_cok rfl (Or.inl rfl)) c_0 ?_
  have hL0 := c_0.2
  refine tr_s .iadd 1 22 [some (.ref 1001), some (.int x1), some (.int x2)] [.int (x1 + v0)] h1 rfl rfl rfl ?_
  refine tr_st (.istore_n 1) 1 1 0 (.int (x1 + v0)) rfl rfl rfl rfl rfl rfl rfl ?_
  refine tr_inc 2 1 x2 1 (by decide) rfl rfl rfl ?_
  refine tr_goto (-22) 4 rfl rfl rfl ?_
  exact k
theorem sg_X2_countHeard_29 {g : tr_g} {d : Nat} {h : ev_AH} {r : ev_O × ev_AH} {w0 w2 : Option Value} {x1 : Int32} (hL : hh_L h) (hr : r = (.inl (some (.int x1)), h)) : tr_L g d m_X2_countHeard 29 [w0, some (.int x1), w2] [] h r := by
  refine tr_s (.iload_n 1) 1 30 [w0, some (.int x1), w2] [.int x1] h rfl rfl rfl ?_
  exact tl_ret hL .ireturn 1 (some (.int x1)) rfl rfl rfl rfl hr
