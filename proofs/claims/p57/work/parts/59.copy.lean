/-! a court is copied; laid by a program (wip/whole/gen/gen40.py) -/
/-- the cells of a court begin at a -/
def is_court (a : Nat) : Prop := hh_t[a]? = some (.inr (1, [a + 1001, a + 1002, a + 1003, a + 1004, a + 1005, a + 1006, 0, 0, 0, 0, 0, 0, 0, 0])) ∧ hh_t[a + 1]? = some (.inl (1, 35)) ∧ hh_t[a + 2]? = some (.inl (0, 7)) ∧ hh_t[a + 3]? = some (.inl (0, 28)) ∧ hh_t[a + 4]? = some (.inl (0, 28)) ∧ hh_t[a + 5]? = some (.inl (0, 7)) ∧ hh_t[a + 6]? = some (.inl (1, 10))
theorem sg_X2_copyFrom_0 {g : tr_g} {d : Nat} {h : ev_AH} {r : ev_O × ev_AH} {a b : Nat} {h1 h2 h3 h4 h5 h6 h7 h8 h9 h10 h11 h12 h13 h14 : ev_AH} (hL : hh_L h) (k_b : is_court b) (k_a : is_court a) (c_0 : tr_L g d m_X8_copy_ 0 [some (.ref (b + 1 + 1000)), some (.ref (a + 1 + 1000)), none] [] h (.inl none, h1)) (c_1 : tr_L g d m_X8_copy 0 [some (.ref (b + 2 + 1000)), some (.ref (a + 2 + 1000)), none] [] h1 (.inl none, h2)) (c_2 : tr_L g d m_X8_copy 0 [some (.ref (b + 3 + 1000)), some (.ref (a + 3 + 1000)), none] [] h2 (.inl none, h3)) (c_3 : tr_L g d m_X8_copy 0 [some (.ref (b + 4 + 1000)), some (.ref (a + 4 + 1000)), none] [] h3 (.inl none, h4)) (c_4 : tr_L g d m_X8_copy 0 [some (.ref (b + 5 + 1000)), some (.ref (a + 5 + 1000)), none] [] h4 (.inl none, h5)) (c_5 : tr_L g d m_X8_copy_ 0 [some (.ref (b + 6 + 1000)), some (.ref (a + 6 + 1000)), none] [] h5 (.inl none, h6)) (eh0 : h7 = hh_si h6 a 1 6 (hh_i h6 b 6)) (hc0 : tr_ch (hh_i h7 b 7)) (eh1 : h8 = hh_si h7 a 1 7 (hh_i h7 b 7)) (eh2 : h9 = hh_si h8 a 1 8 (hh_i h8 b 8)) (eh3 : h10 = hh_si h9 a 1 9 (hh_i h9 b 9)) (eh4 : h11 = hh_si h10 a 1 10 (hh_i h10 b 10)) (eh5 : h12 = hh_si h11 a 1 11 (hh_i h11 b 11)) (hb0 : hh_i h12 b 12 = 0 ∨ hh_i h12 b 12 = 1) (eh6 : h13 = hh_si h12 a 1 12 (hh_i h12 b 12)) (hb1 : hh_i h13 b 13 = 0 ∨ hh_i h13 b 13 = 1) (eh7 : h14 = hh_si h13 a 1 13 (hh_i h13 b 13)) (hr : r = (.inl (none), h14)) : tr_L g (d + 1) m_X2_copyFrom 0 [some (.ref (a + 1000)), some (.ref (b + 1000))] [] h r := by
  refine tr_s (.aload_n 1) 1 1 [some (.ref (a + 1000)), some (.ref (b + 1000))] [.ref (b + 1000)] h rfl rfl rfl ?_
  refine tl_gr hL 9 b 1 0 (b + 1) [b + 1001, b + 1002, b + 1003, b + 1004, b + 1005, b + 1006, 0, 0, 0, 0, 0, 0, 0, 0] rfl rfl (k_b).1 rfl ?_
  refine tr_s (.aload_n 0) 1 5 [some (.ref (a + 1000)), some (.ref (b + 1000))] [.ref (a + 1000), .ref (b + 1 + 1000)] h rfl rfl rfl ?_
  refine tl_gr hL 9 a 1 0 (a + 1) [a + 1001, a + 1002, a + 1003, a + 1004, a + 1005, a + 1006, 0, 0, 0, 0, 0, 0, 0, 0] rfl rfl (k_a).1 rfl ?_
  refine tr_call (.invokestatic 58) 58 3 2 0 m_X8_copy_ [.ref (b + 1 + 1000), .ref (a + 1 + 1000)] [] none h1 rfl rfl rfl rfl rfl rfl rfl rfl rfl (tr_cok rfl (Or.inl rfl)) c_0 ?_
  have hL0 := c_0.2
  refine tr_s (.aload_n 1) 1 12 [some (.ref (a + 1000)), some (.ref (b + 1000))] [.ref (b + 1000)] h1 rfl rfl rfl ?_
  refine tl_gr hL0 15 b 1 1 (b + 2) [b + 1001, b + 1002, b + 1003, b + 1004, b + 1005, b + 1006, 0, 0, 0, 0, 0, 0, 0, 0] rfl rfl (k_b).1 rfl ?_
  refine tr_s (.aload_n 0) 1 16 [some (.ref (a + 1000)), some (.ref (b + 1000))] [.ref (a + 1000), .ref (b + 2 + 1000)] h1 rfl rfl rfl ?_
  refine tl_gr hL0 15 a 1 1 (a + 2) [a + 1001, a + 1002, a + 1003, a + 1004, a + 1005, a + 1006, 0, 0, 0, 0, 0, 0, 0, 0] rfl rfl (k_a).1 rfl ?_
  refine tr_call (.invokestatic 62) 62 3 2 0 m_X8_copy [.ref (b + 2 + 1000), .ref (a + 2 + 1000)] [] none h2 rfl rfl rfl rfl rfl rfl rfl rfl rfl (tr_cok rfl (Or.inl rfl)) c_1 ?_
  have hL1 := c_1.2
  refine tr_s (.aload_n 1) 1 23 [some (.ref (a + 1000)), some (.ref (b + 1000))] [.ref (b + 1000)] h2 rfl rfl rfl ?_
  refine tl_gr hL1 19 b 1 2 (b + 3) [b + 1001, b + 1002, b + 1003, b + 1004, b + 1005, b + 1006, 0, 0, 0, 0, 0, 0, 0, 0] rfl rfl (k_b).1 rfl ?_
  refine tr_s (.aload_n 0) 1 27 [some (.ref (a + 1000)), some (.ref (b + 1000))] [.ref (a + 1000), .ref (b + 3 + 1000)] h2 rfl rfl rfl ?_
  refine tl_gr hL1 19 a 1 2 (a + 3) [a + 1001, a + 1002, a + 1003, a + 1004, a + 1005, a + 1006, 0, 0, 0, 0, 0, 0, 0, 0] rfl rfl (k_a).1 rfl ?_
  refine tr_call (.invokestatic 62) 62 3 2 0 m_X8_copy [.ref (b + 3 + 1000), .ref (a + 3 + 1000)] [] none h3 rfl rfl rfl rfl rfl rfl rfl rfl rfl (tr_cok rfl (Or.inl rfl)) c_2 ?_
  have hL2 := c_2.2
  refine tr_s (.aload_n 1) 1 34 [some (.ref (a + 1000)), some (.ref (b + 1000))] [.ref (b + 1000)] h3 rfl rfl rfl ?_
  refine tl_gr hL2 22 b 1 3 (b + 4) [b + 1001, b + 1002, b + 1003, b + 1004, b + 1005, b + 1006, 0, 0, 0, 0, 0, 0, 0, 0] rfl rfl (k_b).1 rfl ?_
  refine tr_s (.aload_n 0) 1 38 [some (.ref (a + 1000)), some (.ref (b + 1000))] [.ref (a + 1000), .ref (b + 4 + 1000)] h3 rfl rfl rfl ?_
  refine tl_gr hL2 22 a 1 3 (a + 4) [a + 1001, a + 1002, a + 1003, a + 1004, a + 1005, a + 1006, 0, 0, 0, 0, 0, 0, 0, 0] rfl rfl (k_a).1 rfl ?_
  refine tr_call (.invokestatic 62) 62 3 2 0 m_X8_copy [.ref (b + 4 + 1000), .ref (a + 4 + 1000)] [] none h4 rfl rfl rfl rfl rfl rfl rfl rfl rfl (tr_cok rfl (Or.inl rfl)) c_3 ?_
  have hL3 := c_3.2
  refine tr_s (.aload_n 1) 1 45 [some (.ref (a + 1000)), some (.ref (b + 1000))] [.ref (b + 1000)] h4 rfl rfl rfl ?_
  refine tl_gr hL3 25 b 1 4 (b + 5) [b + 1001, b + 1002, b + 1003, b + 1004, b + 1005, b + 1006, 0, 0, 0, 0, 0, 0, 0, 0] rfl rfl (k_b).1 rfl ?_
  refine tr_s (.aload_n 0) 1 49 [some (.ref (a + 1000)), some (.ref (b + 1000))] [.ref (a + 1000), .ref (b + 5 + 1000)] h4 rfl rfl rfl ?_
  refine tl_gr hL3 25 a 1 4 (a + 5) [a + 1001, a + 1002, a + 1003, a + 1004, a + 1005, a + 1006, 0, 0, 0, 0, 0, 0, 0, 0] rfl rfl (k_a).1 rfl ?_
  refine tr_call (.invokestatic 62) 62 3 2 0 m_X8_copy [.ref (b + 5 + 1000), .ref (a + 5 + 1000)] [] none h5 rfl rfl rfl rfl rfl rfl rfl rfl rfl (tr_cok rfl (Or.inl rfl)) c_4 ?_
  have hL4 := c_4.2
  refine tr_s (.aload_n 1) 1 56 [some (.ref (a + 1000)), some (.ref (b + 1000))] [.ref (b + 1000)] h5 rfl rfl rfl ?_
  refine tl_gr hL4 28 b 1 5 (b + 6) [b + 1001, b + 1002, b + 1003, b + 1004, b + 1005, b + 1006, 0, 0, 0, 0, 0, 0, 0, 0] rfl rfl (k_b).1 rfl ?_
  refine tr_s (.aload_n 0) 1 60 [some (.ref (a + 1000)), some (.ref (b + 1000))] [.ref (a + 1000), .ref (b + 6 + 1000)] h5 rfl rfl rfl ?_
  refine tl_gr hL4 28 a 1 5 (a + 6) [a + 1001, a + 1002, a + 1003, a + 1004, a + 1005, a + 1006, 0, 0, 0, 0, 0, 0, 0, 0] rfl rfl (k_a).1 rfl ?_
  refine tr_call (.invokestatic 58) 58 3 2 0 m_X8_copy_ [.ref (b + 6 + 1000), .ref (a + 6 + 1000)] [] none h6 rfl rfl rfl rfl rfl rfl rfl rfl rfl (tr_cok rfl (Or.inl rfl)) c_5 ?_
  have hL5 := c_5.2
  refine tr_s (.aload_n 0) 1 67 [some (.ref (a + 1000)), some (.ref (b + 1000))] [.ref (a + 1000)] h6 rfl rfl rfl ?_
  refine tr_s (.aload_n 1) 1 68 [some (.ref (a + 1000)), some (.ref (b + 1000))] [.ref (b + 1000), .ref (a + 1000)] h6 rfl rfl rfl ?_
  refine tl_gi hL5 31 b 1 6 [b + 1001, b + 1002, b + 1003, b + 1004, b + 1005, b + 1006, 0, 0, 0, 0, 0, 0, 0, 0] rfl rfl (k_b).1 rfl ?_
  refine tl_pf hL5 31 a 1 6 [a + 1001, a + 1002, a + 1003, a + 1004, a + 1005, a + 1006, 0, 0, 0, 0, 0, 0, 0, 0] (hh_i h6 b 6) .int rfl rfl (k_a).1 rfl rfl tr_oki ?_
  rw [← eh0]
  have hL6 : hh_L h7 := by rw [eh0]; exact hh_L_si (sl := 6) (x := (hh_i h6 b 6)) hL5 (k_a).1 rfl
  refine tr_s (.aload_n 0) 1 75 [some (.ref (a + 1000)), some (.ref (b + 1000))] [.ref (a + 1000)] h7 rfl rfl rfl ?_
  refine tr_s (.aload_n 1) 1 76 [some (.ref (a + 1000)), some (.ref (b + 1000))] [.ref (b + 1000), .ref (a + 1000)] h7 rfl rfl rfl ?_
  refine tl_gi hL6 35 b 1 7 [b + 1001, b + 1002, b + 1003, b + 1004, b + 1005, b + 1006, 0, 0, 0, 0, 0, 0, 0, 0] rfl rfl (k_b).1 rfl ?_
  refine tl_pf hL6 35 a 1 7 [a + 1001, a + 1002, a + 1003, a + 1004, a + 1005, a + 1006, 0, 0, 0, 0, 0, 0, 0, 0] (hh_i h7 b 7) .char rfl rfl (k_a).1 rfl rfl (tr_okc hc0) ?_
  rw [← eh1]
  have hL7 : hh_L h8 := by rw [eh1]; exact hh_L_si (sl := 7) (x := (hh_i h7 b 7)) hL6 (k_a).1 rfl
  refine tr_s (.aload_n 0) 1 83 [some (.ref (a + 1000)), some (.ref (b + 1000))] [.ref (a + 1000)] h8 rfl rfl rfl ?_
  refine tr_s (.aload_n 1) 1 84 [some (.ref (a + 1000)), some (.ref (b + 1000))] [.ref (b + 1000), .ref (a + 1000)] h8 rfl rfl rfl ?_
  refine tl_gi hL7 39 b 1 8 [b + 1001, b + 1002, b + 1003, b + 1004, b + 1005, b + 1006, 0, 0, 0, 0, 0, 0, 0, 0] rfl rfl (k_b).1 rfl ?_
  refine tl_pf hL7 39 a 1 8 [a + 1001, a + 1002, a + 1003, a + 1004, a + 1005, a + 1006, 0, 0, 0, 0, 0, 0, 0, 0] (hh_i h8 b 8) .int rfl rfl (k_a).1 rfl rfl tr_oki ?_
  rw [← eh2]
  have hL8 : hh_L h9 := by rw [eh2]; exact hh_L_si (sl := 8) (x := (hh_i h8 b 8)) hL7 (k_a).1 rfl
  refine tr_s (.aload_n 0) 1 91 [some (.ref (a + 1000)), some (.ref (b + 1000))] [.ref (a + 1000)] h9 rfl rfl rfl ?_
  refine tr_s (.aload_n 1) 1 92 [some (.ref (a + 1000)), some (.ref (b + 1000))] [.ref (b + 1000), .ref (a + 1000)] h9 rfl rfl rfl ?_
  refine tl_gi hL8 42 b 1 9 [b + 1001, b + 1002, b + 1003, b + 1004, b + 1005, b + 1006, 0, 0, 0, 0, 0, 0, 0, 0] rfl rfl (k_b).1 rfl ?_
  refine tl_pf hL8 42 a 1 9 [a + 1001, a + 1002, a + 1003, a + 1004, a + 1005, a + 1006, 0, 0, 0, 0, 0, 0, 0, 0] (hh_i h9 b 9) .int rfl rfl (k_a).1 rfl rfl tr_oki ?_
  rw [← eh3]
  have hL9 : hh_L h10 := by rw [eh3]; exact hh_L_si (sl := 9) (x := (hh_i h9 b 9)) hL8 (k_a).1 rfl
  refine tr_s (.aload_n 0) 1 99 [some (.ref (a + 1000)), some (.ref (b + 1000))] [.ref (a + 1000)] h10 rfl rfl rfl ?_
  refine tr_s (.aload_n 1) 1 100 [some (.ref (a + 1000)), some (.ref (b + 1000))] [.ref (b + 1000), .ref (a + 1000)] h10 rfl rfl rfl ?_
  refine tl_gi hL9 45 b 1 10 [b + 1001, b + 1002, b + 1003, b + 1004, b + 1005, b + 1006, 0, 0, 0, 0, 0, 0, 0, 0] rfl rfl (k_b).1 rfl ?_
  refine tl_pf hL9 45 a 1 10 [a + 1001, a + 1002, a + 1003, a + 1004, a + 1005, a + 1006, 0, 0, 0, 0, 0, 0, 0, 0] (hh_i h10 b 10) .int rfl rfl (k_a).1 rfl rfl tr_oki ?_
  rw [← eh4]
  have hL10 : hh_L h11 := by rw [eh4]; exact hh_L_si (sl := 10) (x := (hh_i h10 b 10)) hL9 (k_a).1 rfl
  refine tr_s (.aload_n 0) 1 107 [some (.ref (a + 1000)), some (.ref (b + 1000))] [.ref (a + 1000)] h11 rfl rfl rfl ?_
  refine tr_s (.aload_n 1) 1 108 [some (.ref (a + 1000)), some (.ref (b + 1000))] [.ref (b + 1000), .ref (a + 1000)] h11 rfl rfl rfl ?_
  refine tl_gi hL10 48 b 1 11 [b + 1001, b + 1002, b + 1003, b + 1004, b + 1005, b + 1006, 0, 0, 0, 0, 0, 0, 0, 0] rfl rfl (k_b).1 rfl ?_
  refine tl_pf hL10 48 a 1 11 [a + 1001, a + 1002, a + 1003, a + 1004, a + 1005, a + 1006, 0, 0, 0, 0, 0, 0, 0, 0] (hh_i h11 b 11) .int rfl rfl (k_a).1 rfl rfl tr_oki ?_
  rw [← eh5]
  have hL11 : hh_L h12 := by rw [eh5]; exact hh_L_si (sl := 11) (x := (hh_i h11 b 11)) hL10 (k_a).1 rfl
  refine tr_s (.aload_n 0) 1 115 [some (.ref (a + 1000)), some (.ref (b + 1000))] [.ref (a + 1000)] h12 rfl rfl rfl ?_
  refine tr_s (.aload_n 1) 1 116 [some (.ref (a + 1000)), some (.ref (b + 1000))] [.ref (b + 1000), .ref (a + 1000)] h12 rfl rfl rfl ?_
  refine tl_gi hL11 51 b 1 12 [b + 1001, b + 1002, b + 1003, b + 1004, b + 1005, b + 1006, 0, 0, 0, 0, 0, 0, 0, 0] rfl rfl (k_b).1 rfl ?_
  refine tl_pf hL11 51 a 1 12 [a + 1001, a + 1002, a + 1003, a + 1004, a + 1005, a + 1006, 0, 0, 0, 0, 0, 0, 0, 0] (hh_i h12 b 12) .boolean rfl rfl (k_a).1 rfl rfl (tr_okb hb0) ?_
  rw [← eh6]
  have hL12 : hh_L h13 := by rw [eh6]; exact hh_L_si (sl := 12) (x := (hh_i h12 b 12)) hL11 (k_a).1 rfl
  refine tr_s (.aload_n 0) 1 123 [some (.ref (a + 1000)), some (.ref (b + 1000))] [.ref (a + 1000)] h13 rfl rfl rfl ?_
  refine tr_s (.aload_n 1) 1 124 [some (.ref (a + 1000)), some (.ref (b + 1000))] [.ref (b + 1000), .ref (a + 1000)] h13 rfl rfl rfl ?_
  refine tl_gi hL12 55 b 1 13 [b + 1001, b + 1002, b + 1003, b + 1004, b + 1005, b + 1006, 0, 0, 0, 0, 0, 0, 0, 0] rfl rfl (k_b).1 rfl ?_
  refine tl_pf hL12 55 a 1 13 [a + 1001, a + 1002, a + 1003, a + 1004, a + 1005, a + 1006, 0, 0, 0, 0, 0, 0, 0, 0] (hh_i h13 b 13) .boolean rfl rfl (k_a).1 rfl rfl (tr_okb hb1) ?_
  rw [← eh7]
  have hL13 : hh_L h14 := by rw [eh7]; exact hh_L_si (sl := 13) (x := (hh_i h13 b 13)) hL12 (k_a).1 rfl
  exact tl_ret hL13 .return_ 1 none rfl rfl rfl rfl hr
section
variable {g : tr_g} {d : Nat} {h : ev_AH}
theorem sp_copy {a b n : Nat} (hL : hh_L h) (ha : hh_t[a]? = some (.inl (0, n))) (hb : hh_t[b]? = some (.inl (0, n))) (hn : n < 1000) (hab : a ≠ b) : tr_L g d m_X8_copy 0 [some (.ref (b + 1000)), some (.ref (a + 1000)), none] [] h (.inl none, hh_sa h a 0 (hh_a h b)) := by
  obtain ⟨b1, b2⟩ := hh_arr hL hb
  obtain ⟨a1, a2⟩ := hh_arr hL ha
  have alt : a < h.1.length := (List.getElem?_eq_some_iff.mp a1).1
  have key : ∀ m k, k + m = n → ∀ (l : List Int32) (h1 : ev_AH), h1 = hh_sa h a 0 l → hh_L h1 → l.length = n → (∀ i, i < k → l[i]? = (hh_a h b)[i]?) → tr_L g d m_X8_copy 2 [some (.ref (b + 1000)), some (.ref (a + 1000)), some (.int (Int32.ofNat k))] [] h1 (.inl none, hh_sa h a 0 (hh_a h b)) := by
    intro m
    induction m with
    | zero =>
      intro k hk l h1 e1 hL1 hl hi
      have hk0 : k = n := hk
      obtain ⟨c1, c2⟩ := hh_arr hL1 hb
      refine sg_X8_copy_2 hL1 (m0 := c1) (z0 := by omega) (fun _ => sg_X8_copy_26 hL1 ?_) (fun t => ?_)
      · have : l = hh_a h b := by
          apply List.ext_getElem?
          intro i
          by_cases hin : i < n
          · exact hi i (by omega)
          · rw [List.getElem?_eq_none (by omega), List.getElem?_eq_none (by omega)]
        rw [e1, this]
      · rw [c2] at t
        have := (ii_lt (by omega) (by omega)).mp t
        omega
    | succ m ih =>
      intro k hk l h1 e1 hL1 hl hi
      obtain ⟨c1, c2⟩ := hh_arr hL1 hb
      obtain ⟨f1, f2⟩ := hh_arr hL1 ha
      have eb : hh_a h1 b = hh_a h b := by rw [e1, hh_a_sa alt, if_neg hab]
      have ea : hh_a h1 a = l := by rw [e1, hh_a_sa alt, if_pos rfl]
      have hLn := hh_L_ss (j := k) (x := (hh_a h1 b).getD k 0) hL1 ha
      have nl : ∀ {P : Prop} {z : Nat}, z = n → (Int32.ofNat z ≤ Int32.ofNat k → P) := fun e t => by
        have := (ii_le (by omega) (by omega)).mp t
        omega
      refine sg_X8_copy_2 hL1 (m0 := c1) (z0 := by omega) (fun t => nl c2 t) (fun _ => sg_X8_copy_8 hL1 (m0 := f1) (z0 := by omega) (fun t => nl f2 t) (fun _ => sg_X8_copy_14 hL1 (e0 := rfl) (m0 := c1) (z0 := by omega) (b0 := by omega) (e1 := rfl) (m1 := f1) (z1 := by omega) (b1 := by omega) ?_))
      rw [ii_s]
      have e2 : ev_wr h1 (a + 1000) (.inl (0, (hh_a h1 a).set k ((hh_a h1 b).getD k 0))) = hh_sa h1 a 0 ((hh_a h1 a).set k ((hh_a h1 b).getD k 0)) := by simp only [ev_wr, hh_sa, Nat.add_sub_cancel]
      rw [e2]
      refine ih (k + 1) (by omega) (l.set k ((hh_a h b).getD k 0)) _ ?_ hLn (by rw [List.length_set]; exact hl) (fun i hi2 => ?_)
      · rw [ea, eb, e1, hh_sa_sa]
      · by_cases e : i = k
        · subst e
          rw [List.getElem?_set_self (by omega)]
          simp [List.getD, show i < (hh_a h b).length by omega]
        · rw [List.getElem?_set_ne (Ne.symm e)]
          exact hi i (by omega)
  exact sg_X8_copy_0 hL (key n 0 (by omega) (hh_a h a) h (hh_sa_id a1).symm hL a2 (fun i hi => absurd hi (by omega)))
theorem sp_copyc {a b n : Nat} (hL : hh_L h) (ha : hh_t[a]? = some (.inl (1, n))) (hb : hh_t[b]? = some (.inl (1, n))) (hn : n < 1000) (hab : a ≠ b) (hch : ∀ x ∈ hh_a h b, tr_ch x) : tr_L g d m_X8_copy_ 0 [some (.ref (b + 1000)), some (.ref (a + 1000)), none] [] h (.inl none, hh_sa h a 1 (hh_a h b)) := by
  obtain ⟨b1, b2⟩ := hh_arr hL hb
  obtain ⟨a1, a2⟩ := hh_arr hL ha
  have alt : a < h.1.length := (List.getElem?_eq_some_iff.mp a1).1
  have key : ∀ m k, k + m = n → ∀ (l : List Int32) (h1 : ev_AH), h1 = hh_sa h a 1 l → hh_L h1 → l.length = n → (∀ i, i < k → l[i]? = (hh_a h b)[i]?) → tr_L g d m_X8_copy_ 2 [some (.ref (b + 1000)), some (.ref (a + 1000)), some (.int (Int32.ofNat k))] [] h1 (.inl none, hh_sa h a 1 (hh_a h b)) := by
    intro m
    induction m with
    | zero =>
      intro k hk l h1 e1 hL1 hl hi
      have hk0 : k = n := hk
      obtain ⟨c1, c2⟩ := hh_arr hL1 hb
      refine sg_X8_copy__2 hL1 (m0 := c1) (z0 := by omega) (fun _ => sg_X8_copy__26 hL1 ?_) (fun t => ?_)
      · have : l = hh_a h b := by
          apply List.ext_getElem?
          intro i
          by_cases hin : i < n
          · exact hi i (by omega)
          · rw [List.getElem?_eq_none (by omega), List.getElem?_eq_none (by omega)]
        rw [e1, this]
      · rw [c2] at t
        have := (ii_lt (by omega) (by omega)).mp t
        omega
    | succ m ih =>
      intro k hk l h1 e1 hL1 hl hi
      obtain ⟨c1, c2⟩ := hh_arr hL1 hb
      obtain ⟨f1, f2⟩ := hh_arr hL1 ha
      have eb : hh_a h1 b = hh_a h b := by rw [e1, hh_a_sa alt, if_neg hab]
      have ea : hh_a h1 a = l := by rw [e1, hh_a_sa alt, if_pos rfl]
      have hLn := hh_L_ss (j := k) (x := (hh_a h1 b).getD k 0) hL1 ha
      have nl : ∀ {P : Prop} {z : Nat}, z = n → (Int32.ofNat z ≤ Int32.ofNat k → P) := fun e t => by
        have := (ii_le (by omega) (by omega)).mp t
        omega
      have hck : tr_ch ((hh_a h1 b).getD k 0) := by
        rw [eb]
        have : (hh_a h b).getD k 0 = (hh_a h b)[k]'(by omega) := by simp [List.getD, show k < (hh_a h b).length by omega]
        rw [this]
        exact hch _ (List.getElem_mem _)
      refine sg_X8_copy__2 hL1 (m0 := c1) (z0 := by omega) (fun t => nl c2 t) (fun _ => sg_X8_copy__8 hL1 (m0 := f1) (z0 := by omega) (fun t => nl f2 t) (fun _ => sg_X8_copy__14 hL1 (e0 := rfl) (m0 := c1) (z0 := by omega) (b0 := by omega) (e1 := rfl) (hc0 := hck) (m1 := f1) (z1 := by omega) (b1 := by omega) ?_))
      rw [ii_s]
      have e2 : ev_wr h1 (a + 1000) (.inl (1, (hh_a h1 a).set k ((hh_a h1 b).getD k 0))) = hh_sa h1 a 1 ((hh_a h1 a).set k ((hh_a h1 b).getD k 0)) := by simp only [ev_wr, hh_sa, Nat.add_sub_cancel]
      rw [e2]
      refine ih (k + 1) (by omega) (l.set k ((hh_a h b).getD k 0)) _ ?_ hLn (by rw [List.length_set]; exact hl) (fun i hi2 => ?_)
      · rw [ea, eb, e1, hh_sa_sa]
      · by_cases e : i = k
        · subst e
          rw [List.getElem?_set_self (by omega)]
          simp [List.getD, show i < (hh_a h b).length by omega]
        · rw [List.getElem?_set_ne (Ne.symm e)]
          exact hi i (by omega)
  exact sg_X8_copy__0 hL (key n 0 (by omega) (hh_a h a) h (hh_sa_id a1).symm hL a2 (fun i hi => absurd hi (by omega)))
theorem hh_a_ne {h : ev_AH} {k t j : Nat} {l : List Int32} (hk : k ≠ j) : hh_a (hh_sa h k t l) j = hh_a h j := by
  simp [hh_a, hh_sa, hk]
theorem hh_a_eq {h : ev_AH} {k t : Nat} {l : List Int32} (hk : k < h.1.length) : hh_a (hh_sa h k t l) k = l := by
  simp [hh_a, hh_sa, hk]
theorem hh_i_sis {h : ev_AH} (hL : hh_L h) {k ci sl j : Nat} {fs : List Nat} {x : Int32} (hk : hh_t[k]? = some (.inr (ci, fs))) (hs : sl < fs.length) : hh_i (hh_si h k ci sl x) k j = if sl = j then x else hh_i h k j := by
  rw [hh_i_si hL hk hs]
  simp
/-- a court that may be copied: its chars are chars, its booleans booleans -/
def ct_ok (c : CT) : Prop := (∀ y ∈ ct_co c, tr_ch y) ∧ (∀ y ∈ ct_ve c, tr_ch y) ∧ tr_ch (ct_i c 1) ∧ (ct_i c 6 = 0 ∨ ct_i c 6 = 1) ∧ (ct_i c 7 = 0 ∨ ct_i c 7 = 1)
theorem sp_copyFrom {a b : Nat} {c : CT} (hL : hh_L h) (ka : is_court a) (kb : is_court b) (hab : a + 6 < b ∨ b + 6 < a) (hc : cC h b = c) (hok : ct_ok c) : ∃ h', tr_L g (d + 1) m_X2_copyFrom 0 [some (.ref (a + 1000)), some (.ref (b + 1000))] [] h (.inl none, h') ∧ hh_F [a, a + 1, a + 2, a + 3, a + 4, a + 5, a + 6] h h' ∧ cC h' a = c := by
  subst hc
  have ka' := ka
  have kb' := kb
  obtain ⟨k1, k2, k3, k4, k5⟩ := hok
  obtain ⟨a0, a1, a2, a3, a4, a5, a6⟩ := ka
  obtain ⟨b0, b1, b2, b3, b4, b5, b6⟩ := kb
  have lt0 : ∀ {x : Nat} {t : hh_S} {H : ev_AH}, hh_L H → hh_t[x]? = some t → x < H.1.length := fun hLx hx => by
    obtain ⟨cc, e1, -⟩ := hLx _ _ hx
    exact (List.getElem?_eq_some_iff.mp e1).1
  have p1 := sp_copyc (g := g) (d := d) hL a1 b1 (by omega) (by omega) k1
  obtain ⟨h1, e1⟩ : ∃ x, x = hh_sa h (a + 1) 1 (hh_a h (b + 1)) := ⟨_, rfl⟩
  rw [← e1] at p1
  have p2 := sp_copy (g := g) (d := d) p1.2 a2 b2 (by omega) (by omega)
  obtain ⟨h2, e2⟩ : ∃ x, x = hh_sa h1 (a + 2) 0 (hh_a h1 (b + 2)) := ⟨_, rfl⟩
  rw [← e2] at p2
  have p3 := sp_copy (g := g) (d := d) p2.2 a3 b3 (by omega) (by omega)
  obtain ⟨h3, e3⟩ : ∃ x, x = hh_sa h2 (a + 3) 0 (hh_a h2 (b + 3)) := ⟨_, rfl⟩
  rw [← e3] at p3
  have p4 := sp_copy (g := g) (d := d) p3.2 a4 b4 (by omega) (by omega)
  obtain ⟨h4, e4⟩ : ∃ x, x = hh_sa h3 (a + 4) 0 (hh_a h3 (b + 4)) := ⟨_, rfl⟩
  rw [← e4] at p4
  have p5 := sp_copy (g := g) (d := d) p4.2 a5 b5 (by omega) (by omega)
  obtain ⟨h5, e5⟩ : ∃ x, x = hh_sa h4 (a + 5) 0 (hh_a h4 (b + 5)) := ⟨_, rfl⟩
  rw [← e5] at p5
  have eb6 : hh_a h5 (b + 6) = hh_a h (b + 6) := by
    subst e5; subst e4; subst e3; subst e2; subst e1
    rw [hh_a_ne (by omega), hh_a_ne (by omega), hh_a_ne (by omega), hh_a_ne (by omega), hh_a_ne (by omega)]
  have p6 := sp_copyc (g := g) (d := d) p5.2 a6 b6 (by omega) (by omega) (by rw [eb6]; exact k2)
  obtain ⟨h6, e6⟩ : ∃ x, x = hh_sa h5 (a + 6) 1 (hh_a h5 (b + 6)) := ⟨_, rfl⟩
  rw [← e6] at p6
  have F6 : hh_F [a, a + 1, a + 2, a + 3, a + 4, a + 5, a + 6] h h6 := by
    subst e6; subst e5; subst e4; subst e3; subst e2; subst e1
    exact hh_F_tr (hh_F_tr (hh_F_tr (hh_F_tr (hh_F_tr (hh_F_sa (by simp)) (hh_F_sa (by simp))) (hh_F_sa (by simp))) (hh_F_sa (by simp))) (hh_F_sa (by simp))) (hh_F_sa (by simp))
  have hbn : b ∉ [a, a + 1, a + 2, a + 3, a + 4, a + 5, a + 6] := by simp; omega
  obtain ⟨h7, e7⟩ : ∃ x, x = hh_si h6 a 1 6 (hh_i h6 b 6) := ⟨_, rfl⟩
  have L7 : hh_L h7 := by rw [e7]; exact hh_L_si p6.2 a0 rfl
  have F7 := hh_F_tr F6 (show hh_F _ h6 h7 by rw [e7]; exact hh_F_si (List.mem_cons_self))
  obtain ⟨h8, e8⟩ : ∃ x, x = hh_si h7 a 1 7 (hh_i h7 b 7) := ⟨_, rfl⟩
  have L8 : hh_L h8 := by rw [e8]; exact hh_L_si L7 a0 rfl
  have F8 := hh_F_tr F7 (show hh_F _ h7 h8 by rw [e8]; exact hh_F_si (List.mem_cons_self))
  obtain ⟨h9, e9⟩ : ∃ x, x = hh_si h8 a 1 8 (hh_i h8 b 8) := ⟨_, rfl⟩
  have L9 : hh_L h9 := by rw [e9]; exact hh_L_si L8 a0 rfl
  have F9 := hh_F_tr F8 (show hh_F _ h8 h9 by rw [e9]; exact hh_F_si (List.mem_cons_self))
  obtain ⟨h10, e10⟩ : ∃ x, x = hh_si h9 a 1 9 (hh_i h9 b 9) := ⟨_, rfl⟩
  have L10 : hh_L h10 := by rw [e10]; exact hh_L_si L9 a0 rfl
  have F10 := hh_F_tr F9 (show hh_F _ h9 h10 by rw [e10]; exact hh_F_si (List.mem_cons_self))
  obtain ⟨h11, e11⟩ : ∃ x, x = hh_si h10 a 1 10 (hh_i h10 b 10) := ⟨_, rfl⟩
  have L11 : hh_L h11 := by rw [e11]; exact hh_L_si L10 a0 rfl
  have F11 := hh_F_tr F10 (show hh_F _ h10 h11 by rw [e11]; exact hh_F_si (List.mem_cons_self))
  obtain ⟨h12, e12⟩ : ∃ x, x = hh_si h11 a 1 11 (hh_i h11 b 11) := ⟨_, rfl⟩
  have L12 : hh_L h12 := by rw [e12]; exact hh_L_si L11 a0 rfl
  have F12 := hh_F_tr F11 (show hh_F _ h11 h12 by rw [e12]; exact hh_F_si (List.mem_cons_self))
  obtain ⟨h13, e13⟩ : ∃ x, x = hh_si h12 a 1 12 (hh_i h12 b 12) := ⟨_, rfl⟩
  have L13 : hh_L h13 := by rw [e13]; exact hh_L_si L12 a0 rfl
  have F13 := hh_F_tr F12 (show hh_F _ h12 h13 by rw [e13]; exact hh_F_si (List.mem_cons_self))
  obtain ⟨h14, e14⟩ : ∃ x, x = hh_si h13 a 1 13 (hh_i h13 b 13) := ⟨_, rfl⟩
  have F14 := hh_F_tr F13 (show hh_F _ h13 h14 by rw [e14]; exact hh_F_si (List.mem_cons_self))
  refine ⟨h14, sg_X2_copyFrom_0 hL kb' ka' p1 p2 p3 p4 p5 p6 (eh0 := e7) (hc0 := ?_) (eh1 := e8) (eh2 := e9) (eh3 := e10) (eh4 := e11) (eh5 := e12) (hb0 := ?_) (eh6 := e13) (hb1 := ?_) (eh7 := e14) (hr := rfl), F14, ?_⟩
  · rw [hh_F_i F7 hbn]; exact k3
  · rw [hh_F_i F12 hbn]; exact k4
  · rw [hh_F_i F13 hbn]; exact k5
  · have s7 := fun j => hh_i_sis (sl := 6) (j := j) (x := hh_i h6 b 6) p6.2 a0 (Nat.le_of_ble_eq_true rfl)
    have s8 := fun j => hh_i_sis (sl := 7) (j := j) (x := hh_i h7 b 7) L7 a0 (Nat.le_of_ble_eq_true rfl)
    have s9 := fun j => hh_i_sis (sl := 8) (j := j) (x := hh_i h8 b 8) L8 a0 (Nat.le_of_ble_eq_true rfl)
    have s10 := fun j => hh_i_sis (sl := 9) (j := j) (x := hh_i h9 b 9) L9 a0 (Nat.le_of_ble_eq_true rfl)
    have s11 := fun j => hh_i_sis (sl := 10) (j := j) (x := hh_i h10 b 10) L10 a0 (Nat.le_of_ble_eq_true rfl)
    have s12 := fun j => hh_i_sis (sl := 11) (j := j) (x := hh_i h11 b 11) L11 a0 (Nat.le_of_ble_eq_true rfl)
    have s13 := fun j => hh_i_sis (sl := 12) (j := j) (x := hh_i h12 b 12) L12 a0 (Nat.le_of_ble_eq_true rfl)
    have s14 := fun j => hh_i_sis (sl := 13) (j := j) (x := hh_i h13 b 13) L13 a0 (Nat.le_of_ble_eq_true rfl)
    rw [← e7] at s7
    rw [← e8] at s8
    rw [← e9] at s9
    rw [← e10] at s10
    rw [← e11] at s11
    rw [← e12] at s12
    rw [← e13] at s13
    rw [← e14] at s14
    have i6 : hh_i h14 a 6 = hh_i h b 6 := by rw [s14, if_neg (by decide), s13, if_neg (by decide), s12, if_neg (by decide), s11, if_neg (by decide), s10, if_neg (by decide), s9, if_neg (by decide), s8, if_neg (by decide), s7, if_pos rfl, hh_F_i F6 hbn]
    have i7 : hh_i h14 a 7 = hh_i h b 7 := by rw [s14, if_neg (by decide), s13, if_neg (by decide), s12, if_neg (by decide), s11, if_neg (by decide), s10, if_neg (by decide), s9, if_neg (by decide), s8, if_pos rfl, hh_F_i F7 hbn]
    have i8 : hh_i h14 a 8 = hh_i h b 8 := by rw [s14, if_neg (by decide), s13, if_neg (by decide), s12, if_neg (by decide), s11, if_neg (by decide), s10, if_neg (by decide), s9, if_pos rfl, hh_F_i F8 hbn]
    have i9 : hh_i h14 a 9 = hh_i h b 9 := by rw [s14, if_neg (by decide), s13, if_neg (by decide), s12, if_neg (by decide), s11, if_neg (by decide), s10, if_pos rfl, hh_F_i F9 hbn]
    have i10 : hh_i h14 a 10 = hh_i h b 10 := by rw [s14, if_neg (by decide), s13, if_neg (by decide), s12, if_neg (by decide), s11, if_pos rfl, hh_F_i F10 hbn]
    have i11 : hh_i h14 a 11 = hh_i h b 11 := by rw [s14, if_neg (by decide), s13, if_neg (by decide), s12, if_pos rfl, hh_F_i F11 hbn]
    have i12 : hh_i h14 a 12 = hh_i h b 12 := by rw [s14, if_neg (by decide), s13, if_pos rfl, hh_F_i F12 hbn]
    have i13 : hh_i h14 a 13 = hh_i h b 13 := by rw [s14, if_pos rfl, hh_F_i F13 hbn]
    have A14 : ∀ k, a ≠ k → hh_a h14 k = hh_a h6 k := fun k hk => by rw [e14, hh_a_si hk, e13, hh_a_si hk, e12, hh_a_si hk, e11, hh_a_si hk, e10, hh_a_si hk, e9, hh_a_si hk, e8, hh_a_si hk, e7, hh_a_si hk]
    have q1 : hh_a h14 (a + 1) = hh_a h (b + 1) := by rw [A14 _ (by omega), e6, hh_a_ne (by omega), e5, hh_a_ne (by omega), e4, hh_a_ne (by omega), e3, hh_a_ne (by omega), e2, hh_a_ne (by omega), e1, hh_a_eq (lt0 hL a1)]
    have q2 : hh_a h14 (a + 2) = hh_a h (b + 2) := by rw [A14 _ (by omega), e6, hh_a_ne (by omega), e5, hh_a_ne (by omega), e4, hh_a_ne (by omega), e3, hh_a_ne (by omega), e2, hh_a_eq (lt0 p1.2 a2), e1, hh_a_ne (by omega)]
    have q3 : hh_a h14 (a + 3) = hh_a h (b + 3) := by rw [A14 _ (by omega), e6, hh_a_ne (by omega), e5, hh_a_ne (by omega), e4, hh_a_ne (by omega), e3, hh_a_eq (lt0 p2.2 a3), e2, hh_a_ne (by omega), e1, hh_a_ne (by omega)]
    have q4 : hh_a h14 (a + 4) = hh_a h (b + 4) := by rw [A14 _ (by omega), e6, hh_a_ne (by omega), e5, hh_a_ne (by omega), e4, hh_a_eq (lt0 p3.2 a4), e3, hh_a_ne (by omega), e2, hh_a_ne (by omega), e1, hh_a_ne (by omega)]
    have q5 : hh_a h14 (a + 5) = hh_a h (b + 5) := by rw [A14 _ (by omega), e6, hh_a_ne (by omega), e5, hh_a_eq (lt0 p4.2 a5), e4, hh_a_ne (by omega), e3, hh_a_ne (by omega), e2, hh_a_ne (by omega), e1, hh_a_ne (by omega)]
    have q6 : hh_a h14 (a + 6) = hh_a h (b + 6) := by rw [A14 _ (by omega), e6, hh_a_eq (lt0 p5.2 a6), e5, hh_a_ne (by omega), e4, hh_a_ne (by omega), e3, hh_a_ne (by omega), e2, hh_a_ne (by omega), e1, hh_a_ne (by omega)]
    simp only [cC, q1, q2, q3, q4, q5, q6, i6, i7, i8, i9, i10, i11, i12, i13]
end
