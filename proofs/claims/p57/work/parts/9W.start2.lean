/-! THE START: constructors without a loop; laid by wip/whole/gen/gen9w.py -/
theorem wz_ok {ty : FieldType} {v : Value} (h1 : narrow ty v = v) (h2 : fits ty v = true) : ev_okv ty v = true := by
  unfold ev_okv
  rw [decide_eq_true h1, h2]
  rfl
section
variable {g : tr_g} {d : Nat} {C : List ev_AC} {N u s : Nat}
theorem in_X4_init (hN : C.length = N) : tr_T (fun _ => True) g d m_X4_init 0 [some (.ref (N + 0 + 1000))] [] (C ++ [.inr (4, [.null])], u, s) (.inl none, (C ++ (.inr (4, [.ref (N + 1 + 1000)]) :: ([] ++ [.inl (0, List.replicate 140 0)])), u + 1, s + 140)) := by
  refine tr_s (.aload_n 0) 1 1 _ _ _ rfl rfl rfl ?_
  refine tr_na (.invokespecial 3) 3 10 0 0 ev_dum _ _ rfl rfl rfl rfl rfl rfl rfl ?_
  refine tr_s (.aload_n 0) 1 5 _ _ _ rfl rfl rfl ?_
  refine tr_si 140 140 rfl rfl ?_
  refine wz_new (q := 140) (j := 1) (c := .inl (0, List.replicate 140 0)) (W' := .inr (4, [.null]) :: ([] ++ [.inl (0, List.replicate 140 0)])) hN rfl rfl rfl (fun _ => rfl) rfl rfl ?_
  refine wz_pfF (i := 9) (ci := 4) (sl := 0) (j := 0) (W' := .inr (4, [.ref (N + 1 + 1000)]) :: ([] ++ [.inl (0, List.replicate 140 0)])) hN rfl rfl rfl rfl rfl (by show 0 < 1; decide) (wz_ok rfl rfl) rfl rfl rfl ?_
  exact tr_ret .return_ 1 none rfl rfl rfl rfl trivial rfl
theorem in_X5_init (hN : C.length = N) : tr_T (fun _ => True) g d m_X5_init 0 [some (.ref (N + 0 + 1000))] [] (C ++ [.inr (3, [.int 0, .int 0, .int 0, .int 0])], u, s) (.inl none, (C ++ (.inr (3, [.int (-1), .int (-1), .int 0, .int 0]) :: ([])), u + 0, s + 0)) := by
  refine tr_s (.aload_n 0) 1 1 _ _ _ rfl rfl rfl ?_
  refine tr_na (.invokespecial 3) 3 10 0 0 ev_dum _ _ rfl rfl rfl rfl rfl rfl rfl ?_
  refine tr_s (.aload_n 0) 1 5 _ _ _ rfl rfl rfl ?_
  refine tr_ic (-1) (-1) rfl rfl ?_
  refine wz_pf (i := 9) (ci := 3) (sl := 0) (j := 0) (W' := .inr (3, [.int (-1), .int 0, .int 0, .int 0]) :: ([])) hN rfl rfl rfl rfl rfl (by show 0 < 4; decide) (wz_ok rfl rfl) rfl ?_
  refine tr_s (.aload_n 0) 1 10 _ _ _ rfl rfl rfl ?_
  refine tr_ic (-1) (-1) rfl rfl ?_
  refine wz_pf (i := 15) (ci := 3) (sl := 1) (j := 0) (W' := .inr (3, [.int (-1), .int (-1), .int 0, .int 0]) :: ([])) hN rfl rfl rfl rfl rfl (by show 1 < 4; decide) (wz_ok rfl rfl) rfl ?_
  refine tr_s (.aload_n 0) 1 15 _ _ _ rfl rfl rfl ?_
  refine tr_ic (0) (0) rfl rfl ?_
  refine wz_pf (i := 18) (ci := 3) (sl := 2) (j := 0) (W' := .inr (3, [.int (-1), .int (-1), .int 0, .int 0]) :: ([])) hN rfl rfl rfl rfl rfl (by show 2 < 4; decide) (wz_ok rfl rfl) rfl ?_
  refine tr_s (.aload_n 0) 1 20 _ _ _ rfl rfl rfl ?_
  refine tr_ic (0) (0) rfl rfl ?_
  refine wz_pf (i := 21) (ci := 3) (sl := 3) (j := 0) (W' := .inr (3, [.int (-1), .int (-1), .int 0, .int 0]) :: ([])) hN rfl rfl rfl rfl rfl (by show 3 < 4; decide) (wz_ok rfl rfl) rfl ?_
  exact tr_ret .return_ 1 none rfl rfl rfl rfl trivial rfl
theorem in_X1_init (hN : C.length = N) : tr_T (fun _ => True) g d m_X1_init 0 [some (.ref (N + 0 + 1000))] [] (C ++ [.inr (5, [.null, .null, .int 0, .int 0])], u, s) (.inl none, (C ++ (.inr (5, [.ref (N + 1 + 1000), .ref (N + 2 + 1000), .int 0, .int 0]) :: ([] ++ [.inl (0, List.replicate 140 0)] ++ [.inl (0, List.replicate 512 0)])), u + 2, s + 652)) := by
  refine tr_s (.aload_n 0) 1 1 _ _ _ rfl rfl rfl ?_
  refine tr_na (.invokespecial 3) 3 10 0 0 ev_dum _ _ rfl rfl rfl rfl rfl rfl rfl ?_
  refine tr_s (.aload_n 0) 1 5 _ _ _ rfl rfl rfl ?_
  refine tr_si 140 140 rfl rfl ?_
  refine wz_new (q := 140) (j := 1) (c := .inl (0, List.replicate 140 0)) (W' := .inr (5, [.null, .null, .int 0, .int 0]) :: ([] ++ [.inl (0, List.replicate 140 0)])) hN rfl rfl rfl (fun _ => rfl) rfl rfl ?_
  refine wz_pfF (i := 9) (ci := 5) (sl := 0) (j := 0) (W' := .inr (5, [.ref (N + 1 + 1000), .null, .int 0, .int 0]) :: ([] ++ [.inl (0, List.replicate 140 0)])) hN rfl rfl rfl rfl rfl (by show 0 < 4; decide) (wz_ok rfl rfl) rfl rfl rfl ?_
  refine tr_s (.aload_n 0) 1 14 _ _ _ rfl rfl rfl ?_
  refine tr_si 512 512 rfl rfl ?_
  refine wz_new (q := 512) (j := 2) (c := .inl (0, List.replicate 512 0)) (W' := .inr (5, [.ref (N + 1 + 1000), .null, .int 0, .int 0]) :: ([] ++ [.inl (0, List.replicate 140 0)] ++ [.inl (0, List.replicate 512 0)])) hN rfl rfl rfl (fun _ => rfl) rfl rfl ?_
  refine wz_pfF (i := 15) (ci := 5) (sl := 1) (j := 0) (W' := .inr (5, [.ref (N + 1 + 1000), .ref (N + 2 + 1000), .int 0, .int 0]) :: ([] ++ [.inl (0, List.replicate 140 0)] ++ [.inl (0, List.replicate 512 0)])) hN rfl rfl rfl rfl rfl (by show 1 < 4; decide) (wz_ok rfl rfl) rfl rfl rfl ?_
  refine tr_s (.aload_n 0) 1 23 _ _ _ rfl rfl rfl ?_
  refine tr_ic (0) (0) rfl rfl ?_
  refine wz_pf (i := 18) (ci := 5) (sl := 2) (j := 0) (W' := .inr (5, [.ref (N + 1 + 1000), .ref (N + 2 + 1000), .int 0, .int 0]) :: ([] ++ [.inl (0, List.replicate 140 0)] ++ [.inl (0, List.replicate 512 0)])) hN rfl rfl rfl rfl rfl (by show 2 < 4; decide) (wz_ok rfl rfl) rfl ?_
  refine tr_s (.aload_n 0) 1 28 _ _ _ rfl rfl rfl ?_
  refine tr_ic (0) (0) rfl rfl ?_
  refine wz_pf (i := 22) (ci := 5) (sl := 3) (j := 0) (W' := .inr (5, [.ref (N + 1 + 1000), .ref (N + 2 + 1000), .int 0, .int 0]) :: ([] ++ [.inl (0, List.replicate 140 0)] ++ [.inl (0, List.replicate 512 0)])) hN rfl rfl rfl rfl rfl (by show 3 < 4; decide) (wz_ok rfl rfl) rfl ?_
  exact tr_ret .return_ 1 none rfl rfl rfl rfl trivial rfl
theorem in_X7_init (hN : C.length = N) : tr_T (fun _ => True) g d m_X7_init 0 [some (.ref (N + 0 + 1000))] [] (C ++ [.inr (6, [.null, .null, .null, .int 0])], u, s) (.inl none, (C ++ (.inr (6, [.ref (N + 1 + 1000), .ref (N + 2 + 1000), .ref (N + 3 + 1000), .int 0]) :: ([] ++ [.inl (0, List.replicate 16 0)] ++ [.inl (0, List.replicate 16 0)] ++ [.inl (0, List.replicate 4 0)])), u + 3, s + 36)) := by
  refine tr_s (.aload_n 0) 1 1 _ _ _ rfl rfl rfl ?_
  refine tr_na (.invokespecial 3) 3 10 0 0 ev_dum _ _ rfl rfl rfl rfl rfl rfl rfl ?_
  refine tr_s (.aload_n 0) 1 5 _ _ _ rfl rfl rfl ?_
  refine tr_bi 16 16 rfl rfl ?_
  refine wz_new (q := 16) (j := 1) (c := .inl (0, List.replicate 16 0)) (W' := .inr (6, [.null, .null, .null, .int 0]) :: ([] ++ [.inl (0, List.replicate 16 0)])) hN rfl rfl rfl (fun _ => rfl) rfl rfl ?_
  refine wz_pfF (i := 9) (ci := 6) (sl := 0) (j := 0) (W' := .inr (6, [.ref (N + 1 + 1000), .null, .null, .int 0]) :: ([] ++ [.inl (0, List.replicate 16 0)])) hN rfl rfl rfl rfl rfl (by show 0 < 4; decide) (wz_ok rfl rfl) rfl rfl rfl ?_
  refine tr_s (.aload_n 0) 1 13 _ _ _ rfl rfl rfl ?_
  refine tr_bi 16 16 rfl rfl ?_
  refine wz_new (q := 16) (j := 2) (c := .inl (0, List.replicate 16 0)) (W' := .inr (6, [.ref (N + 1 + 1000), .null, .null, .int 0]) :: ([] ++ [.inl (0, List.replicate 16 0)] ++ [.inl (0, List.replicate 16 0)])) hN rfl rfl rfl (fun _ => rfl) rfl rfl ?_
  refine wz_pfF (i := 15) (ci := 6) (sl := 1) (j := 0) (W' := .inr (6, [.ref (N + 1 + 1000), .ref (N + 2 + 1000), .null, .int 0]) :: ([] ++ [.inl (0, List.replicate 16 0)] ++ [.inl (0, List.replicate 16 0)])) hN rfl rfl rfl rfl rfl (by show 1 < 4; decide) (wz_ok rfl rfl) rfl rfl rfl ?_
  refine tr_s (.aload_n 0) 1 21 _ _ _ rfl rfl rfl ?_
  refine tr_ic (4) (4) rfl rfl ?_
  refine wz_new (q := 4) (j := 3) (c := .inl (0, List.replicate 4 0)) (W' := .inr (6, [.ref (N + 1 + 1000), .ref (N + 2 + 1000), .null, .int 0]) :: ([] ++ [.inl (0, List.replicate 16 0)] ++ [.inl (0, List.replicate 16 0)] ++ [.inl (0, List.replicate 4 0)])) hN rfl rfl rfl (fun _ => rfl) rfl rfl ?_
  refine wz_pfF (i := 18) (ci := 6) (sl := 2) (j := 0) (W' := .inr (6, [.ref (N + 1 + 1000), .ref (N + 2 + 1000), .ref (N + 3 + 1000), .int 0]) :: ([] ++ [.inl (0, List.replicate 16 0)] ++ [.inl (0, List.replicate 16 0)] ++ [.inl (0, List.replicate 4 0)])) hN rfl rfl rfl rfl rfl (by show 2 < 4; decide) (wz_ok rfl rfl) rfl rfl rfl ?_
  refine tr_s (.aload_n 0) 1 28 _ _ _ rfl rfl rfl ?_
  refine tr_ic (0) (0) rfl rfl ?_
  refine wz_pf (i := 21) (ci := 6) (sl := 3) (j := 0) (W' := .inr (6, [.ref (N + 1 + 1000), .ref (N + 2 + 1000), .ref (N + 3 + 1000), .int 0]) :: ([] ++ [.inl (0, List.replicate 16 0)] ++ [.inl (0, List.replicate 16 0)] ++ [.inl (0, List.replicate 4 0)])) hN rfl rfl rfl rfl rfl (by show 3 < 4; decide) (wz_ok rfl rfl) rfl ?_
  exact tr_ret .return_ 1 none rfl rfl rfl rfl trivial rfl
theorem in_J5_init_d00df (hN : C.length = N) : tr_T (fun _ => True) g d m_J5_init_d00df 0 [some (.ref (N + 0 + 1000)), some (.int 16)] [] (C ++ [.inr (9, [.null, .int 0, .int 0, .int 0])], u, s) (.inl none, (C ++ (.inr (9, [.ref (N + 1 + 1000), .int 0, .int 0, .int 0]) :: ([] ++ [.inl (2, List.replicate 16 0)])), u + 1, s + 16)) := by
  refine tr_s (.aload_n 0) 1 1 _ _ _ rfl rfl rfl ?_
  refine tr_na (.invokespecial 3) 3 10 0 0 ev_dum _ _ rfl rfl rfl rfl rfl rfl rfl ?_
  refine tr_s (.getstatic 18) 3 7 _ _ _ rfl rfl rfl ?_
  refine tr_if1 .eq 18 25 (1) rfl rfl rfl (fun hc => absurd hc (by decide)) (fun _ => ?_)
  refine tr_s (.aload_n 0) 1 11 _ _ _ rfl rfl rfl ?_
  refine tr_s (.iload_n 1) 1 12 _ _ _ rfl rfl rfl ?_
  refine wz_new (q := 16) (j := 1) (c := .inl (2, List.replicate 16 0)) (W' := .inr (9, [.null, .int 0, .int 0, .int 0]) :: ([] ++ [.inl (2, List.replicate 16 0)])) hN rfl rfl rfl (fun _ => rfl) rfl rfl ?_
  refine wz_pf (i := 15) (ci := 9) (sl := 0) (j := 0) (W' := .inr (9, [.ref (N + 1 + 1000), .int 0, .int 0, .int 0]) :: ([] ++ [.inl (2, List.replicate 16 0)])) hN rfl rfl rfl rfl rfl (by show 0 < 4; decide) (wz_ok rfl rfl) rfl ?_
  refine tr_s (.aload_n 0) 1 18 _ _ _ rfl rfl rfl ?_
  refine tr_ic (0) (0) rfl rfl ?_
  refine wz_pf (i := 22) (ci := 9) (sl := 1) (j := 0) (W' := .inr (9, [.ref (N + 1 + 1000), .int 0, .int 0, .int 0]) :: ([] ++ [.inl (2, List.replicate 16 0)])) hN rfl rfl rfl rfl rfl (by show 1 < 4; decide) (wz_ok rfl rfl) rfl ?_
  refine tr_goto (16) 38 rfl rfl rfl ?_
  exact tr_ret .return_ 1 none rfl rfl rfl rfl trivial rfl
theorem in_J4_init_da8c8 (hN : C.length = N) : tr_T (fun _ => True) g (d + 1) m_J4_init_da8c8 0 [some (.ref (N + 0 + 1000))] [] (C ++ [.inr (9, [.null, .int 0, .int 0, .int 0])], u, s) (.inl none, (C ++ (.inr (9, [.ref (N + 1 + 1000), .int 0, .int 0, .int 0]) :: ([] ++ [.inl (2, List.replicate 16 0)])), u + 1, s + 16)) := by
  refine tr_s (.aload_n 0) 1 1 _ _ _ rfl rfl rfl ?_
  refine tr_bi 16 16 rfl rfl ?_
  have c3 := in_J5_init_d00df (g := g) (d := d) (C := C) (N := N) (u := u + 0) (s := s + 0) hN
  refine tr_call (.invokespecial 1) 1 4 1 0 m_J5_init_d00df [.ref (N + 0 + 1000), .int 16] [] none (C ++ (.inr (9, [.ref (N + 1 + 1000), .int 0, .int 0, .int 0]) :: ([] ++ [.inl (2, List.replicate 16 0)])), u + 1, s + 16) rfl rfl rfl rfl rfl rfl rfl rfl rfl (tr_cok rfl (Or.inr ⟨_, _, rfl, tr_rcI rfl⟩)) c3 ?_
  exact tr_ret .return_ 1 none rfl rfl rfl rfl trivial rfl
theorem in_X6_init (hN : C.length = N) : tr_T (fun _ => True) g (d + 2) m_X6_init 0 [some (.ref (N + 0 + 1000))] [] (C ++ [.inr (7, [.null, .int 0, .int 0, .int 0, .int 0, .int 0, .int 0])], u, s) (.inl none, (C ++ (.inr (7, [.ref (N + 1 + 1000), .int 0, .int 4, .int 0, .int 0, .int 0, .int 0]) :: ([] ++ (.inr (9, [.ref (N + 1 + 1 + 1000), .int 0, .int 0, .int 0]) :: ([] ++ [.inl (2, List.replicate 16 0)])))), u + 2, s + 20)) := by
  refine tr_s (.aload_n 0) 1 1 _ _ _ rfl rfl rfl ?_
  refine tr_na (.invokespecial 3) 3 10 0 0 ev_dum _ _ rfl rfl rfl rfl rfl rfl rfl ?_
  refine tr_s (.aload_n 0) 1 5 _ _ _ rfl rfl rfl ?_
  refine wz_new (q := 4) (j := 1) (c := .inr (9, [.null, .int 0, .int 0, .int 0])) (W' := .inr (7, [.null, .int 0, .int 0, .int 0, .int 0, .int 0, .int 0]) :: ([] ++ [.inr (9, [.null, .int 0, .int 0, .int 0])])) hN rfl rfl rfl (fun _ => rfl) rfl rfl ?_
  refine tr_s .dup 1 9 _ _ _ rfl rfl rfl ?_
  have c9 := in_J4_init_da8c8 (g := g) (d := d) (C := C ++ (.inr (7, [.null, .int 0, .int 0, .int 0, .int 0, .int 0, .int 0]) :: ([]))) (N := N + 1) (u := u + 1) (s := s + 4) (by rw [List.length_append, hN]; rfl)
  rw [List.append_assoc C, List.append_assoc C] at c9
  refine tr_call (.invokespecial 11) 11 4 0 0 m_J4_init_da8c8 [.ref (N + 1 + 1000)] [.ref (N + 1 + 1000), .ref (N + 0 + 1000)] none (C ++ (.inr (7, [.null, .int 0, .int 0, .int 0, .int 0, .int 0, .int 0]) :: ([] ++ (.inr (9, [.ref (N + 1 + 1 + 1000), .int 0, .int 0, .int 0]) :: ([] ++ [.inl (2, List.replicate 16 0)])))), u + 2, s + 20) rfl rfl rfl rfl rfl rfl rfl rfl rfl (tr_cok rfl (Or.inr ⟨_, _, rfl, tr_rcI rfl⟩)) c9 ?_
  refine wz_pfF (i := 12) (ci := 7) (sl := 0) (j := 0) (W' := .inr (7, [.ref (N + 1 + 1000), .int 0, .int 0, .int 0, .int 0, .int 0, .int 0]) :: ([] ++ (.inr (9, [.ref (N + 1 + 1 + 1000), .int 0, .int 0, .int 0]) :: ([] ++ [.inl (2, List.replicate 16 0)])))) hN rfl rfl rfl rfl rfl (by show 0 < 7; decide) (wz_ok rfl rfl) rfl rfl rfl ?_
  refine tr_s (.aload_n 0) 1 16 _ _ _ rfl rfl rfl ?_
  refine tr_ic (0) (0) rfl rfl ?_
  refine wz_pf (i := 18) (ci := 7) (sl := 1) (j := 0) (W' := .inr (7, [.ref (N + 1 + 1000), .int 0, .int 0, .int 0, .int 0, .int 0, .int 0]) :: ([] ++ (.inr (9, [.ref (N + 1 + 1 + 1000), .int 0, .int 0, .int 0]) :: ([] ++ [.inl (2, List.replicate 16 0)])))) hN rfl rfl rfl rfl rfl (by show 1 < 7; decide) (wz_ok rfl rfl) rfl ?_
  refine tr_s (.aload_n 0) 1 21 _ _ _ rfl rfl rfl ?_
  refine tr_ic (4) (4) rfl rfl ?_
  refine wz_pf (i := 22) (ci := 7) (sl := 2) (j := 0) (W' := .inr (7, [.ref (N + 1 + 1000), .int 0, .int 4, .int 0, .int 0, .int 0, .int 0]) :: ([] ++ (.inr (9, [.ref (N + 1 + 1 + 1000), .int 0, .int 0, .int 0]) :: ([] ++ [.inl (2, List.replicate 16 0)])))) hN rfl rfl rfl rfl rfl (by show 2 < 7; decide) (wz_ok rfl rfl) rfl ?_
  refine tr_s (.aload_n 0) 1 26 _ _ _ rfl rfl rfl ?_
  refine tr_ic (0) (0) rfl rfl ?_
  refine wz_pf (i := 25) (ci := 7) (sl := 3) (j := 0) (W' := .inr (7, [.ref (N + 1 + 1000), .int 0, .int 4, .int 0, .int 0, .int 0, .int 0]) :: ([] ++ (.inr (9, [.ref (N + 1 + 1 + 1000), .int 0, .int 0, .int 0]) :: ([] ++ [.inl (2, List.replicate 16 0)])))) hN rfl rfl rfl rfl rfl (by show 3 < 7; decide) (wz_ok rfl rfl) rfl ?_
  refine tr_s (.aload_n 0) 1 31 _ _ _ rfl rfl rfl ?_
  refine tr_ic (0) (0) rfl rfl ?_
  refine wz_pf (i := 28) (ci := 7) (sl := 4) (j := 0) (W' := .inr (7, [.ref (N + 1 + 1000), .int 0, .int 4, .int 0, .int 0, .int 0, .int 0]) :: ([] ++ (.inr (9, [.ref (N + 1 + 1 + 1000), .int 0, .int 0, .int 0]) :: ([] ++ [.inl (2, List.replicate 16 0)])))) hN rfl rfl rfl rfl rfl (by show 4 < 7; decide) (wz_ok rfl rfl) rfl ?_
  refine tr_s (.aload_n 0) 1 36 _ _ _ rfl rfl rfl ?_
  refine tr_ic (0) (0) rfl rfl ?_
  refine wz_pf (i := 32) (ci := 7) (sl := 5) (j := 0) (W' := .inr (7, [.ref (N + 1 + 1000), .int 0, .int 4, .int 0, .int 0, .int 0, .int 0]) :: ([] ++ (.inr (9, [.ref (N + 1 + 1 + 1000), .int 0, .int 0, .int 0]) :: ([] ++ [.inl (2, List.replicate 16 0)])))) hN rfl rfl rfl rfl rfl (by show 5 < 7; decide) (wz_ok rfl rfl) rfl ?_
  refine tr_s (.aload_n 0) 1 41 _ _ _ rfl rfl rfl ?_
  refine tr_ic (0) (0) rfl rfl ?_
  refine wz_pf (i := 35) (ci := 7) (sl := 6) (j := 0) (W' := .inr (7, [.ref (N + 1 + 1000), .int 0, .int 4, .int 0, .int 0, .int 0, .int 0]) :: ([] ++ (.inr (9, [.ref (N + 1 + 1 + 1000), .int 0, .int 0, .int 0]) :: ([] ++ [.inl (2, List.replicate 16 0)])))) hN rfl rfl rfl rfl rfl (by show 6 < 7; decide) (wz_ok rfl rfl) rfl ?_
  exact tr_ret .return_ 1 none rfl rfl rfl rfl trivial rfl
end
