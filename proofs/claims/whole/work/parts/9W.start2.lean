/-! THE START: constructors without a loop; laid by wip/whole/gen/gen9w.py -/
section
variable {g : tr_g} {d : Nat} {C : List ev_AC} {N u s : Nat}
theorem in_X4_init (hN : C.length = N) : tr_T (fun _ => True) g d m_X4_init 0 [some (.ref (N + 0 + 1000))] [] (C ++ [.inr (4, [.null])], u, s) (.inl none, (C ++ (.inr (4, [.ref (N + 1 + 1000)]) :: ([] ++ [.inl (0, List.replicate 140 0)])), u + 1, s + 140)) := by
  refine tr_s (.aload_n 0) 1 1 _ _ _ rfl rfl rfl ?_
  refine tr_na (.invokespecial 3) 3 10 0 0 ev_dum _ _ rfl rfl rfl rfl rfl rfl rfl ?_
  refine tr_s (.aload_n 0) 1 5 _ _ _ rfl rfl rfl ?_
  refine tr_si 140 140 rfl rfl ?_
  refine wz_new (q := 140) (j := 1) (c := .inl (0, List.replicate 140 0)) (W' := .inr (4, [.null]) :: ([] ++ [.inl (0, List.replicate 140 0)])) hN rfl rfl rfl (fun _ => rfl) rfl rfl ?_
  refine wz_pfF (i := 9) (ci := 4) (sl := 0) (j := 0) (W' := .inr (4, [.ref (N + 1 + 1000)]) :: ([] ++ [.inl (0, List.replicate 140 0)])) hN rfl rfl rfl rfl rfl (by decide) rfl rfl rfl rfl ?_
  exact tr_ret .return_ 1 none rfl rfl rfl rfl trivial rfl
theorem in_X5_init (hN : C.length = N) : tr_T (fun _ => True) g d m_X5_init 0 [some (.ref (N + 0 + 1000))] [] (C ++ [.inr (3, [.int 0, .int 0, .int 0, .int 0])], u, s) (.inl none, (C ++ (.inr (3, [.int (-1), .int (-1), .int 0, .int 0]) :: ([])), u + 0, s + 0)) := by
  refine tr_s (.aload_n 0) 1 1 _ _ _ rfl rfl rfl ?_
  refine tr_na (.invokespecial 3) 3 10 0 0 ev_dum _ _ rfl rfl rfl rfl rfl rfl rfl ?_
  refine tr_s (.aload_n 0) 1 5 _ _ _ rfl rfl rfl ?_
  refine tr_ic (-1) (-1) rfl rfl ?_
  refine wz_pf (i := 9) (ci := 3) (sl := 0) (j := 0) (W' := .inr (3, [.int (-1), .int 0, .int 0, .int 0]) :: ([])) hN rfl rfl rfl rfl rfl (by decide) rfl rfl ?_
  refine tr_s (.aload_n 0) 1 10 _ _ _ rfl rfl rfl ?_
  refine tr_ic (-1) (-1) rfl rfl ?_
  refine wz_pf (i := 15) (ci := 3) (sl := 1) (j := 0) (W' := .inr (3, [.int (-1), .int (-1), .int 0, .int 0]) :: ([])) hN rfl rfl rfl rfl rfl (by decide) rfl rfl ?_
  refine tr_s (.aload_n 0) 1 15 _ _ _ rfl rfl rfl ?_
  refine tr_ic (0) (0) rfl rfl ?_
  refine wz_pf (i := 18) (ci := 3) (sl := 2) (j := 0) (W' := .inr (3, [.int (-1), .int (-1), .int 0, .int 0]) :: ([])) hN rfl rfl rfl rfl rfl (by decide) rfl rfl ?_
  refine tr_s (.aload_n 0) 1 20 _ _ _ rfl rfl rfl ?_
  refine tr_ic (0) (0) rfl rfl ?_
  refine wz_pf (i := 21) (ci := 3) (sl := 3) (j := 0) (W' := .inr (3, [.int (-1), .int (-1), .int 0, .int 0]) :: ([])) hN rfl rfl rfl rfl rfl (by decide) rfl rfl ?_
  exact tr_ret .return_ 1 none rfl rfl rfl rfl trivial rfl
theorem in_X1_init (hN : C.length = N) : tr_T (fun _ => True) g d m_X1_init 0 [some (.ref (N + 0 + 1000))] [] (C ++ [.inr (5, [.null, .null, .int 0, .int 0])], u, s) (.inl none, (C ++ (.inr (5, [.ref (N + 1 + 1000), .ref (N + 2 + 1000), .int 0, .int 0]) :: ([] ++ [.inl (0, List.replicate 140 0)] ++ [.inl (0, List.replicate 512 0)])), u + 2, s + 652)) := by
  refine tr_s (.aload_n 0) 1 1 _ _ _ rfl rfl rfl ?_
  refine tr_na (.invokespecial 3) 3 10 0 0 ev_dum _ _ rfl rfl rfl rfl rfl rfl rfl ?_
  refine tr_s (.aload_n 0) 1 5 _ _ _ rfl rfl rfl ?_
  refine tr_si 140 140 rfl rfl ?_
  refine wz_new (q := 140) (j := 1) (c := .inl (0, List.replicate 140 0)) (W' := .inr (5, [.null, .null, .int 0, .int 0]) :: ([] ++ [.inl (0, List.replicate 140 0)])) hN rfl rfl rfl (fun _ => rfl) rfl rfl ?_
  refine wz_pfF (i := 9) (ci := 5) (sl := 0) (j := 0) (W' := .inr (5, [.ref (N + 1 + 1000), .null, .int 0, .int 0]) :: ([] ++ [.inl (0, List.replicate 140 0)])) hN rfl rfl rfl rfl rfl (by decide) rfl rfl rfl rfl ?_
  refine tr_s (.aload_n 0) 1 14 _ _ _ rfl rfl rfl ?_
  refine tr_si 512 512 rfl rfl ?_
  refine wz_new (q := 512) (j := 2) (c := .inl (0, List.replicate 512 0)) (W' := .inr (5, [.ref (N + 1 + 1000), .null, .int 0, .int 0]) :: ([] ++ [.inl (0, List.replicate 140 0)] ++ [.inl (0, List.replicate 512 0)])) hN rfl rfl rfl (fun _ => rfl) rfl rfl ?_
  refine wz_pfF (i := 15) (ci := 5) (sl := 1) (j := 0) (W' := .inr (5, [.ref (N + 1 + 1000), .ref (N + 2 + 1000), .int 0, .int 0]) :: ([] ++ [.inl (0, List.replicate 140 0)] ++ [.inl (0, List.replicate 512 0)])) hN rfl rfl rfl rfl rfl (by decide) rfl rfl rfl rfl ?_
  refine tr_s (.aload_n 0) 1 23 _ _ _ rfl rfl rfl ?_
  refine tr_ic (0) (0) rfl rfl ?_
  refine wz_pf (i := 18) (ci := 5) (sl := 2) (j := 0) (W' := .inr (5, [.ref (N + 1 + 1000), .ref (N + 2 + 1000), .int 0, .int 0]) :: ([] ++ [.inl (0, List.replicate 140 0)] ++ [.inl (0, List.replicate 512 0)])) hN rfl rfl rfl rfl rfl (by decide) rfl rfl ?_
  refine tr_s (.aload_n 0) 1 28 _ _ _ rfl rfl rfl ?_
  refine tr_ic (0) (0) rfl rfl ?_
  refine wz_pf (i := 22) (ci := 5) (sl := 3) (j := 0) (W' := .inr (5, [.ref (N + 1 + 1000), .ref (N + 2 + 1000), .int 0, .int 0]) :: ([] ++ [.inl (0, List.replicate 140 0)] ++ [.inl (0, List.replicate 512 0)])) hN rfl rfl rfl rfl rfl (by decide) rfl rfl ?_
  exact tr_ret .return_ 1 none rfl rfl rfl rfl trivial rfl
theorem in_X7_init (hN : C.length = N) : tr_T (fun _ => True) g d m_X7_init 0 [some (.ref (N + 0 + 1000))] [] (C ++ [.inr (6, [.null, .null, .null, .int 0])], u, s) (.inl none, (C ++ (.inr (6, [.ref (N + 1 + 1000), .ref (N + 2 + 1000), .ref (N + 3 + 1000), .int 0]) :: ([] ++ [.inl (0, List.replicate 16 0)] ++ [.inl (0, List.replicate 16 0)] ++ [.inl (0, List.replicate 4 0)])), u + 3, s + 36)) := by
  refine tr_s (.aload_n 0) 1 1 _ _ _ rfl rfl rfl ?_
  refine tr_na (.invokespecial 3) 3 10 0 0 ev_dum _ _ rfl rfl rfl rfl rfl rfl rfl ?_
  refine tr_s (.aload_n 0) 1 5 _ _ _ rfl rfl rfl ?_
  refine tr_bi 16 16 rfl rfl ?_
  refine wz_new (q := 16) (j := 1) (c := .inl (0, List.replicate 16 0)) (W' := .inr (6, [.null, .null, .null, .int 0]) :: ([] ++ [.inl (0, List.replicate 16 0)])) hN rfl rfl rfl (fun _ => rfl) rfl rfl ?_
  refine wz_pfF (i := 9) (ci := 6) (sl := 0) (j := 0) (W' := .inr (6, [.ref (N + 1 + 1000), .null, .null, .int 0]) :: ([] ++ [.inl (0, List.replicate 16 0)])) hN rfl rfl rfl rfl rfl (by decide) rfl rfl rfl rfl ?_
  refine tr_s (.aload_n 0) 1 13 _ _ _ rfl rfl rfl ?_
  refine tr_bi 16 16 rfl rfl ?_
  refine wz_new (q := 16) (j := 2) (c := .inl (0, List.replicate 16 0)) (W' := .inr (6, [.ref (N + 1 + 1000), .null, .null, .int 0]) :: ([] ++ [.inl (0, List.replicate 16 0)] ++ [.inl (0, List.replicate 16 0)])) hN rfl rfl rfl (fun _ => rfl) rfl rfl ?_
  refine wz_pfF (i := 15) (ci := 6) (sl := 1) (j := 0) (W' := .inr (6, [.ref (N + 1 + 1000), .ref (N + 2 + 1000), .null, .int 0]) :: ([] ++ [.inl (0, List.replicate 16 0)] ++ [.inl (0, List.replicate 16 0)])) hN rfl rfl rfl rfl rfl (by decide) rfl rfl rfl rfl ?_
  refine tr_s (.aload_n 0) 1 21 _ _ _ rfl rfl rfl ?_
  refine tr_ic (4) (4) rfl rfl ?_
  refine wz_new (q := 4) (j := 3) (c := .inl (0, List.replicate 4 0)) (W' := .inr (6, [.ref (N + 1 + 1000), .ref (N + 2 + 1000), .null, .int 0]) :: ([] ++ [.inl (0, List.replicate 16 0)] ++ [.inl (0, List.replicate 16 0)] ++ [.inl (0, List.replicate 4 0)])) hN rfl rfl rfl (fun _ => rfl) rfl rfl ?_
  refine wz_pfF (i := 18) (ci := 6) (sl := 2) (j := 0) (W' := .inr (6, [.ref (N + 1 + 1000), .ref (N + 2 + 1000), .ref (N + 3 + 1000), .int 0]) :: ([] ++ [.inl (0, List.replicate 16 0)] ++ [.inl (0, List.replicate 16 0)] ++ [.inl (0, List.replicate 4 0)])) hN rfl rfl rfl rfl rfl (by decide) rfl rfl rfl rfl ?_
  refine tr_s (.aload_n 0) 1 28 _ _ _ rfl rfl rfl ?_
  refine tr_ic (0) (0) rfl rfl ?_
  refine wz_pf (i := 21) (ci := 6) (sl := 3) (j := 0) (W' := .inr (6, [.ref (N + 1 + 1000), .ref (N + 2 + 1000), .ref (N + 3 + 1000), .int 0]) :: ([] ++ [.inl (0, List.replicate 16 0)] ++ [.inl (0, List.replicate 16 0)] ++ [.inl (0, List.replicate 4 0)])) hN rfl rfl rfl rfl rfl (by decide) rfl rfl ?_
  exact tr_ret .return_ 1 none rfl rfl rfl rfl trivial rfl
end
