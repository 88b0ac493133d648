/-! THE START: the law up to its loop -/
section
variable {P : ev_AH → Prop} {g : tr_g} {d : Nat} {r : ev_O × ev_AH} {C : List ev_AC} {u s : Nat}
def mod0 (N : Nat) : List ev_AC := .inr (8, [.ref (N + 1 + 1000), .ref (N + 2 + 1000), .ref (N + 3 + 1000), .ref (N + 4 + 1000), .ref (N + 5 + 1000), .ref (N + 6 + 1000), .int 0, .int 0, .int (-1), .int 0, .int 0, .int 0, .int 0, .int 0, .int 0, .int 0, .int 0, .int 0, .int 0, .int 0, .int 0, .ref (N + 7 + 1000), .int 0, .ref (N + 8 + 1000), .ref (N + 9 + 1000), .int 0, .int 0, .int 0]) :: ([] ++ [.inl (0, (List.replicate 124 0).set 0 112)] ++ [.inl (0, List.replicate 124 0)] ++ [.inl (0, List.replicate 124 0)] ++ [.inl (0, List.replicate 992 0)] ++ [.inl (0, List.replicate 140 0)] ++ [.inl (0, List.replicate 16 0)] ++ [.inl (0, List.replicate 30 0)] ++ [.inl (0, List.replicate 60 0)] ++ [.inl (0, List.replicate 155 0)])
theorem law_s1 (hN : C.length = 99) (k : tr_T P g (d + 4) m_law 16 [some (.ref 0), some (.ref 1000), some (.ref 1099), none, none, none, none, none, none] [] (C ++ mod0 99, u + 10, s + 1793) r) : tr_T P g (d + 4) m_law 8 [some (.ref 0), some (.ref 1000), none, none, none, none, none, none, none] [] (C, u, s) r := by
  have e : (C, u, s) = (C ++ [], u, s) := by rw [List.append_nil]
  rw [e]
  refine wz_new (C := C) (N := 99) (W := []) (q := 28) (j := 0) (c := .inr (8, [.null, .null, .null, .null, .null, .null, .int 0, .int 0, .int 0, .int 0, .int 0, .int 0, .int 0, .int 0, .int 0, .int 0, .int 0, .int 0, .int 0, .int 0, .int 0, .null, .int 0, .null, .null, .int 0, .int 0, .int 0])) (W' := [.inr (8, [.null, .null, .null, .null, .null, .null, .int 0, .int 0, .int 0, .int 0, .int 0, .int 0, .int 0, .int 0, .int 0, .int 0, .int 0, .int 0, .int 0, .int 0, .int 0, .null, .int 0, .null, .null, .int 0, .int 0, .int 0])]) hN rfl rfl rfl (fun _ => rfl) rfl rfl ?_
  refine tr_s .dup 1 12 _ _ _ rfl rfl rfl ?_
  have c1 := in_X9_init (g := g) (d := d + 3) (C := C) (N := 99) (u := u + 1) (s := s + 28) hN
  refine tr_call (.invokespecial 173) 173 4 0 0 m_X9_init [.ref (99 + 0 + 1000)] [.ref (99 + 0 + 1000)] none (C ++ mod0 99, u + 10, s + 1793) rfl rfl rfl rfl rfl rfl rfl rfl rfl (tr_cok rfl (Or.inr ⟨_, _, rfl, tr_rcI rfl⟩)) c1 ?_
  refine tr_st (.astore_n 2) 1 2 1 (.ref 1099) rfl rfl rfl rfl rfl rfl rfl ?_
  exact k
theorem law_s2 {W : List ev_AC} (hN : C.length = 99) (hW : W.length = 10) (k : tr_T P g d m_law 28 [some (.ref 0), some (.ref 1000), some (.ref 1099), some (.ref 1109), some (.ref 1110), some (.int 0), none, none, none] [] (C ++ (W ++ [.inr (100, [.long 0])] ++ [.inr (101, [.double 0])]), u + 2, s + 2) r) : tr_T P g d m_law 16 [some (.ref 0), some (.ref 1000), some (.ref 1099), none, none, none, none, none, none] [] (C ++ W, u, s) r := by
  refine tr_ic 1 1 rfl rfl ?_
  refine wz_new (q := 1) (j := 10) (c := .inr (100, [.long 0])) (W' := W ++ [.inr (100, [.long 0])]) hN rfl rfl rfl (fun _ => rfl) hW rfl ?_
  refine tr_st (.astore_n 3) 1 3 1 (.ref 1109) rfl rfl rfl rfl rfl rfl rfl ?_
  refine tr_ic 1 1 rfl rfl ?_
  refine wz_new (q := 1) (j := 11) (c := .inr (101, [.double 0])) (W' := W ++ [.inr (100, [.long 0])] ++ [.inr (101, [.double 0])]) hN rfl rfl rfl (fun _ => rfl) (by simp [hW]) rfl ?_
  refine tr_st (.astore 4) 2 4 1 (.ref 1110) rfl rfl rfl rfl rfl rfl rfl ?_
  refine tr_ic 0 0 rfl rfl ?_
  refine tr_st (.istore 5) 2 5 0 (.int 0) rfl rfl rfl rfl rfl rfl rfl ?_
  exact k
def hs0 : List ev_AC := cls0 0 ++ (mod0 99 ++ [.inr (100, [.long 0])] ++ [.inr (101, [.double 0])])
theorem cls0_len {N : Nat} : (cls0 N).length = 99 := by simp [cls0, crt0_len, his0_len, -List.reduceReplicate]
theorem law_start (k : tr_T P g (d + 4) m_law 28 [some (.ref 0), some (.ref 1000), some (.ref 1099), some (.ref 1109), some (.ref 1110), some (.int 0), none, none, none] [] (hs0, 111, 4810) r) : tr_T P g (d + 4) m_law 0 [some (.ref 0), none, none, none, none, none, none, none, none] [] ([], 0, 0) r := by
  have hN : ([] : List ev_AC).length = 0 := rfl
  refine wz_new (C := []) (N := 0) (W := []) (q := 16) (j := 0) (c := .inr (0, [.null, .null, .null, .null, .null, .null, .null, .null, .null, .null, .null, .int 0, .int 0, .int 0, .int 0, .int 0])) (W' := [.inr (0, [.null, .null, .null, .null, .null, .null, .null, .null, .null, .null, .null, .int 0, .int 0, .int 0, .int 0, .int 0])]) hN rfl rfl rfl (fun _ => rfl) rfl rfl ?_
  refine tr_s .dup 1 4 _ _ _ rfl rfl rfl ?_
  have c1 := in_X8_init (g := g) (d := d) (C := []) (N := 0) (u := 0 + 1) (s := 0 + 16) hN
  refine tr_call (.invokespecial 170) 170 4 0 0 m_X8_init [.ref (0 + 0 + 1000)] [.ref (0 + 0 + 1000)] none (cls0 0, 99, 3015) rfl rfl rfl rfl rfl rfl rfl rfl rfl (tr_cok rfl (Or.inr ⟨_, _, rfl, tr_rcI rfl⟩)) c1 ?_
  refine tr_st (.astore_n 1) 1 1 1 (.ref 1000) rfl rfl rfl rfl rfl rfl rfl ?_
  refine law_s1 (d := d) cls0_len ?_
  refine law_s2 (d := d + 4) cls0_len rfl ?_
  exact k
end
