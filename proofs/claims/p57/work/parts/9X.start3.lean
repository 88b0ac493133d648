/-! THE START: a court, empty; laid by wip/whole/gen/gen9x.py -/
def crt0 (N : Nat) : List ev_AC := [.inr (1, [.ref (N + 1 + 1000), .ref (N + 2 + 1000), .ref (N + 3 + 1000), .ref (N + 4 + 1000), .ref (N + 5 + 1000), .ref (N + 6 + 1000), .int 0, .int 112, .int 0, .int 0, .int 0, .int 0, .int 0, .int 0]), .inl (1, List.replicate 35 46), .inl (0, List.replicate 7 0), .inl (0, List.replicate 28 0), .inl (0, List.replicate 28 0), .inl (0, List.replicate 7 0), .inl (1, List.replicate 10 0)]
theorem fill_set {j m : Nat} : (List.replicate j (46 : Int32) ++ List.replicate (m + 1) 0).set j 46 = List.replicate (j + 1) 46 ++ List.replicate m 0 := by
  rw [List.set_append_right _ _ (by simp), List.length_replicate, Nat.sub_self, List.replicate_succ' (n := j), List.append_assoc]
  rfl
section
variable {g : tr_g} {d : Nat} {C : List ev_AC} {N u s : Nat}
theorem lp_X2 {vs : List Value} {R : List ev_AC} (hN : C.length = N) (hv : vs[0]? = some (.ref (N + 1 + 1000))) : ∀ m j, j + m = 35 → tr_T (fun _ => True) g d m_X2_init 95 [some (.ref (N + 0 + 1000)), some (.int (Int32.ofNat j))] [] (C ++ (.inr (1, vs) :: .inl (1, List.replicate j 46 ++ List.replicate m 0) :: R), u, s) (.inl none, (C ++ (.inr (1, vs) :: .inl (1, List.replicate 35 46) :: R), u, s)) := by
  intro m
  induction m with
  | zero =>
    intro j hj
    have hj : j = 35 := by omega
    subst hj
    refine tr_s (.iload_n 1) 1 96 _ _ _ rfl rfl rfl ?_
    refine tr_s (.aload_n 0) 1 97 _ _ _ rfl rfl rfl ?_
    refine wz_gf (ci := 1) (sl := 0) (j := 0) hN rfl rfl rfl rfl hv ?_
    refine tr_alen _ 1 (List.replicate 35 46 ++ List.replicate 0 0) rfl (wz_rd (q := 1) hN rfl) (by decide) ?_
    have hlen : (List.replicate 35 (46 : Int32) ++ List.replicate 0 (0 : Int32)).length = 35 := by simp
    rw [hlen]
    refine tr_if2 .ge 17 118 (Int32.ofNat 35) (Int32.ofNat 35) rfl rfl rfl (fun _ => ?_) (fun hc => absurd hc (by decide))
    exact tr_ret .return_ 1 none rfl rfl rfl rfl trivial (by simp)
  | succ m ih =>
    intro j hj
    refine tr_s (.iload_n 1) 1 96 _ _ _ rfl rfl rfl ?_
    refine tr_s (.aload_n 0) 1 97 _ _ _ rfl rfl rfl ?_
    refine wz_gf (ci := 1) (sl := 0) (j := 0) hN rfl rfl rfl rfl hv ?_
    refine tr_alen _ 1 (List.replicate j 46 ++ List.replicate (m + 1) 0) rfl (wz_rd (q := 1) hN rfl) (by decide) ?_
    have hlen : (List.replicate j (46 : Int32) ++ List.replicate (m + 1) (0 : Int32)).length = 35 := by simp; omega
    rw [hlen]
    refine tr_if2 .ge 17 118 (Int32.ofNat j) (Int32.ofNat 35) rfl rfl rfl (fun hc => absurd ((ii_le (by omega) (by omega)).mp ((tr_ge hc).1 rfl)) (by omega)) (fun _ => ?_)
    refine tr_s (.aload_n 0) 1 105 _ _ _ rfl rfl rfl ?_
    refine wz_gf (ci := 1) (sl := 0) (j := 0) hN rfl rfl rfl rfl hv ?_
    refine tr_s (.iload_n 1) 1 109 _ _ _ rfl rfl rfl ?_
    refine tr_bi 46 46 rfl rfl ?_
    refine wz_cas (q := 1) (jj := j) (W' := .inr (1, vs) :: .inl (1, List.replicate (j + 1) 46 ++ List.replicate m 0) :: R) hN rfl rfl rfl rfl (by simp) (by simp; omega) (by decide) (by rw [fill_set]; rfl) ?_
    refine tr_inc 1 1 (Int32.ofNat j) 1 (by decide) rfl rfl rfl ?_
    refine tr_goto (-20) 95 rfl rfl rfl ?_
    have h := ih (j + 1) (by omega)
    rw [← ii_s] at h
    exact h
theorem in_X2_init (hN : C.length = N) : tr_T (fun _ => True) g d m_X2_init 0 [some (.ref (N + 0 + 1000)), none] [] (C ++ [.inr (1, [.null, .null, .null, .null, .null, .null, .int 0, .int 0, .int 0, .int 0, .int 0, .int 0, .int 0, .int 0])], u, s) (.inl none, (C ++ crt0 N, u + 6, s + 115)) := by
  refine tr_s (.aload_n 0) 1 1 _ _ _ rfl rfl rfl ?_
  refine tr_na (.invokespecial 3) 3 10 0 0 ev_dum _ _ rfl rfl rfl rfl rfl rfl rfl ?_
  refine tr_s (.aload_n 0) 1 5 _ _ _ rfl rfl rfl ?_
  refine tr_bi 35 35 rfl rfl ?_
  refine wz_new (q := 35) (j := 1) (c := .inl (1, List.replicate 35 0)) (W' := .inr (1, [.null, .null, .null, .null, .null, .null, .int 0, .int 0, .int 0, .int 0, .int 0, .int 0, .int 0, .int 0]) :: ([] ++ [.inl (1, List.replicate 35 0)])) hN rfl rfl rfl (fun _ => rfl) rfl rfl ?_
  refine wz_pfF (i := 9) (ci := 1) (sl := 0) (j := 0) (W' := .inr (1, [.ref (N + 1 + 1000), .null, .null, .null, .null, .null, .int 0, .int 0, .int 0, .int 0, .int 0, .int 0, .int 0, .int 0]) :: ([] ++ [.inl (1, List.replicate 35 0)])) hN rfl rfl rfl rfl rfl (by show 0 < 14; decide) (wz_ok rfl rfl) rfl rfl rfl ?_
  refine tr_s (.aload_n 0) 1 13 _ _ _ rfl rfl rfl ?_
  refine tr_bi 7 7 rfl rfl ?_
  refine wz_new (q := 7) (j := 2) (c := .inl (0, List.replicate 7 0)) (W' := .inr (1, [.ref (N + 1 + 1000), .null, .null, .null, .null, .null, .int 0, .int 0, .int 0, .int 0, .int 0, .int 0, .int 0, .int 0]) :: ([] ++ [.inl (1, List.replicate 35 0)] ++ [.inl (0, List.replicate 7 0)])) hN rfl rfl rfl (fun _ => rfl) rfl rfl ?_
  refine wz_pfF (i := 15) (ci := 1) (sl := 1) (j := 0) (W' := .inr (1, [.ref (N + 1 + 1000), .ref (N + 2 + 1000), .null, .null, .null, .null, .int 0, .int 0, .int 0, .int 0, .int 0, .int 0, .int 0, .int 0]) :: ([] ++ [.inl (1, List.replicate 35 0)] ++ [.inl (0, List.replicate 7 0)])) hN rfl rfl rfl rfl rfl (by show 1 < 14; decide) (wz_ok rfl rfl) rfl rfl rfl ?_
  refine tr_s (.aload_n 0) 1 21 _ _ _ rfl rfl rfl ?_
  refine tr_bi 28 28 rfl rfl ?_
  refine wz_new (q := 28) (j := 3) (c := .inl (0, List.replicate 28 0)) (W' := .inr (1, [.ref (N + 1 + 1000), .ref (N + 2 + 1000), .null, .null, .null, .null, .int 0, .int 0, .int 0, .int 0, .int 0, .int 0, .int 0, .int 0]) :: ([] ++ [.inl (1, List.replicate 35 0)] ++ [.inl (0, List.replicate 7 0)] ++ [.inl (0, List.replicate 28 0)])) hN rfl rfl rfl (fun _ => rfl) rfl rfl ?_
  refine wz_pfF (i := 19) (ci := 1) (sl := 2) (j := 0) (W' := .inr (1, [.ref (N + 1 + 1000), .ref (N + 2 + 1000), .ref (N + 3 + 1000), .null, .null, .null, .int 0, .int 0, .int 0, .int 0, .int 0, .int 0, .int 0, .int 0]) :: ([] ++ [.inl (1, List.replicate 35 0)] ++ [.inl (0, List.replicate 7 0)] ++ [.inl (0, List.replicate 28 0)])) hN rfl rfl rfl rfl rfl (by show 2 < 14; decide) (wz_ok rfl rfl) rfl rfl rfl ?_
  refine tr_s (.aload_n 0) 1 29 _ _ _ rfl rfl rfl ?_
  refine tr_bi 28 28 rfl rfl ?_
  refine wz_new (q := 28) (j := 4) (c := .inl (0, List.replicate 28 0)) (W' := .inr (1, [.ref (N + 1 + 1000), .ref (N + 2 + 1000), .ref (N + 3 + 1000), .null, .null, .null, .int 0, .int 0, .int 0, .int 0, .int 0, .int 0, .int 0, .int 0]) :: ([] ++ [.inl (1, List.replicate 35 0)] ++ [.inl (0, List.replicate 7 0)] ++ [.inl (0, List.replicate 28 0)] ++ [.inl (0, List.replicate 28 0)])) hN rfl rfl rfl (fun _ => rfl) rfl rfl ?_
  refine wz_pfF (i := 22) (ci := 1) (sl := 3) (j := 0) (W' := .inr (1, [.ref (N + 1 + 1000), .ref (N + 2 + 1000), .ref (N + 3 + 1000), .ref (N + 4 + 1000), .null, .null, .int 0, .int 0, .int 0, .int 0, .int 0, .int 0, .int 0, .int 0]) :: ([] ++ [.inl (1, List.replicate 35 0)] ++ [.inl (0, List.replicate 7 0)] ++ [.inl (0, List.replicate 28 0)] ++ [.inl (0, List.replicate 28 0)])) hN rfl rfl rfl rfl rfl (by show 3 < 14; decide) (wz_ok rfl rfl) rfl rfl rfl ?_
  refine tr_s (.aload_n 0) 1 37 _ _ _ rfl rfl rfl ?_
  refine tr_bi 7 7 rfl rfl ?_
  refine wz_new (q := 7) (j := 5) (c := .inl (0, List.replicate 7 0)) (W' := .inr (1, [.ref (N + 1 + 1000), .ref (N + 2 + 1000), .ref (N + 3 + 1000), .ref (N + 4 + 1000), .null, .null, .int 0, .int 0, .int 0, .int 0, .int 0, .int 0, .int 0, .int 0]) :: ([] ++ [.inl (1, List.replicate 35 0)] ++ [.inl (0, List.replicate 7 0)] ++ [.inl (0, List.replicate 28 0)] ++ [.inl (0, List.replicate 28 0)] ++ [.inl (0, List.replicate 7 0)])) hN rfl rfl rfl (fun _ => rfl) rfl rfl ?_
  refine wz_pfF (i := 25) (ci := 1) (sl := 4) (j := 0) (W' := .inr (1, [.ref (N + 1 + 1000), .ref (N + 2 + 1000), .ref (N + 3 + 1000), .ref (N + 4 + 1000), .ref (N + 5 + 1000), .null, .int 0, .int 0, .int 0, .int 0, .int 0, .int 0, .int 0, .int 0]) :: ([] ++ [.inl (1, List.replicate 35 0)] ++ [.inl (0, List.replicate 7 0)] ++ [.inl (0, List.replicate 28 0)] ++ [.inl (0, List.replicate 28 0)] ++ [.inl (0, List.replicate 7 0)])) hN rfl rfl rfl rfl rfl (by show 4 < 14; decide) (wz_ok rfl rfl) rfl rfl rfl ?_
  refine tr_s (.aload_n 0) 1 45 _ _ _ rfl rfl rfl ?_
  refine tr_bi 10 10 rfl rfl ?_
  refine wz_new (q := 10) (j := 6) (c := .inl (1, List.replicate 10 0)) (W' := .inr (1, [.ref (N + 1 + 1000), .ref (N + 2 + 1000), .ref (N + 3 + 1000), .ref (N + 4 + 1000), .ref (N + 5 + 1000), .null, .int 0, .int 0, .int 0, .int 0, .int 0, .int 0, .int 0, .int 0]) :: ([] ++ [.inl (1, List.replicate 35 0)] ++ [.inl (0, List.replicate 7 0)] ++ [.inl (0, List.replicate 28 0)] ++ [.inl (0, List.replicate 28 0)] ++ [.inl (0, List.replicate 7 0)] ++ [.inl (1, List.replicate 10 0)])) hN rfl rfl rfl (fun _ => rfl) rfl rfl ?_
  refine wz_pfF (i := 28) (ci := 1) (sl := 5) (j := 0) (W' := .inr (1, [.ref (N + 1 + 1000), .ref (N + 2 + 1000), .ref (N + 3 + 1000), .ref (N + 4 + 1000), .ref (N + 5 + 1000), .ref (N + 6 + 1000), .int 0, .int 0, .int 0, .int 0, .int 0, .int 0, .int 0, .int 0]) :: ([] ++ [.inl (1, List.replicate 35 0)] ++ [.inl (0, List.replicate 7 0)] ++ [.inl (0, List.replicate 28 0)] ++ [.inl (0, List.replicate 28 0)] ++ [.inl (0, List.replicate 7 0)] ++ [.inl (1, List.replicate 10 0)])) hN rfl rfl rfl rfl rfl (by show 5 < 14; decide) (wz_ok rfl rfl) rfl rfl rfl ?_
  refine tr_s (.aload_n 0) 1 53 _ _ _ rfl rfl rfl ?_
  refine tr_ic (0) (0) rfl rfl ?_
  refine wz_pf (i := 31) (ci := 1) (sl := 6) (j := 0) (W' := .inr (1, [.ref (N + 1 + 1000), .ref (N + 2 + 1000), .ref (N + 3 + 1000), .ref (N + 4 + 1000), .ref (N + 5 + 1000), .ref (N + 6 + 1000), .int 0, .int 0, .int 0, .int 0, .int 0, .int 0, .int 0, .int 0]) :: ([] ++ [.inl (1, List.replicate 35 0)] ++ [.inl (0, List.replicate 7 0)] ++ [.inl (0, List.replicate 28 0)] ++ [.inl (0, List.replicate 28 0)] ++ [.inl (0, List.replicate 7 0)] ++ [.inl (1, List.replicate 10 0)])) hN rfl rfl rfl rfl rfl (by show 6 < 14; decide) (wz_ok rfl rfl) rfl ?_
  refine tr_s (.aload_n 0) 1 58 _ _ _ rfl rfl rfl ?_
  refine tr_bi 112 112 rfl rfl ?_
  refine wz_pf (i := 35) (ci := 1) (sl := 7) (j := 0) (W' := .inr (1, [.ref (N + 1 + 1000), .ref (N + 2 + 1000), .ref (N + 3 + 1000), .ref (N + 4 + 1000), .ref (N + 5 + 1000), .ref (N + 6 + 1000), .int 0, .int 112, .int 0, .int 0, .int 0, .int 0, .int 0, .int 0]) :: ([] ++ [.inl (1, List.replicate 35 0)] ++ [.inl (0, List.replicate 7 0)] ++ [.inl (0, List.replicate 28 0)] ++ [.inl (0, List.replicate 28 0)] ++ [.inl (0, List.replicate 7 0)] ++ [.inl (1, List.replicate 10 0)])) hN rfl rfl rfl rfl rfl (by show 7 < 14; decide) (wz_ok rfl rfl) rfl ?_
  refine tr_s (.aload_n 0) 1 64 _ _ _ rfl rfl rfl ?_
  refine tr_ic (0) (0) rfl rfl ?_
  refine wz_pf (i := 39) (ci := 1) (sl := 8) (j := 0) (W' := .inr (1, [.ref (N + 1 + 1000), .ref (N + 2 + 1000), .ref (N + 3 + 1000), .ref (N + 4 + 1000), .ref (N + 5 + 1000), .ref (N + 6 + 1000), .int 0, .int 112, .int 0, .int 0, .int 0, .int 0, .int 0, .int 0]) :: ([] ++ [.inl (1, List.replicate 35 0)] ++ [.inl (0, List.replicate 7 0)] ++ [.inl (0, List.replicate 28 0)] ++ [.inl (0, List.replicate 28 0)] ++ [.inl (0, List.replicate 7 0)] ++ [.inl (1, List.replicate 10 0)])) hN rfl rfl rfl rfl rfl (by show 8 < 14; decide) (wz_ok rfl rfl) rfl ?_
  refine tr_s (.aload_n 0) 1 69 _ _ _ rfl rfl rfl ?_
  refine tr_ic (0) (0) rfl rfl ?_
  refine wz_pf (i := 42) (ci := 1) (sl := 9) (j := 0) (W' := .inr (1, [.ref (N + 1 + 1000), .ref (N + 2 + 1000), .ref (N + 3 + 1000), .ref (N + 4 + 1000), .ref (N + 5 + 1000), .ref (N + 6 + 1000), .int 0, .int 112, .int 0, .int 0, .int 0, .int 0, .int 0, .int 0]) :: ([] ++ [.inl (1, List.replicate 35 0)] ++ [.inl (0, List.replicate 7 0)] ++ [.inl (0, List.replicate 28 0)] ++ [.inl (0, List.replicate 28 0)] ++ [.inl (0, List.replicate 7 0)] ++ [.inl (1, List.replicate 10 0)])) hN rfl rfl rfl rfl rfl (by show 9 < 14; decide) (wz_ok rfl rfl) rfl ?_
  refine tr_s (.aload_n 0) 1 74 _ _ _ rfl rfl rfl ?_
  refine tr_ic (0) (0) rfl rfl ?_
  refine wz_pf (i := 45) (ci := 1) (sl := 10) (j := 0) (W' := .inr (1, [.ref (N + 1 + 1000), .ref (N + 2 + 1000), .ref (N + 3 + 1000), .ref (N + 4 + 1000), .ref (N + 5 + 1000), .ref (N + 6 + 1000), .int 0, .int 112, .int 0, .int 0, .int 0, .int 0, .int 0, .int 0]) :: ([] ++ [.inl (1, List.replicate 35 0)] ++ [.inl (0, List.replicate 7 0)] ++ [.inl (0, List.replicate 28 0)] ++ [.inl (0, List.replicate 28 0)] ++ [.inl (0, List.replicate 7 0)] ++ [.inl (1, List.replicate 10 0)])) hN rfl rfl rfl rfl rfl (by show 10 < 14; decide) (wz_ok rfl rfl) rfl ?_
  refine tr_s (.aload_n 0) 1 79 _ _ _ rfl rfl rfl ?_
  refine tr_ic (0) (0) rfl rfl ?_
  refine wz_pf (i := 48) (ci := 1) (sl := 11) (j := 0) (W' := .inr (1, [.ref (N + 1 + 1000), .ref (N + 2 + 1000), .ref (N + 3 + 1000), .ref (N + 4 + 1000), .ref (N + 5 + 1000), .ref (N + 6 + 1000), .int 0, .int 112, .int 0, .int 0, .int 0, .int 0, .int 0, .int 0]) :: ([] ++ [.inl (1, List.replicate 35 0)] ++ [.inl (0, List.replicate 7 0)] ++ [.inl (0, List.replicate 28 0)] ++ [.inl (0, List.replicate 28 0)] ++ [.inl (0, List.replicate 7 0)] ++ [.inl (1, List.replicate 10 0)])) hN rfl rfl rfl rfl rfl (by show 11 < 14; decide) (wz_ok rfl rfl) rfl ?_
  refine tr_s (.aload_n 0) 1 84 _ _ _ rfl rfl rfl ?_
  refine tr_ic (0) (0) rfl rfl ?_
  refine wz_pf (i := 51) (ci := 1) (sl := 12) (j := 0) (W' := .inr (1, [.ref (N + 1 + 1000), .ref (N + 2 + 1000), .ref (N + 3 + 1000), .ref (N + 4 + 1000), .ref (N + 5 + 1000), .ref (N + 6 + 1000), .int 0, .int 112, .int 0, .int 0, .int 0, .int 0, .int 0, .int 0]) :: ([] ++ [.inl (1, List.replicate 35 0)] ++ [.inl (0, List.replicate 7 0)] ++ [.inl (0, List.replicate 28 0)] ++ [.inl (0, List.replicate 28 0)] ++ [.inl (0, List.replicate 7 0)] ++ [.inl (1, List.replicate 10 0)])) hN rfl rfl rfl rfl rfl (by show 12 < 14; decide) (wz_ok rfl rfl) rfl ?_
  refine tr_s (.aload_n 0) 1 89 _ _ _ rfl rfl rfl ?_
  refine tr_ic (0) (0) rfl rfl ?_
  refine wz_pf (i := 55) (ci := 1) (sl := 13) (j := 0) (W' := .inr (1, [.ref (N + 1 + 1000), .ref (N + 2 + 1000), .ref (N + 3 + 1000), .ref (N + 4 + 1000), .ref (N + 5 + 1000), .ref (N + 6 + 1000), .int 0, .int 112, .int 0, .int 0, .int 0, .int 0, .int 0, .int 0]) :: ([] ++ [.inl (1, List.replicate 35 0)] ++ [.inl (0, List.replicate 7 0)] ++ [.inl (0, List.replicate 28 0)] ++ [.inl (0, List.replicate 28 0)] ++ [.inl (0, List.replicate 7 0)] ++ [.inl (1, List.replicate 10 0)])) hN rfl rfl rfl rfl rfl (by show 13 < 14; decide) (wz_ok rfl rfl) rfl ?_
  refine tr_ic (0) (0) rfl rfl ?_
  refine tr_st (.istore_n 1) 1 1 0 (.int 0) rfl rfl rfl rfl rfl rfl rfl ?_
  exact lp_X2 hN rfl 35 0 rfl
end
