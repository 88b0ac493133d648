/-! THE START: the history; laid by wip/whole/gen/gen9y.py -/
section
variable {P : ev_AH → Prop} {g : tr_g} {d : Nat} {M : ev_MD} {pc : Nat} {L : ev_VL} {S : List Value} {r : ev_O × ev_AH} {C R : List ev_AC} {N m u s : Nat}
theorem wz_aas {jj q p pc' : Nat} {vs ws : List Value} {x : Int32} {W W' : List ev_AC} (hN : C.length = N) (hl : ev_lk M.2.2.2.2.2.2 pc = some (.aastore, 1)) (hp : pc + 1 = pc') (hj : W[q]? = some (.inr (102, vs))) (hj2 : W[p]? = some (.inr (1, ws))) (hx : x = Int32.ofNat jj) (hjj : jj < vs.length) (hs : vs.length < 2147483648) (hW : W.set q (.inr (102, vs.set jj (.ref (N + p + 1000)))) = W') (k : tr_T P g d M pc' L S (C ++ W', u, s) r) : tr_T P g d M pc L (.ref (N + p + 1000) :: .int x :: .ref (N + q + 1000) :: S) (C ++ W, u, s) r := by
  subst hx
  subst hp
  obtain ⟨h1, h2⟩ := tr_in hjj hs
  have h3 : Nat.ble 1000 (N + q + 1000) = true := Nat.ble_eq_true_of_le (by omega)
  have h4 : Nat.ble 1000 (N + p + 1000) = true := Nat.ble_eq_true_of_le (by omega)
  have e1 := (wz_get (C := C) hN).trans hj
  have e2 := (wz_get (C := C) hN).trans hj2
  refine tr_s .aastore 1 _ _ _ _ hl rfl ?_ (by rw [← hW, ← wz_wr (u := u) (s := s) hN] at k; exact k)
  simp only [ev_s, ev_ldi, ev_sti, ev_p, ev_r, ev_w, e1, e2, h1, h2, h3, h4, Bool.and_true, cond_true]
end
section
variable {g : tr_g} {d : Nat} {C : List ev_AC} {N u s : Nat}
def his0 (N : Nat) : List ev_AC := .inr (2, [.ref (N + 1 + 1000), .int 0, .int 0]) :: ([] ++ [.inr (102, [.ref (N + 2 + 1000), .ref (N + 9 + 1000), .ref (N + 16 + 1000), .ref (N + 23 + 1000), .ref (N + 30 + 1000), .ref (N + 37 + 1000), .ref (N + 44 + 1000), .ref (N + 51 + 1000), .ref (N + 58 + 1000)])] ++ crt0 (N + 2) ++ crt0 (N + 9) ++ crt0 (N + 16) ++ crt0 (N + 23) ++ crt0 (N + 30) ++ crt0 (N + 37) ++ crt0 (N + 44) ++ crt0 (N + 51) ++ crt0 (N + 58))
theorem in_X3_init (hN : C.length = N) : tr_T (fun _ => True) g (d + 1) m_X3_init 0 [some (.ref (N + 0 + 1000)), none] [] (C ++ [.inr (2, [.null, .int 0, .int 0])], u, s) (.inl none, (C ++ his0 N, u + 64, s + 1170)) := by
  refine tr_s (.aload_n 0) 1 1 _ _ _ rfl rfl rfl ?_
  refine tr_na (.invokespecial 3) 3 10 0 0 ev_dum _ _ rfl rfl rfl rfl rfl rfl rfl ?_
  refine tr_s (.aload_n 0) 1 5 _ _ _ rfl rfl rfl ?_
  refine tr_bi 9 9 rfl rfl ?_
  refine wz_new (q := 9) (j := 1) (c := .inr (102, List.replicate 9 .null)) (W' := .inr (2, [.null, .int 0, .int 0]) :: ([] ++ [.inr (102, List.replicate 9 .null)])) hN rfl rfl rfl (fun _ => rfl) rfl rfl ?_
  refine wz_pfF (i := 13) (ci := 2) (sl := 0) (j := 0) (W' := .inr (2, [.ref (N + 1 + 1000), .int 0, .int 0]) :: ([] ++ [.inr (102, List.replicate 9 .null)])) hN rfl rfl rfl rfl rfl (by show 0 < 3; decide) (wz_ok rfl rfl) rfl rfl rfl ?_
  refine tr_s (.aload_n 0) 1 14 _ _ _ rfl rfl rfl ?_
  refine tr_ic (0) (0) rfl rfl ?_
  refine wz_pf (i := 17) (ci := 2) (sl := 1) (j := 0) (W' := .inr (2, [.ref (N + 1 + 1000), .int 0, .int 0]) :: ([] ++ [.inr (102, List.replicate 9 .null)])) hN rfl rfl rfl rfl rfl (by show 1 < 3; decide) (wz_ok rfl rfl) rfl ?_
  refine tr_s (.aload_n 0) 1 19 _ _ _ rfl rfl rfl ?_
  refine tr_ic (0) (0) rfl rfl ?_
  refine wz_pf (i := 21) (ci := 2) (sl := 2) (j := 0) (W' := .inr (2, [.ref (N + 1 + 1000), .int 0, .int 0]) :: ([] ++ [.inr (102, List.replicate 9 .null)])) hN rfl rfl rfl rfl rfl (by show 2 < 3; decide) (wz_ok rfl rfl) rfl ?_
  refine tr_ic (0) (0) rfl rfl ?_
  refine tr_st (.istore_n 1) 1 1 0 (.int 0) rfl rfl rfl rfl rfl rfl rfl ?_
  refine tr_s (.iload_n 1) 1 26 _ _ _ rfl rfl rfl ?_
  refine tr_s (.aload_n 0) 1 27 _ _ _ rfl rfl rfl ?_
  refine wz_gf (ci := 2) (sl := 0) (j := 0) hN rfl rfl rfl rfl rfl ?_
  refine tr_alenR _ 102 [.null, .null, .null, .null, .null, .null, .null, .null, .null] rfl (wz_rd (q := 1) hN rfl) (by omega) (by decide) (by decide) ?_
  refine tr_if2 .ge 22 53 (0) (Int32.ofNat 9) rfl rfl rfl (fun hc => absurd hc (by decide)) (fun _ => ?_)
  refine tr_s (.aload_n 0) 1 35 _ _ _ rfl rfl rfl ?_
  refine wz_gf (ci := 2) (sl := 0) (j := 0) hN rfl rfl rfl rfl rfl ?_
  refine tr_s (.iload_n 1) 1 39 _ _ _ rfl rfl rfl ?_
  refine wz_new (q := 14) (j := 2) (c := .inr (1, [.null, .null, .null, .null, .null, .null, .int 0, .int 0, .int 0, .int 0, .int 0, .int 0, .int 0, .int 0])) (W' := .inr (2, [.ref (N + 1 + 1000), .int 0, .int 0]) :: ([] ++ [.inr (102, List.replicate 9 .null)] ++ [.inr (1, [.null, .null, .null, .null, .null, .null, .int 0, .int 0, .int 0, .int 0, .int 0, .int 0, .int 0, .int 0])])) hN rfl rfl rfl (fun _ => rfl) rfl rfl ?_
  refine tr_s .dup 1 43 _ _ _ rfl rfl rfl ?_
  have c43 := in_X2_init (g := g) (d := d) (C := C ++ (.inr (2, [.ref (N + 1 + 1000), .int 0, .int 0]) :: ([] ++ [.inr (102, List.replicate 9 .null)]))) (N := N + 2) (u := u + 2) (s := s + 23) (by rw [List.length_append, hN]; rfl)
  rw [List.append_assoc C, List.append_assoc C] at c43
  refine tr_call (.invokespecial 24) 24 5 0 0 m_X2_init [.ref (N + 2 + 1000)] [.ref (N + 2 + 1000), .int 0, .ref (N + 1 + 1000)] none (C ++ (.inr (2, [.ref (N + 1 + 1000), .int 0, .int 0]) :: ([] ++ [.inr (102, List.replicate 9 .null)] ++ crt0 (N + 2))), u + 8, s + 138) rfl rfl rfl rfl rfl rfl rfl rfl rfl (tr_cok rfl (Or.inr ⟨_, _, rfl, tr_rcI rfl⟩)) c43 ?_
  refine wz_aas (q := 1) (p := 2) (jj := 0) (W' := .inr (2, [.ref (N + 1 + 1000), .int 0, .int 0]) :: ([] ++ [.inr (102, [.ref (N + 2 + 1000), .null, .null, .null, .null, .null, .null, .null, .null])] ++ crt0 (N + 2))) hN rfl rfl rfl rfl (by decide) (by show 0 < 9; decide) (by show 9 < 2147483648; decide) rfl ?_
  refine tr_inc 1 1 (0) 1 (by decide) rfl rfl rfl ?_
  refine tr_goto (-25) 25 rfl rfl rfl ?_
  refine tr_s (.iload_n 1) 1 26 _ _ _ rfl rfl rfl ?_
  refine tr_s (.aload_n 0) 1 27 _ _ _ rfl rfl rfl ?_
  refine wz_gf (ci := 2) (sl := 0) (j := 0) hN rfl rfl rfl rfl rfl ?_
  refine tr_alenR _ 102 [.ref (N + 2 + 1000), .null, .null, .null, .null, .null, .null, .null, .null] rfl (wz_rd (q := 1) hN rfl) (by omega) (by decide) (by decide) ?_
  refine tr_if2 .ge 22 53 ((0 + 1)) (Int32.ofNat 9) rfl rfl rfl (fun hc => absurd hc (by decide)) (fun _ => ?_)
  refine tr_s (.aload_n 0) 1 35 _ _ _ rfl rfl rfl ?_
  refine wz_gf (ci := 2) (sl := 0) (j := 0) hN rfl rfl rfl rfl rfl ?_
  refine tr_s (.iload_n 1) 1 39 _ _ _ rfl rfl rfl ?_
  refine wz_new (q := 14) (j := 9) (c := .inr (1, [.null, .null, .null, .null, .null, .null, .int 0, .int 0, .int 0, .int 0, .int 0, .int 0, .int 0, .int 0])) (W' := .inr (2, [.ref (N + 1 + 1000), .int 0, .int 0]) :: ([] ++ [.inr (102, [.ref (N + 2 + 1000), .null, .null, .null, .null, .null, .null, .null, .null])] ++ crt0 (N + 2) ++ [.inr (1, [.null, .null, .null, .null, .null, .null, .int 0, .int 0, .int 0, .int 0, .int 0, .int 0, .int 0, .int 0])])) hN rfl rfl rfl (fun _ => rfl) rfl rfl ?_
  refine tr_s .dup 1 43 _ _ _ rfl rfl rfl ?_
  have c43 := in_X2_init (g := g) (d := d) (C := C ++ (.inr (2, [.ref (N + 1 + 1000), .int 0, .int 0]) :: ([] ++ [.inr (102, [.ref (N + 2 + 1000), .null, .null, .null, .null, .null, .null, .null, .null])] ++ crt0 (N + 2)))) (N := N + 9) (u := u + 9) (s := s + 152) (by rw [List.length_append, hN]; rfl)
  rw [List.append_assoc C, List.append_assoc C] at c43
  refine tr_call (.invokespecial 24) 24 5 0 0 m_X2_init [.ref (N + 9 + 1000)] [.ref (N + 9 + 1000), .int (0 + 1), .ref (N + 1 + 1000)] none (C ++ (.inr (2, [.ref (N + 1 + 1000), .int 0, .int 0]) :: ([] ++ [.inr (102, [.ref (N + 2 + 1000), .null, .null, .null, .null, .null, .null, .null, .null])] ++ crt0 (N + 2) ++ crt0 (N + 9))), u + 15, s + 267) rfl rfl rfl rfl rfl rfl rfl rfl rfl (tr_cok rfl (Or.inr ⟨_, _, rfl, tr_rcI rfl⟩)) c43 ?_
  refine wz_aas (q := 1) (p := 9) (jj := 1) (W' := .inr (2, [.ref (N + 1 + 1000), .int 0, .int 0]) :: ([] ++ [.inr (102, [.ref (N + 2 + 1000), .ref (N + 9 + 1000), .null, .null, .null, .null, .null, .null, .null])] ++ crt0 (N + 2) ++ crt0 (N + 9))) hN rfl rfl rfl rfl (by decide) (by show 1 < 9; decide) (by show 9 < 2147483648; decide) rfl ?_
  refine tr_inc 1 1 ((0 + 1)) 1 (by decide) rfl rfl rfl ?_
  refine tr_goto (-25) 25 rfl rfl rfl ?_
  refine tr_s (.iload_n 1) 1 26 _ _ _ rfl rfl rfl ?_
  refine tr_s (.aload_n 0) 1 27 _ _ _ rfl rfl rfl ?_
  refine wz_gf (ci := 2) (sl := 0) (j := 0) hN rfl rfl rfl rfl rfl ?_
  refine tr_alenR _ 102 [.ref (N + 2 + 1000), .ref (N + 9 + 1000), .null, .null, .null, .null, .null, .null, .null] rfl (wz_rd (q := 1) hN rfl) (by omega) (by decide) (by decide) ?_
  refine tr_if2 .ge 22 53 (((0 + 1) + 1)) (Int32.ofNat 9) rfl rfl rfl (fun hc => absurd hc (by decide)) (fun _ => ?_)
  refine tr_s (.aload_n 0) 1 35 _ _ _ rfl rfl rfl ?_
  refine wz_gf (ci := 2) (sl := 0) (j := 0) hN rfl rfl rfl rfl rfl ?_
  refine tr_s (.iload_n 1) 1 39 _ _ _ rfl rfl rfl ?_
  refine wz_new (q := 14) (j := 16) (c := .inr (1, [.null, .null, .null, .null, .null, .null, .int 0, .int 0, .int 0, .int 0, .int 0, .int 0, .int 0, .int 0])) (W' := .inr (2, [.ref (N + 1 + 1000), .int 0, .int 0]) :: ([] ++ [.inr (102, [.ref (N + 2 + 1000), .ref (N + 9 + 1000), .null, .null, .null, .null, .null, .null, .null])] ++ crt0 (N + 2) ++ crt0 (N + 9) ++ [.inr (1, [.null, .null, .null, .null, .null, .null, .int 0, .int 0, .int 0, .int 0, .int 0, .int 0, .int 0, .int 0])])) hN rfl rfl rfl (fun _ => rfl) rfl rfl ?_
  refine tr_s .dup 1 43 _ _ _ rfl rfl rfl ?_
  have c43 := in_X2_init (g := g) (d := d) (C := C ++ (.inr (2, [.ref (N + 1 + 1000), .int 0, .int 0]) :: ([] ++ [.inr (102, [.ref (N + 2 + 1000), .ref (N + 9 + 1000), .null, .null, .null, .null, .null, .null, .null])] ++ crt0 (N + 2) ++ crt0 (N + 9)))) (N := N + 16) (u := u + 16) (s := s + 281) (by rw [List.length_append, hN]; rfl)
  rw [List.append_assoc C, List.append_assoc C] at c43
  refine tr_call (.invokespecial 24) 24 5 0 0 m_X2_init [.ref (N + 16 + 1000)] [.ref (N + 16 + 1000), .int ((0 + 1) + 1), .ref (N + 1 + 1000)] none (C ++ (.inr (2, [.ref (N + 1 + 1000), .int 0, .int 0]) :: ([] ++ [.inr (102, [.ref (N + 2 + 1000), .ref (N + 9 + 1000), .null, .null, .null, .null, .null, .null, .null])] ++ crt0 (N + 2) ++ crt0 (N + 9) ++ crt0 (N + 16))), u + 22, s + 396) rfl rfl rfl rfl rfl rfl rfl rfl rfl (tr_cok rfl (Or.inr ⟨_, _, rfl, tr_rcI rfl⟩)) c43 ?_
  refine wz_aas (q := 1) (p := 16) (jj := 2) (W' := .inr (2, [.ref (N + 1 + 1000), .int 0, .int 0]) :: ([] ++ [.inr (102, [.ref (N + 2 + 1000), .ref (N + 9 + 1000), .ref (N + 16 + 1000), .null, .null, .null, .null, .null, .null])] ++ crt0 (N + 2) ++ crt0 (N + 9) ++ crt0 (N + 16))) hN rfl rfl rfl rfl (by decide) (by show 2 < 9; decide) (by show 9 < 2147483648; decide) rfl ?_
  refine tr_inc 1 1 (((0 + 1) + 1)) 1 (by decide) rfl rfl rfl ?_
  refine tr_goto (-25) 25 rfl rfl rfl ?_
  refine tr_s (.iload_n 1) 1 26 _ _ _ rfl rfl rfl ?_
  refine tr_s (.aload_n 0) 1 27 _ _ _ rfl rfl rfl ?_
  refine wz_gf (ci := 2) (sl := 0) (j := 0) hN rfl rfl rfl rfl rfl ?_
  refine tr_alenR _ 102 [.ref (N + 2 + 1000), .ref (N + 9 + 1000), .ref (N + 16 + 1000), .null, .null, .null, .null, .null, .null] rfl (wz_rd (q := 1) hN rfl) (by omega) (by decide) (by decide) ?_
  refine tr_if2 .ge 22 53 ((((0 + 1) + 1) + 1)) (Int32.ofNat 9) rfl rfl rfl (fun hc => absurd hc (by decide)) (fun _ => ?_)
  refine tr_s (.aload_n 0) 1 35 _ _ _ rfl rfl rfl ?_
  refine wz_gf (ci := 2) (sl := 0) (j := 0) hN rfl rfl rfl rfl rfl ?_
  refine tr_s (.iload_n 1) 1 39 _ _ _ rfl rfl rfl ?_
  refine wz_new (q := 14) (j := 23) (c := .inr (1, [.null, .null, .null, .null, .null, .null, .int 0, .int 0, .int 0, .int 0, .int 0, .int 0, .int 0, .int 0])) (W' := .inr (2, [.ref (N + 1 + 1000), .int 0, .int 0]) :: ([] ++ [.inr (102, [.ref (N + 2 + 1000), .ref (N + 9 + 1000), .ref (N + 16 + 1000), .null, .null, .null, .null, .null, .null])] ++ crt0 (N + 2) ++ crt0 (N + 9) ++ crt0 (N + 16) ++ [.inr (1, [.null, .null, .null, .null, .null, .null, .int 0, .int 0, .int 0, .int 0, .int 0, .int 0, .int 0, .int 0])])) hN rfl rfl rfl (fun _ => rfl) rfl rfl ?_
  refine tr_s .dup 1 43 _ _ _ rfl rfl rfl ?_
  have c43 := in_X2_init (g := g) (d := d) (C := C ++ (.inr (2, [.ref (N + 1 + 1000), .int 0, .int 0]) :: ([] ++ [.inr (102, [.ref (N + 2 + 1000), .ref (N + 9 + 1000), .ref (N + 16 + 1000), .null, .null, .null, .null, .null, .null])] ++ crt0 (N + 2) ++ crt0 (N + 9) ++ crt0 (N + 16)))) (N := N + 23) (u := u + 23) (s := s + 410) (by rw [List.length_append, hN]; rfl)
  rw [List.append_assoc C, List.append_assoc C] at c43
  refine tr_call (.invokespecial 24) 24 5 0 0 m_X2_init [.ref (N + 23 + 1000)] [.ref (N + 23 + 1000), .int (((0 + 1) + 1) + 1), .ref (N + 1 + 1000)] none (C ++ (.inr (2, [.ref (N + 1 + 1000), .int 0, .int 0]) :: ([] ++ [.inr (102, [.ref (N + 2 + 1000), .ref (N + 9 + 1000), .ref (N + 16 + 1000), .null, .null, .null, .null, .null, .null])] ++ crt0 (N + 2) ++ crt0 (N + 9) ++ crt0 (N + 16) ++ crt0 (N + 23))), u + 29, s + 525) rfl rfl rfl rfl rfl rfl rfl rfl rfl (tr_cok rfl (Or.inr ⟨_, _, rfl, tr_rcI rfl⟩)) c43 ?_
  refine wz_aas (q := 1) (p := 23) (jj := 3) (W' := .inr (2, [.ref (N + 1 + 1000), .int 0, .int 0]) :: ([] ++ [.inr (102, [.ref (N + 2 + 1000), .ref (N + 9 + 1000), .ref (N + 16 + 1000), .ref (N + 23 + 1000), .null, .null, .null, .null, .null])] ++ crt0 (N + 2) ++ crt0 (N + 9) ++ crt0 (N + 16) ++ crt0 (N + 23))) hN rfl rfl rfl rfl (by decide) (by show 3 < 9; decide) (by show 9 < 2147483648; decide) rfl ?_
  refine tr_inc 1 1 ((((0 + 1) + 1) + 1)) 1 (by decide) rfl rfl rfl ?_
  refine tr_goto (-25) 25 rfl rfl rfl ?_
  refine tr_s (.iload_n 1) 1 26 _ _ _ rfl rfl rfl ?_
  refine tr_s (.aload_n 0) 1 27 _ _ _ rfl rfl rfl ?_
  refine wz_gf (ci := 2) (sl := 0) (j := 0) hN rfl rfl rfl rfl rfl ?_
  refine tr_alenR _ 102 [.ref (N + 2 + 1000), .ref (N + 9 + 1000), .ref (N + 16 + 1000), .ref (N + 23 + 1000), .null, .null, .null, .null, .null] rfl (wz_rd (q := 1) hN rfl) (by omega) (by decide) (by decide) ?_
  refine tr_if2 .ge 22 53 (((((0 + 1) + 1) + 1) + 1)) (Int32.ofNat 9) rfl rfl rfl (fun hc => absurd hc (by decide)) (fun _ => ?_)
  refine tr_s (.aload_n 0) 1 35 _ _ _ rfl rfl rfl ?_
  refine wz_gf (ci := 2) (sl := 0) (j := 0) hN rfl rfl rfl rfl rfl ?_
  refine tr_s (.iload_n 1) 1 39 _ _ _ rfl rfl rfl ?_
  refine wz_new (q := 14) (j := 30) (c := .inr (1, [.null, .null, .null, .null, .null, .null, .int 0, .int 0, .int 0, .int 0, .int 0, .int 0, .int 0, .int 0])) (W' := .inr (2, [.ref (N + 1 + 1000), .int 0, .int 0]) :: ([] ++ [.inr (102, [.ref (N + 2 + 1000), .ref (N + 9 + 1000), .ref (N + 16 + 1000), .ref (N + 23 + 1000), .null, .null, .null, .null, .null])] ++ crt0 (N + 2) ++ crt0 (N + 9) ++ crt0 (N + 16) ++ crt0 (N + 23) ++ [.inr (1, [.null, .null, .null, .null, .null, .null, .int 0, .int 0, .int 0, .int 0, .int 0, .int 0, .int 0, .int 0])])) hN rfl rfl rfl (fun _ => rfl) rfl rfl ?_
  refine tr_s .dup 1 43 _ _ _ rfl rfl rfl ?_
  have c43 := in_X2_init (g := g) (d := d) (C := C ++ (.inr (2, [.ref (N + 1 + 1000), .int 0, .int 0]) :: ([] ++ [.inr (102, [.ref (N + 2 + 1000), .ref (N + 9 + 1000), .ref (N + 16 + 1000), .ref (N + 23 + 1000), .null, .null, .null, .null, .null])] ++ crt0 (N + 2) ++ crt0 (N + 9) ++ crt0 (N + 16) ++ crt0 (N + 23)))) (N := N + 30) (u := u + 30) (s := s + 539) (by rw [List.length_append, hN]; rfl)
  rw [List.append_assoc C, List.append_assoc C] at c43
  refine tr_call (.invokespecial 24) 24 5 0 0 m_X2_init [.ref (N + 30 + 1000)] [.ref (N + 30 + 1000), .int ((((0 + 1) + 1) + 1) + 1), .ref (N + 1 + 1000)] none (C ++ (.inr (2, [.ref (N + 1 + 1000), .int 0, .int 0]) :: ([] ++ [.inr (102, [.ref (N + 2 + 1000), .ref (N + 9 + 1000), .ref (N + 16 + 1000), .ref (N + 23 + 1000), .null, .null, .null, .null, .null])] ++ crt0 (N + 2) ++ crt0 (N + 9) ++ crt0 (N + 16) ++ crt0 (N + 23) ++ crt0 (N + 30))), u + 36, s + 654) rfl rfl rfl rfl rfl rfl rfl rfl rfl (tr_cok rfl (Or.inr ⟨_, _, rfl, tr_rcI rfl⟩)) c43 ?_
  refine wz_aas (q := 1) (p := 30) (jj := 4) (W' := .inr (2, [.ref (N + 1 + 1000), .int 0, .int 0]) :: ([] ++ [.inr (102, [.ref (N + 2 + 1000), .ref (N + 9 + 1000), .ref (N + 16 + 1000), .ref (N + 23 + 1000), .ref (N + 30 + 1000), .null, .null, .null, .null])] ++ crt0 (N + 2) ++ crt0 (N + 9) ++ crt0 (N + 16) ++ crt0 (N + 23) ++ crt0 (N + 30))) hN rfl rfl rfl rfl (by decide) (by show 4 < 9; decide) (by show 9 < 2147483648; decide) rfl ?_
  refine tr_inc 1 1 (((((0 + 1) + 1) + 1) + 1)) 1 (by decide) rfl rfl rfl ?_
  refine tr_goto (-25) 25 rfl rfl rfl ?_
  refine tr_s (.iload_n 1) 1 26 _ _ _ rfl rfl rfl ?_
  refine tr_s (.aload_n 0) 1 27 _ _ _ rfl rfl rfl ?_
  refine wz_gf (ci := 2) (sl := 0) (j := 0) hN rfl rfl rfl rfl rfl ?_
  refine tr_alenR _ 102 [.ref (N + 2 + 1000), .ref (N + 9 + 1000), .ref (N + 16 + 1000), .ref (N + 23 + 1000), .ref (N + 30 + 1000), .null, .null, .null, .null] rfl (wz_rd (q := 1) hN rfl) (by omega) (by decide) (by decide) ?_
  refine tr_if2 .ge 22 53 ((((((0 + 1) + 1) + 1) + 1) + 1)) (Int32.ofNat 9) rfl rfl rfl (fun hc => absurd hc (by decide)) (fun _ => ?_)
  refine tr_s (.aload_n 0) 1 35 _ _ _ rfl rfl rfl ?_
  refine wz_gf (ci := 2) (sl := 0) (j := 0) hN rfl rfl rfl rfl rfl ?_
  refine tr_s (.iload_n 1) 1 39 _ _ _ rfl rfl rfl ?_
  refine wz_new (q := 14) (j := 37) (c := .inr (1, [.null, .null, .null, .null, .null, .null, .int 0, .int 0, .int 0, .int 0, .int 0, .int 0, .int 0, .int 0])) (W' := .inr (2, [.ref (N + 1 + 1000), .int 0, .int 0]) :: ([] ++ [.inr (102, [.ref (N + 2 + 1000), .ref (N + 9 + 1000), .ref (N + 16 + 1000), .ref (N + 23 + 1000), .ref (N + 30 + 1000), .null, .null, .null, .null])] ++ crt0 (N + 2) ++ crt0 (N + 9) ++ crt0 (N + 16) ++ crt0 (N + 23) ++ crt0 (N + 30) ++ [.inr (1, [.null, .null, .null, .null, .null, .null, .int 0, .int 0, .int 0, .int 0, .int 0, .int 0, .int 0, .int 0])])) hN rfl rfl rfl (fun _ => rfl) rfl rfl ?_
  refine tr_s .dup 1 43 _ _ _ rfl rfl rfl ?_
  have c43 := in_X2_init (g := g) (d := d) (C := C ++ (.inr (2, [.ref (N + 1 + 1000), .int 0, .int 0]) :: ([] ++ [.inr (102, [.ref (N + 2 + 1000), .ref (N + 9 + 1000), .ref (N + 16 + 1000), .ref (N + 23 + 1000), .ref (N + 30 + 1000), .null, .null, .null, .null])] ++ crt0 (N + 2) ++ crt0 (N + 9) ++ crt0 (N + 16) ++ crt0 (N + 23) ++ crt0 (N + 30)))) (N := N + 37) (u := u + 37) (s := s + 668) (by rw [List.length_append, hN]; rfl)
  rw [List.append_assoc C, List.append_assoc C] at c43
  refine tr_call (.invokespecial 24) 24 5 0 0 m_X2_init [.ref (N + 37 + 1000)] [.ref (N + 37 + 1000), .int (((((0 + 1) + 1) + 1) + 1) + 1), .ref (N + 1 + 1000)] none (C ++ (.inr (2, [.ref (N + 1 + 1000), .int 0, .int 0]) :: ([] ++ [.inr (102, [.ref (N + 2 + 1000), .ref (N + 9 + 1000), .ref (N + 16 + 1000), .ref (N + 23 + 1000), .ref (N + 30 + 1000), .null, .null, .null, .null])] ++ crt0 (N + 2) ++ crt0 (N + 9) ++ crt0 (N + 16) ++ crt0 (N + 23) ++ crt0 (N + 30) ++ crt0 (N + 37))), u + 43, s + 783) rfl rfl rfl rfl rfl rfl rfl rfl rfl (tr_cok rfl (Or.inr ⟨_, _, rfl, tr_rcI rfl⟩)) c43 ?_
  refine wz_aas (q := 1) (p := 37) (jj := 5) (W' := .inr (2, [.ref (N + 1 + 1000), .int 0, .int 0]) :: ([] ++ [.inr (102, [.ref (N + 2 + 1000), .ref (N + 9 + 1000), .ref (N + 16 + 1000), .ref (N + 23 + 1000), .ref (N + 30 + 1000), .ref (N + 37 + 1000), .null, .null, .null])] ++ crt0 (N + 2) ++ crt0 (N + 9) ++ crt0 (N + 16) ++ crt0 (N + 23) ++ crt0 (N + 30) ++ crt0 (N + 37))) hN rfl rfl rfl rfl (by decide) (by show 5 < 9; decide) (by show 9 < 2147483648; decide) rfl ?_
  refine tr_inc 1 1 ((((((0 + 1) + 1) + 1) + 1) + 1)) 1 (by decide) rfl rfl rfl ?_
  refine tr_goto (-25) 25 rfl rfl rfl ?_
  refine tr_s (.iload_n 1) 1 26 _ _ _ rfl rfl rfl ?_
  refine tr_s (.aload_n 0) 1 27 _ _ _ rfl rfl rfl ?_
  refine wz_gf (ci := 2) (sl := 0) (j := 0) hN rfl rfl rfl rfl rfl ?_
  refine tr_alenR _ 102 [.ref (N + 2 + 1000), .ref (N + 9 + 1000), .ref (N + 16 + 1000), .ref (N + 23 + 1000), .ref (N + 30 + 1000), .ref (N + 37 + 1000), .null, .null, .null] rfl (wz_rd (q := 1) hN rfl) (by omega) (by decide) (by decide) ?_
  refine tr_if2 .ge 22 53 (((((((0 + 1) + 1) + 1) + 1) + 1) + 1)) (Int32.ofNat 9) rfl rfl rfl (fun hc => absurd hc (by decide)) (fun _ => ?_)
  refine tr_s (.aload_n 0) 1 35 _ _ _ rfl rfl rfl ?_
  refine wz_gf (ci := 2) (sl := 0) (j := 0) hN rfl rfl rfl rfl rfl ?_
  refine tr_s (.iload_n 1) 1 39 _ _ _ rfl rfl rfl ?_
  refine wz_new (q := 14) (j := 44) (c := .inr (1, [.null, .null, .null, .null, .null, .null, .int 0, .int 0, .int 0, .int 0, .int 0, .int 0, .int 0, .int 0])) (W' := .inr (2, [.ref (N + 1 + 1000), .int 0, .int 0]) :: ([] ++ [.inr (102, [.ref (N + 2 + 1000), .ref (N + 9 + 1000), .ref (N + 16 + 1000), .ref (N + 23 + 1000), .ref (N + 30 + 1000), .ref (N + 37 + 1000), .null, .null, .null])] ++ crt0 (N + 2) ++ crt0 (N + 9) ++ crt0 (N + 16) ++ crt0 (N + 23) ++ crt0 (N + 30) ++ crt0 (N + 37) ++ [.inr (1, [.null, .null, .null, .null, .null, .null, .int 0, .int 0, .int 0, .int 0, .int 0, .int 0, .int 0, .int 0])])) hN rfl rfl rfl (fun _ => rfl) rfl rfl ?_
  refine tr_s .dup 1 43 _ _ _ rfl rfl rfl ?_
  have c43 := in_X2_init (g := g) (d := d) (C := C ++ (.inr (2, [.ref (N + 1 + 1000), .int 0, .int 0]) :: ([] ++ [.inr (102, [.ref (N + 2 + 1000), .ref (N + 9 + 1000), .ref (N + 16 + 1000), .ref (N + 23 + 1000), .ref (N + 30 + 1000), .ref (N + 37 + 1000), .null, .null, .null])] ++ crt0 (N + 2) ++ crt0 (N + 9) ++ crt0 (N + 16) ++ crt0 (N + 23) ++ crt0 (N + 30) ++ crt0 (N + 37)))) (N := N + 44) (u := u + 44) (s := s + 797) (by rw [List.length_append, hN]; rfl)
  rw [List.append_assoc C, List.append_assoc C] at c43
  refine tr_call (.invokespecial 24) 24 5 0 0 m_X2_init [.ref (N + 44 + 1000)] [.ref (N + 44 + 1000), .int ((((((0 + 1) + 1) + 1) + 1) + 1) + 1), .ref (N + 1 + 1000)] none (C ++ (.inr (2, [.ref (N + 1 + 1000), .int 0, .int 0]) :: ([] ++ [.inr (102, [.ref (N + 2 + 1000), .ref (N + 9 + 1000), .ref (N + 16 + 1000), .ref (N + 23 + 1000), .ref (N + 30 + 1000), .ref (N + 37 + 1000), .null, .null, .null])] ++ crt0 (N + 2) ++ crt0 (N + 9) ++ crt0 (N + 16) ++ crt0 (N + 23) ++ crt0 (N + 30) ++ crt0 (N + 37) ++ crt0 (N + 44))), u + 50, s + 912) rfl rfl rfl rfl rfl rfl rfl rfl rfl (tr_cok rfl (Or.inr ⟨_, _, rfl, tr_rcI rfl⟩)) c43 ?_
  refine wz_aas (q := 1) (p := 44) (jj := 6) (W' := .inr (2, [.ref (N + 1 + 1000), .int 0, .int 0]) :: ([] ++ [.inr (102, [.ref (N + 2 + 1000), .ref (N + 9 + 1000), .ref (N + 16 + 1000), .ref (N + 23 + 1000), .ref (N + 30 + 1000), .ref (N + 37 + 1000), .ref (N + 44 + 1000), .null, .null])] ++ crt0 (N + 2) ++ crt0 (N + 9) ++ crt0 (N + 16) ++ crt0 (N + 23) ++ crt0 (N + 30) ++ crt0 (N + 37) ++ crt0 (N + 44))) hN rfl rfl rfl rfl (by decide) (by show 6 < 9; decide) (by show 9 < 2147483648; decide) rfl ?_
  refine tr_inc 1 1 (((((((0 + 1) + 1) + 1) + 1) + 1) + 1)) 1 (by decide) rfl rfl rfl ?_
  refine tr_goto (-25) 25 rfl rfl rfl ?_
  refine tr_s (.iload_n 1) 1 26 _ _ _ rfl rfl rfl ?_
  refine tr_s (.aload_n 0) 1 27 _ _ _ rfl rfl rfl ?_
  refine wz_gf (ci := 2) (sl := 0) (j := 0) hN rfl rfl rfl rfl rfl ?_
  refine tr_alenR _ 102 [.ref (N + 2 + 1000), .ref (N + 9 + 1000), .ref (N + 16 + 1000), .ref (N + 23 + 1000), .ref (N + 30 + 1000), .ref (N + 37 + 1000), .ref (N + 44 + 1000), .null, .null] rfl (wz_rd (q := 1) hN rfl) (by omega) (by decide) (by decide) ?_
  refine tr_if2 .ge 22 53 ((((((((0 + 1) + 1) + 1) + 1) + 1) + 1) + 1)) (Int32.ofNat 9) rfl rfl rfl (fun hc => absurd hc (by decide)) (fun _ => ?_)
  refine tr_s (.aload_n 0) 1 35 _ _ _ rfl rfl rfl ?_
  refine wz_gf (ci := 2) (sl := 0) (j := 0) hN rfl rfl rfl rfl rfl ?_
  refine tr_s (.iload_n 1) 1 39 _ _ _ rfl rfl rfl ?_
  refine wz_new (q := 14) (j := 51) (c := .inr (1, [.null, .null, .null, .null, .null, .null, .int 0, .int 0, .int 0, .int 0, .int 0, .int 0, .int 0, .int 0])) (W' := .inr (2, [.ref (N + 1 + 1000), .int 0, .int 0]) :: ([] ++ [.inr (102, [.ref (N + 2 + 1000), .ref (N + 9 + 1000), .ref (N + 16 + 1000), .ref (N + 23 + 1000), .ref (N + 30 + 1000), .ref (N + 37 + 1000), .ref (N + 44 + 1000), .null, .null])] ++ crt0 (N + 2) ++ crt0 (N + 9) ++ crt0 (N + 16) ++ crt0 (N + 23) ++ crt0 (N + 30) ++ crt0 (N + 37) ++ crt0 (N + 44) ++ [.inr (1, [.null, .null, .null, .null, .null, .null, .int 0, .int 0, .int 0, .int 0, .int 0, .int 0, .int 0, .int 0])])) hN rfl rfl rfl (fun _ => rfl) rfl rfl ?_
  refine tr_s .dup 1 43 _ _ _ rfl rfl rfl ?_
  have c43 := in_X2_init (g := g) (d := d) (C := C ++ (.inr (2, [.ref (N + 1 + 1000), .int 0, .int 0]) :: ([] ++ [.inr (102, [.ref (N + 2 + 1000), .ref (N + 9 + 1000), .ref (N + 16 + 1000), .ref (N + 23 + 1000), .ref (N + 30 + 1000), .ref (N + 37 + 1000), .ref (N + 44 + 1000), .null, .null])] ++ crt0 (N + 2) ++ crt0 (N + 9) ++ crt0 (N + 16) ++ crt0 (N + 23) ++ crt0 (N + 30) ++ crt0 (N + 37) ++ crt0 (N + 44)))) (N := N + 51) (u := u + 51) (s := s + 926) (by rw [List.length_append, hN]; rfl)
  rw [List.append_assoc C, List.append_assoc C] at c43
  refine tr_call (.invokespecial 24) 24 5 0 0 m_X2_init [.ref (N + 51 + 1000)] [.ref (N + 51 + 1000), .int (((((((0 + 1) + 1) + 1) + 1) + 1) + 1) + 1), .ref (N + 1 + 1000)] none (C ++ (.inr (2, [.ref (N + 1 + 1000), .int 0, .int 0]) :: ([] ++ [.inr (102, [.ref (N + 2 + 1000), .ref (N + 9 + 1000), .ref (N + 16 + 1000), .ref (N + 23 + 1000), .ref (N + 30 + 1000), .ref (N + 37 + 1000), .ref (N + 44 + 1000), .null, .null])] ++ crt0 (N + 2) ++ crt0 (N + 9) ++ crt0 (N + 16) ++ crt0 (N + 23) ++ crt0 (N + 30) ++ crt0 (N + 37) ++ crt0 (N + 44) ++ crt0 (N + 51))), u + 57, s + 1041) rfl rfl rfl rfl rfl rfl rfl rfl rfl (tr_cok rfl (Or.inr ⟨_, _, rfl, tr_rcI rfl⟩)) c43 ?_
  refine wz_aas (q := 1) (p := 51) (jj := 7) (W' := .inr (2, [.ref (N + 1 + 1000), .int 0, .int 0]) :: ([] ++ [.inr (102, [.ref (N + 2 + 1000), .ref (N + 9 + 1000), .ref (N + 16 + 1000), .ref (N + 23 + 1000), .ref (N + 30 + 1000), .ref (N + 37 + 1000), .ref (N + 44 + 1000), .ref (N + 51 + 1000), .null])] ++ crt0 (N + 2) ++ crt0 (N + 9) ++ crt0 (N + 16) ++ crt0 (N + 23) ++ crt0 (N + 30) ++ crt0 (N + 37) ++ crt0 (N + 44) ++ crt0 (N + 51))) hN rfl rfl rfl rfl (by decide) (by show 7 < 9; decide) (by show 9 < 2147483648; decide) rfl ?_
  refine tr_inc 1 1 ((((((((0 + 1) + 1) + 1) + 1) + 1) + 1) + 1)) 1 (by decide) rfl rfl rfl ?_
  refine tr_goto (-25) 25 rfl rfl rfl ?_
  refine tr_s (.iload_n 1) 1 26 _ _ _ rfl rfl rfl ?_
  refine tr_s (.aload_n 0) 1 27 _ _ _ rfl rfl rfl ?_
  refine wz_gf (ci := 2) (sl := 0) (j := 0) hN rfl rfl rfl rfl rfl ?_
  refine tr_alenR _ 102 [.ref (N + 2 + 1000), .ref (N + 9 + 1000), .ref (N + 16 + 1000), .ref (N + 23 + 1000), .ref (N + 30 + 1000), .ref (N + 37 + 1000), .ref (N + 44 + 1000), .ref (N + 51 + 1000), .null] rfl (wz_rd (q := 1) hN rfl) (by omega) (by decide) (by decide) ?_
  refine tr_if2 .ge 22 53 (((((((((0 + 1) + 1) + 1) + 1) + 1) + 1) + 1) + 1)) (Int32.ofNat 9) rfl rfl rfl (fun hc => absurd hc (by decide)) (fun _ => ?_)
  refine tr_s (.aload_n 0) 1 35 _ _ _ rfl rfl rfl ?_
  refine wz_gf (ci := 2) (sl := 0) (j := 0) hN rfl rfl rfl rfl rfl ?_
  refine tr_s (.iload_n 1) 1 39 _ _ _ rfl rfl rfl ?_
  refine wz_new (q := 14) (j := 58) (c := .inr (1, [.null, .null, .null, .null, .null, .null, .int 0, .int 0, .int 0, .int 0, .int 0, .int 0, .int 0, .int 0])) (W' := .inr (2, [.ref (N + 1 + 1000), .int 0, .int 0]) :: ([] ++ [.inr (102, [.ref (N + 2 + 1000), .ref (N + 9 + 1000), .ref (N + 16 + 1000), .ref (N + 23 + 1000), .ref (N + 30 + 1000), .ref (N + 37 + 1000), .ref (N + 44 + 1000), .ref (N + 51 + 1000), .null])] ++ crt0 (N + 2) ++ crt0 (N + 9) ++ crt0 (N + 16) ++ crt0 (N + 23) ++ crt0 (N + 30) ++ crt0 (N + 37) ++ crt0 (N + 44) ++ crt0 (N + 51) ++ [.inr (1, [.null, .null, .null, .null, .null, .null, .int 0, .int 0, .int 0, .int 0, .int 0, .int 0, .int 0, .int 0])])) hN rfl rfl rfl (fun _ => rfl) rfl rfl ?_
  refine tr_s .dup 1 43 _ _ _ rfl rfl rfl ?_
  have c43 := in_X2_init (g := g) (d := d) (C := C ++ (.inr (2, [.ref (N + 1 + 1000), .int 0, .int 0]) :: ([] ++ [.inr (102, [.ref (N + 2 + 1000), .ref (N + 9 + 1000), .ref (N + 16 + 1000), .ref (N + 23 + 1000), .ref (N + 30 + 1000), .ref (N + 37 + 1000), .ref (N + 44 + 1000), .ref (N + 51 + 1000), .null])] ++ crt0 (N + 2) ++ crt0 (N + 9) ++ crt0 (N + 16) ++ crt0 (N + 23) ++ crt0 (N + 30) ++ crt0 (N + 37) ++ crt0 (N + 44) ++ crt0 (N + 51)))) (N := N + 58) (u := u + 58) (s := s + 1055) (by rw [List.length_append, hN]; rfl)
  rw [List.append_assoc C, List.append_assoc C] at c43
  refine tr_call (.invokespecial 24) 24 5 0 0 m_X2_init [.ref (N + 58 + 1000)] [.ref (N + 58 + 1000), .int ((((((((0 + 1) + 1) + 1) + 1) + 1) + 1) + 1) + 1), .ref (N + 1 + 1000)] none (C ++ (.inr (2, [.ref (N + 1 + 1000), .int 0, .int 0]) :: ([] ++ [.inr (102, [.ref (N + 2 + 1000), .ref (N + 9 + 1000), .ref (N + 16 + 1000), .ref (N + 23 + 1000), .ref (N + 30 + 1000), .ref (N + 37 + 1000), .ref (N + 44 + 1000), .ref (N + 51 + 1000), .null])] ++ crt0 (N + 2) ++ crt0 (N + 9) ++ crt0 (N + 16) ++ crt0 (N + 23) ++ crt0 (N + 30) ++ crt0 (N + 37) ++ crt0 (N + 44) ++ crt0 (N + 51) ++ crt0 (N + 58))), u + 64, s + 1170) rfl rfl rfl rfl rfl rfl rfl rfl rfl (tr_cok rfl (Or.inr ⟨_, _, rfl, tr_rcI rfl⟩)) c43 ?_
  refine wz_aas (q := 1) (p := 58) (jj := 8) (W' := .inr (2, [.ref (N + 1 + 1000), .int 0, .int 0]) :: ([] ++ [.inr (102, [.ref (N + 2 + 1000), .ref (N + 9 + 1000), .ref (N + 16 + 1000), .ref (N + 23 + 1000), .ref (N + 30 + 1000), .ref (N + 37 + 1000), .ref (N + 44 + 1000), .ref (N + 51 + 1000), .ref (N + 58 + 1000)])] ++ crt0 (N + 2) ++ crt0 (N + 9) ++ crt0 (N + 16) ++ crt0 (N + 23) ++ crt0 (N + 30) ++ crt0 (N + 37) ++ crt0 (N + 44) ++ crt0 (N + 51) ++ crt0 (N + 58))) hN rfl rfl rfl rfl (by decide) (by show 8 < 9; decide) (by show 9 < 2147483648; decide) rfl ?_
  refine tr_inc 1 1 (((((((((0 + 1) + 1) + 1) + 1) + 1) + 1) + 1) + 1)) 1 (by decide) rfl rfl rfl ?_
  refine tr_goto (-25) 25 rfl rfl rfl ?_
  refine tr_s (.iload_n 1) 1 26 _ _ _ rfl rfl rfl ?_
  refine tr_s (.aload_n 0) 1 27 _ _ _ rfl rfl rfl ?_
  refine wz_gf (ci := 2) (sl := 0) (j := 0) hN rfl rfl rfl rfl rfl ?_
  refine tr_alenR _ 102 [.ref (N + 2 + 1000), .ref (N + 9 + 1000), .ref (N + 16 + 1000), .ref (N + 23 + 1000), .ref (N + 30 + 1000), .ref (N + 37 + 1000), .ref (N + 44 + 1000), .ref (N + 51 + 1000), .ref (N + 58 + 1000)] rfl (wz_rd (q := 1) hN rfl) (by omega) (by decide) (by decide) ?_
  refine tr_if2 .ge 22 53 ((((((((((0 + 1) + 1) + 1) + 1) + 1) + 1) + 1) + 1) + 1)) (Int32.ofNat 9) rfl rfl rfl (fun _ => ?_) (fun hc => absurd hc (by decide))
  exact tr_ret .return_ 1 none rfl rfl rfl rfl trivial rfl
end
