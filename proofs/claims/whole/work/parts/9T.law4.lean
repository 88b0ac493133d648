/-! THE LAW: the changes -/
section
variable {g : tr_g} {d i : Nat} {h : ev_AH} {a b k : Nat} {Q : ev_O × ev_AH → Prop}
theorem lc_addCat (hg : ev_cat1 g.2 = true) (s : lwS a b k h) (hk : k < 900) (hi : i + 4 < g.1.length) (hz : g.1.length < 2147483648) (kk : ∀ h', lwS a b (k + 1) h' → ∃ r, Q r ∧ ∀ w6 w7 w8, tr_L g (d + 15) m_law 28 [some (.ref 0), some (.ref 1000), some (.ref 1099), some (.ref 1109), some (.ref 1110), some (.int (Int32.ofNat i + 5)), w6, w7, w8] [] h' r) : ∃ r, Q r ∧ ∀ w6 w7 w8, tr_L g (d + 15) m_law 276 [some (.ref 0), some (.ref 1000), some (.ref 1099), some (.ref 1109), some (.ref 1110), some (.int (Int32.ofNat i)), w6, w7, w8] [] h r := by
  obtain ⟨hL, s1, s2, c, P, S, y, l, t, B, ci, mi, w⟩ := s
  have q : cQ h c (cn c) := ⟨ci.1, w.1.1⟩
  have i1 : ∀ j, Int32.ofNat i + Int32.ofNat j = Int32.ofNat (i + j) := fun j => ii_a i j
  have wB := w.2.2.2.1
  obtain ⟨h1, M1, r1, c1⟩ := op_add (g := g) (d := d + 1) (x := (g.1.getD (i + 1) 0)) (a := (((g.1.getD (i + 2) 0).toUInt32 % 65536).toInt32)) (b := (((g.1.getD (i + 3) 0).toUInt32 % 65536).toInt32)) (e := (((g.1.getD (i + 4) 0).toUInt32 % 65536).toInt32)) hL ci q
  have L1 := ro_L r1.2
  obtain ⟨md, p⟩ := mid_w (A := (do_add c P y (cn c) (g.1.getD (i + 1) 0) (((g.1.getD (i + 2) 0).toUInt32 % 65536).toInt32) (((g.1.getD (i + 3) 0).toUInt32 % 65536).toInt32) (((g.1.getD (i + 4) 0).toUInt32 % 65536).toInt32)).1) L1 M1 (by omega) (by omega) c1 mi
  have x1 := wr_addCat (d := d + 13) hL r1 (fun E hE => ax_add hE)
  obtain ⟨h2, m2, r2⟩ := mo_addCat (g := g) (d := d + 2) (x := (g.1.getD (i + 1) 0)) (a := (((g.1.getD (i + 2) 0).toUInt32 % 65536).toInt32)) (b := (((g.1.getD (i + 3) 0).toUInt32 % 65536).toInt32)) (e := (((g.1.getD (i + 4) 0).toUInt32 % 65536).toInt32)) x1.2 md.2.2.2 w.1
  obtain ⟨z1, z2, z3, _⟩ := do_add_eq (P := P) (y := y) (x := (g.1.getD (i + 1) 0)) (a := (((g.1.getD (i + 2) 0).toUInt32 % 65536).toInt32)) (b := (((g.1.getD (i + 3) 0).toUInt32 % 65536).toInt32)) (e := (((g.1.getD (i + 4) 0).toUInt32 % 65536).toInt32)) w.1.1.2.1 w.1
  obtain ⟨n', qn⟩ := cats_cw (x := (g.1.getD (i + 1) 0)) (a := (((g.1.getD (i + 2) 0).toUInt32 % 65536).toInt32)) (b := (((g.1.getD (i + 3) 0).toUInt32 % 65536).toInt32)) (e := (((g.1.getD (i + 4) 0).toUInt32 % 65536).toInt32)) w.1
  have w2 : lw (do_add c P y (cn c) (g.1.getD (i + 1) 0) (((g.1.getD (i + 2) 0).toUInt32 % 65536).toInt32) (((g.1.getD (i + 3) 0).toUInt32 % 65536).toInt32) (((g.1.getD (i + 4) 0).toUInt32 % 65536).toInt32)).2.1 (do_add c P y (cn c) (g.1.getD (i + 1) 0) (((g.1.getD (i + 2) 0).toUInt32 % 65536).toInt32) (((g.1.getD (i + 3) 0).toUInt32 % 65536).toInt32) (((g.1.getD (i + 4) 0).toUInt32 % 65536).toInt32)).2.2.1 S (do_add c P y (cn c) (g.1.getD (i + 1) 0) (((g.1.getD (i + 2) 0).toUInt32 % 65536).toInt32) (((g.1.getD (i + 3) 0).toUInt32 % 65536).toInt32) (((g.1.getD (i + 4) 0).toUInt32 % 65536).toInt32)).2.2.2 t (B + 1) (k + 1) := by
    rw [z1, z2, z3]
    exact lw_o w qn (by omega) (by omega)
  have e2 := end_w s1 s2 md r2.2 m2.1 m2.2.2 w2
  have i7 := m2.2.1
  have r3 := sg_X9_thrown_0 (g := g) (d := d + 14) r2.2 rfl
  obtain ⟨r, hQ, kr⟩ := kk h2 e2
  refine ⟨r, hQ, fun w6 w7 w8 => ?_⟩
  rcases cmp_w (f := cd3) (fun E hE => by rcases ax_add hE with rfl | rfl | rfl <;> decide) p m2.1 (by decide) with e | ⟨e, p2⟩
  · exact sg_law_276 hL (d := d + 14) (j0 := i + 1) (j1 := i + 2) (j2 := i + 3) (j3 := i + 4) (j4 := i + 1) (j5 := i + 2) (j6 := i + 3) (j7 := i + 4) (i1 1) (by omega) hz (i1 2) (by omega) hz (i1 3) (by omega) hz (i1 4) (by omega) hz x1 (i1 1) (by omega) hz (i1 2) (by omega) hz (i1 3) (by omega) hz (i1 4) (by omega) hz r2 r3 (fun _ => sg_law_354 r2.2 (fun _ => sg_law_371 r2.2 (kr _ _ _)) (fun q => absurd q e)) (fun q => absurd i7 q)
  · exact sg_law_276 hL (d := d + 14) (j0 := i + 1) (j1 := i + 2) (j2 := i + 3) (j3 := i + 4) (j4 := i + 1) (j5 := i + 2) (j6 := i + 3) (j7 := i + 4) (i1 1) (by omega) hz (i1 2) (by omega) hz (i1 3) (by omega) hz (i1 4) (by omega) hz x1 (i1 1) (by omega) hz (i1 2) (by omega) hz (i1 3) (by omega) hz (i1 4) (by omega) hz r2 r3 (fun _ => sg_law_354 r2.2 (fun q => absurd e q) (fun _ => sg_law_359 r2.2 p2 (fun _ => sg_law_371 r2.2 (kr _ _ _)) (fun q => absurd lg_self q))) (fun q => absurd i7 q)
theorem lc_setMirror (hg : ev_cat1 g.2 = true) (s : lwS a b k h) (hk : k < 900) (hi : i + 4 < g.1.length) (hz : g.1.length < 2147483648) (kk : ∀ h', lwS a b (k + 1) h' → ∃ r, Q r ∧ ∀ w6 w7 w8, tr_L g (d + 15) m_law 28 [some (.ref 0), some (.ref 1000), some (.ref 1099), some (.ref 1109), some (.ref 1110), some (.int (Int32.ofNat i + 5)), w6, w7, w8] [] h' r) : ∃ r, Q r ∧ ∀ w6 w7 w8, tr_L g (d + 15) m_law 374 [some (.ref 0), some (.ref 1000), some (.ref 1099), some (.ref 1109), some (.ref 1110), some (.int (Int32.ofNat i)), w6, w7, w8] [] h r := by
  obtain ⟨hL, s1, s2, c, P, S, y, l, t, B, ci, mi, w⟩ := s
  have q : cQ h c (cn c) := ⟨ci.1, w.1.1⟩
  have i1 : ∀ j, Int32.ofNat i + Int32.ofNat j = Int32.ofNat (i + j) := fun j => ii_a i j
  have wB := w.2.2.2.1
  obtain ⟨h1, M1, r1, c1⟩ := op_mir (g := g) (d := d + 1) (x := (g.1.getD (i + 1) 0)) (a := (((g.1.getD (i + 2) 0).toUInt32 % 65536).toInt32)) hL ci q (tr_chc _)
  have L1 := ro_L r1.2
  obtain ⟨md, p⟩ := mid_w (A := (do_mir c P y (cn c) (g.1.getD (i + 1) 0) (((g.1.getD (i + 2) 0).toUInt32 % 65536).toInt32)).1) L1 M1 (by omega) (by omega) c1 mi
  have x1 := wr_setMirror (d := d + 13) hL r1 (fun E hE => ax_mir hE)
  obtain ⟨h2, m2, r2⟩ := mo_setMirror (g := g) (d := d + 2) (x := (g.1.getD (i + 1) 0)) (a := (((g.1.getD (i + 2) 0).toUInt32 % 65536).toInt32)) x1.2 md.2.2.2 w.1
  obtain ⟨z1, z2, z3, _⟩ := do_mir_eq (c := c) (n := cn c) (P := P) (y := y) (x := (g.1.getD (i + 1) 0)) (a := (((g.1.getD (i + 2) 0).toUInt32 % 65536).toInt32))
  obtain ⟨n', qn⟩ := mir_cw (x := (g.1.getD (i + 1) 0)) (a := (((g.1.getD (i + 2) 0).toUInt32 % 65536).toInt32)) w.1
  have w2 : lw (do_mir c P y (cn c) (g.1.getD (i + 1) 0) (((g.1.getD (i + 2) 0).toUInt32 % 65536).toInt32)).2.1 (do_mir c P y (cn c) (g.1.getD (i + 1) 0) (((g.1.getD (i + 2) 0).toUInt32 % 65536).toInt32)).2.2.1 S (do_mir c P y (cn c) (g.1.getD (i + 1) 0) (((g.1.getD (i + 2) 0).toUInt32 % 65536).toInt32)).2.2.2 t (B + 1) (k + 1) := by
    rw [z1, z2, z3]
    exact lw_o w qn (by omega) (by omega)
  have e2 := end_w s1 s2 md r2.2 m2.1 m2.2.2 w2
  have i7 := m2.2.1
  have r3 := sg_X9_thrown_0 (g := g) (d := d + 14) r2.2 rfl
  obtain ⟨r, hQ, kr⟩ := kk h2 e2
  refine ⟨r, hQ, fun w6 w7 w8 => ?_⟩
  rcases cmp_w (f := cd3) (fun E hE => by rcases ax_mir hE with rfl | rfl | rfl <;> decide) p m2.1 (by decide) with e | ⟨e, p2⟩
  · exact sg_law_374 hL (d := d + 14) (j0 := i + 1) (j1 := i + 2) (j2 := i + 1) (j3 := i + 2) (i1 1) (by omega) hz (i1 2) (by omega) hz x1 (i1 1) (by omega) hz (i1 2) (by omega) hz r2 r3 (fun _ => sg_law_424 r2.2 (fun _ => sg_law_441 r2.2 (kr _ _ _)) (fun q => absurd q e)) (fun q => absurd i7 q)
  · exact sg_law_374 hL (d := d + 14) (j0 := i + 1) (j1 := i + 2) (j2 := i + 1) (j3 := i + 2) (i1 1) (by omega) hz (i1 2) (by omega) hz x1 (i1 1) (by omega) hz (i1 2) (by omega) hz r2 r3 (fun _ => sg_law_424 r2.2 (fun q => absurd e q) (fun _ => sg_law_429 r2.2 p2 (fun _ => sg_law_441 r2.2 (kr _ _ _)) (fun q => absurd lg_self q))) (fun q => absurd i7 q)
theorem lc_testify (hg : ev_cat1 g.2 = true) (s : lwS a b k h) (hk : k < 900) (hi : i + 4 < g.1.length) (hz : g.1.length < 2147483648) (kk : ∀ h', lwS a b (k + 1) h' → ∃ r, Q r ∧ ∀ w6 w7 w8, tr_L g (d + 15) m_law 28 [some (.ref 0), some (.ref 1000), some (.ref 1099), some (.ref 1109), some (.ref 1110), some (.int (Int32.ofNat i + 5)), w6, w7, w8] [] h' r) : ∃ r, Q r ∧ ∀ w6 w7 w8, tr_L g (d + 15) m_law 1291 [some (.ref 0), some (.ref 1000), some (.ref 1099), some (.ref 1109), some (.ref 1110), some (.int (Int32.ofNat i)), w6, w7, w8] [] h r := by
  obtain ⟨hL, s1, s2, c, P, S, y, l, t, B, ci, mi, w⟩ := s
  have q : cQ h c (cn c) := ⟨ci.1, w.1.1⟩
  have i1 : ∀ j, Int32.ofNat i + Int32.ofNat j = Int32.ofNat (i + j) := fun j => ii_a i j
  have wB := w.2.2.2.1
  obtain ⟨h1, M1, r1, c1⟩ := op_test (g := g) (d := d + 1) (x := (g.1.getD (i + 1) 0)) (a := (((g.1.getD (i + 2) 0).toUInt32 % 65536).toInt32)) hL ci q
  have L1 := ro_L r1.2
  obtain ⟨md, p⟩ := mid_w (A := (do_test c P y (cn c) (g.1.getD (i + 1) 0) (((g.1.getD (i + 2) 0).toUInt32 % 65536).toInt32)).1) L1 M1 (by omega) (by omega) c1 mi
  have x1 := wr_testify (d := d + 13) hL r1 (fun E hE => ax_test hE)
  obtain ⟨h2, m2, r2⟩ := mo_testify (g := g) (d := d + 2) (x := (g.1.getD (i + 1) 0)) (a := (((g.1.getD (i + 2) 0).toUInt32 % 65536).toInt32)) x1.2 md.2.2.2 w.1 (R_end_of w.1.2.2.1)
  obtain ⟨z1, z2, z3, _⟩ := do_test_eq (c := c) (n := cn c) (P := P) (y := y) (x := (g.1.getD (i + 1) 0)) (a := (((g.1.getD (i + 2) 0).toUInt32 % 65536).toInt32))
  obtain ⟨n', qn⟩ := says_cw (x := (g.1.getD (i + 1) 0)) (a := (((g.1.getD (i + 2) 0).toUInt32 % 65536).toInt32)) w.1
  have w2 : lw (do_test c P y (cn c) (g.1.getD (i + 1) 0) (((g.1.getD (i + 2) 0).toUInt32 % 65536).toInt32)).2.1 (do_test c P y (cn c) (g.1.getD (i + 1) 0) (((g.1.getD (i + 2) 0).toUInt32 % 65536).toInt32)).2.2.1 S (do_test c P y (cn c) (g.1.getD (i + 1) 0) (((g.1.getD (i + 2) 0).toUInt32 % 65536).toInt32)).2.2.2 t (B + 1) (k + 1) := by
    rw [z1, z2, z3]
    exact lw_o w qn (by omega) (by omega)
  have e2 := end_w s1 s2 md r2.2 m2.1 m2.2.2 w2
  have i7 := m2.2.1
  have r3 := sg_X9_thrown_0 (g := g) (d := d + 14) r2.2 rfl
  obtain ⟨r, hQ, kr⟩ := kk h2 e2
  refine ⟨r, hQ, fun w6 w7 w8 => ?_⟩
  rcases cmp_w (f := cd_ray) (fun E hE => by rcases ax_test hE with rfl | rfl <;> decide) p m2.1 (by decide) with e | ⟨e, p2⟩
  · exact sg_law_1291 hL (d := d + 14) (j0 := i + 1) (j1 := i + 2) (j2 := i + 1) (j3 := i + 2) (i1 1) (by omega) hz (i1 2) (by omega) hz x1 (i1 1) (by omega) hz (i1 2) (by omega) hz r2 r3 (fun _ => sg_law_1341 r2.2 (fun _ => sg_law_1358 r2.2 (kr _ _ _)) (fun q => absurd q e)) (fun q => absurd i7 q)
  · exact sg_law_1291 hL (d := d + 14) (j0 := i + 1) (j1 := i + 2) (j2 := i + 1) (j3 := i + 2) (i1 1) (by omega) hz (i1 2) (by omega) hz x1 (i1 1) (by omega) hz (i1 2) (by omega) hz r2 r3 (fun _ => sg_law_1341 r2.2 (fun q => absurd e q) (fun _ => sg_law_1346 r2.2 p2 (fun _ => sg_law_1358 r2.2 (kr _ _ _)) (fun q => absurd lg_self q))) (fun q => absurd i7 q)
theorem lc_setMethod (hg : ev_cat1 g.2 = true) (s : lwS a b k h) (hk : k < 900) (hi : i + 4 < g.1.length) (hz : g.1.length < 2147483648) (kk : ∀ h', lwS a b (k + 1) h' → ∃ r, Q r ∧ ∀ w6 w7 w8, tr_L g (d + 15) m_law 28 [some (.ref 0), some (.ref 1000), some (.ref 1099), some (.ref 1109), some (.ref 1110), some (.int (Int32.ofNat i + 5)), w6, w7, w8] [] h' r) : ∃ r, Q r ∧ ∀ w6 w7 w8, tr_L g (d + 15) m_law 1934 [some (.ref 0), some (.ref 1000), some (.ref 1099), some (.ref 1109), some (.ref 1110), some (.int (Int32.ofNat i)), w6, w7, w8] [] h r := by
  obtain ⟨hL, s1, s2, c, P, S, y, l, t, B, ci, mi, w⟩ := s
  have q : cQ h c (cn c) := ⟨ci.1, w.1.1⟩
  have i1 : ∀ j, Int32.ofNat i + Int32.ofNat j = Int32.ofNat (i + j) := fun j => ii_a i j
  have wB := w.2.2.2.1
  obtain ⟨h1, M1, r1, c1⟩ := op_meth (g := g) (d := d + 1) (a := (((g.1.getD (i + 1) 0).toUInt32 % 65536).toInt32)) hL ci q (tr_chc _)
  have L1 := ro_L r1.2
  obtain ⟨md, p⟩ := mid_w (A := (do_meth c P (((g.1.getD (i + 1) 0).toUInt32 % 65536).toInt32)).1) L1 M1 (by omega) (by omega) c1 mi
  have x1 := wr_setMethod (d := d + 13) hL r1 (fun E hE => ax_meth hE)
  obtain ⟨h2, m2, r2⟩ := mo_setMethod (g := g) (d := d + 2) (a := (((g.1.getD (i + 1) 0).toUInt32 % 65536).toInt32)) x1.2 md.2.2.2 w.1
  obtain ⟨z1, z2, z3, _⟩ := do_meth_eq (c := c) (P := P) (y := y) (a := (((g.1.getD (i + 1) 0).toUInt32 % 65536).toInt32))
  obtain ⟨n', qn⟩ := meth_cw (a := (((g.1.getD (i + 1) 0).toUInt32 % 65536).toInt32)) w.1
  have w2 : lw (do_meth c P (((g.1.getD (i + 1) 0).toUInt32 % 65536).toInt32)).2.1 (do_meth c P (((g.1.getD (i + 1) 0).toUInt32 % 65536).toInt32)).2.2 S y t (B + 1) (k + 1) := by
    rw [z1, z2]
    have w3 := lw_o w qn (by omega) (by omega)
    rw [← z3] at w3
    exact w3
  have e2 := end_w s1 s2 md r2.2 m2.1 m2.2.2 w2
  have i7 := m2.2.1
  have r3 := sg_X9_thrown_0 (g := g) (d := d + 14) r2.2 rfl
  obtain ⟨r, hQ, kr⟩ := kk h2 e2
  refine ⟨r, hQ, fun w6 w7 w8 => ?_⟩
  rcases cmp_w (f := (fun _ => 1)) (fun E hE => by rcases ax_meth hE with rfl <;> decide) p m2.1 (by decide) with e | ⟨e, p2⟩
  · exact sg_law_1934 hL (d := d + 14) (j0 := i + 1) (j1 := i + 1) (i1 1) (by omega) hz x1 (i1 1) (by omega) hz r2 r3 (fun _ => sg_law_1972 r2.2 (fun _ => sg_law_1989 r2.2 (kr _ _ _)) (fun q => absurd q e)) (fun q => absurd i7 q)
  · exact sg_law_1934 hL (d := d + 14) (j0 := i + 1) (j1 := i + 1) (i1 1) (by omega) hz x1 (i1 1) (by omega) hz r2 r3 (fun _ => sg_law_1972 r2.2 (fun q => absurd e q) (fun _ => sg_law_1977 r2.2 p2 (fun _ => sg_law_1989 r2.2 (kr _ _ _)) (fun q => absurd lg_self q))) (fun q => absurd i7 q)
theorem lc_deliberate (hg : ev_cat1 g.2 = true) (s : lwS a b k h) (hk : k < 900) (hi : i + 4 < g.1.length) (hz : g.1.length < 2147483648) (kk : ∀ h', lwS a b (k + 1) h' → ∃ r, Q r ∧ ∀ w6 w7 w8, tr_L g (d + 15) m_law 28 [some (.ref 0), some (.ref 1000), some (.ref 1099), some (.ref 1109), some (.ref 1110), some (.int (Int32.ofNat i + 5)), w6, w7, w8] [] h' r) : ∃ r, Q r ∧ ∀ w6 w7 w8, tr_L g (d + 15) m_law 2005 [some (.ref 0), some (.ref 1000), some (.ref 1099), some (.ref 1109), some (.ref 1110), some (.int (Int32.ofNat i)), w6, w7, w8] [] h r := by
  obtain ⟨hL, s1, s2, c, P, S, y, l, t, B, ci, mi, w⟩ := s
  have q : cQ h c (cn c) := ⟨ci.1, w.1.1⟩
  have i1 : ∀ j, Int32.ofNat i + Int32.ofNat j = Int32.ofNat (i + j) := fun j => ii_a i j
  have wB := w.2.2.2.1
  obtain ⟨h1, M1, r1, c1⟩ := op_delib (g := g) (d := d + 1)  hL ci q
  have L1 := ro_L r1.2
  obtain ⟨md, p⟩ := mid_w (A := (do_delib c P y (cn c)).1) L1 M1 (by omega) (by omega) c1 mi
  have x1 := wr_deliberate (d := d + 13) hL r1 (fun E hE => ax_delib hE)
  obtain ⟨h2, m2, r2⟩ := mo_deliberate (g := g) (d := d + 2)  x1.2 md.2.2.2 w.1 (by omega) (exS_of w.1.1.2.1)
  obtain ⟨z1, z2, z3, _⟩ := do_delib_eq (P := P) (y := y) w.1
  obtain ⟨n', qn⟩ := vote_cw w.1
  have w2 : lw (do_delib c P y (cn c)).2.1 (do_delib c P y (cn c)).2.2.1 S (do_delib c P y (cn c)).2.2.2 t (B + 1) (k + 1) := by
    rw [z1, z2, z3]
    exact lw_o w qn (by omega) (by omega)
  have e2 := end_w s1 s2 md r2.2 m2.1 m2.2.2 w2
  have i7 := m2.2.1
  have r3 := sg_X9_thrown_0 (g := g) (d := d + 14) r2.2 rfl
  obtain ⟨r, hQ, kr⟩ := kk h2 e2
  refine ⟨r, hQ, fun w6 w7 w8 => ?_⟩
  rcases cmp_w (f := (fun _ => 1)) (fun E hE => by rcases ax_delib hE with rfl <;> decide) p m2.1 (by decide) with e | ⟨e, p2⟩
  · exact sg_law_2005 hL (d := d + 14)   x1  r2 r3 (fun _ => sg_law_2029 r2.2 (fun _ => sg_law_2046 r2.2 (kr _ _ _)) (fun q => absurd q e)) (fun q => absurd i7 q)
  · exact sg_law_2005 hL (d := d + 14)   x1  r2 r3 (fun _ => sg_law_2029 r2.2 (fun q => absurd e q) (fun _ => sg_law_2034 r2.2 p2 (fun _ => sg_law_2046 r2.2 (kr _ _ _)) (fun q => absurd lg_self q))) (fun q => absurd i7 q)
theorem lc_retry (hg : ev_cat1 g.2 = true) (s : lwS a b k h) (hk : k < 900) (hi : i + 4 < g.1.length) (hz : g.1.length < 2147483648) (kk : ∀ h', lwS a b (k + 1) h' → ∃ r, Q r ∧ ∀ w6 w7 w8, tr_L g (d + 15) m_law 28 [some (.ref 0), some (.ref 1000), some (.ref 1099), some (.ref 1109), some (.ref 1110), some (.int (Int32.ofNat i + 5)), w6, w7, w8] [] h' r) : ∃ r, Q r ∧ ∀ w6 w7 w8, tr_L g (d + 15) m_law 2049 [some (.ref 0), some (.ref 1000), some (.ref 1099), some (.ref 1109), some (.ref 1110), some (.int (Int32.ofNat i)), w6, w7, w8] [] h r := by
  obtain ⟨hL, s1, s2, c, P, S, y, l, t, B, ci, mi, w⟩ := s
  have q : cQ h c (cn c) := ⟨ci.1, w.1.1⟩
  have i1 : ∀ j, Int32.ofNat i + Int32.ofNat j = Int32.ofNat (i + j) := fun j => ii_a i j
  have wB := w.2.2.2.1
  obtain ⟨h1, M1, r1, c1⟩ := op_retry (g := g) (d := d + 1)  hL ci q
  have L1 := ro_L r1.2
  obtain ⟨md, p⟩ := mid_w (A := (do_retry c P y (cn c)).1) L1 M1 (by omega) (by omega) c1 mi
  have x1 := wr_retry (d := d + 13) hL r1 (fun E hE => ax_retry hE)
  obtain ⟨h2, m2, r2⟩ := mo_retry (g := g) (d := d + 2)  x1.2 md.2.2.2 w.1
  obtain ⟨z1, z2, z3, _⟩ := do_retry_eq (c := c) (n := cn c) (P := P) (y := y)
  obtain ⟨n', qn⟩ := ret_cw w.1
  have w2 : lw (do_retry c P y (cn c)).2.1 (do_retry c P y (cn c)).2.2.1 S (do_retry c P y (cn c)).2.2.2 t (B + 1) (k + 1) := by
    rw [z1, z2, z3]
    exact lw_o w qn (by omega) (by omega)
  have e2 := end_w s1 s2 md r2.2 m2.1 m2.2.2 w2
  have i7 := m2.2.1
  have r3 := sg_X9_thrown_0 (g := g) (d := d + 14) r2.2 rfl
  obtain ⟨r, hQ, kr⟩ := kk h2 e2
  refine ⟨r, hQ, fun w6 w7 w8 => ?_⟩
  rcases cmp_w (f := (fun _ => 1)) (fun E hE => by rcases ax_retry hE with rfl <;> decide) p m2.1 (by decide) with e | ⟨e, p2⟩
  · exact sg_law_2049 hL (d := d + 14)   x1  r2 r3 (fun _ => sg_law_2073 r2.2 (fun _ => sg_law_2090 r2.2 (kr _ _ _)) (fun q => absurd q e)) (fun q => absurd i7 q)
  · exact sg_law_2049 hL (d := d + 14)   x1  r2 r3 (fun _ => sg_law_2073 r2.2 (fun q => absurd e q) (fun _ => sg_law_2078 r2.2 p2 (fun _ => sg_law_2090 r2.2 (kr _ _ _)) (fun q => absurd lg_self q))) (fun q => absurd i7 q)
theorem lc_appendInput (hg : ev_cat1 g.2 = true) (s : lwS a b k h) (hk : k < 900) (hi : i + 4 < g.1.length) (hz : g.1.length < 2147483648) (kk : ∀ h', lwS a b (k + 1) h' → ∃ r, Q r ∧ ∀ w6 w7 w8, tr_L g (d + 15) m_law 28 [some (.ref 0), some (.ref 1000), some (.ref 1099), some (.ref 1109), some (.ref 1110), some (.int (Int32.ofNat i + 5)), w6, w7, w8] [] h' r) : ∃ r, Q r ∧ ∀ w6 w7 w8, tr_L g (d + 15) m_law 2582 [some (.ref 0), some (.ref 1000), some (.ref 1099), some (.ref 1109), some (.ref 1110), some (.int (Int32.ofNat i)), w6, w7, w8] [] h r := by
  obtain ⟨hL, s1, s2, c, P, S, y, l, t, B, ci, mi, w⟩ := s
  have q : cQ h c (cn c) := ⟨ci.1, w.1.1⟩
  have i1 : ∀ j, Int32.ofNat i + Int32.ofNat j = Int32.ofNat (i + j) := fun j => ii_a i j
  have wB := w.2.2.2.1
  obtain ⟨h1, M1, r1, c1⟩ := op_app (g := g) (d := d + 1) (x := (((g.1.getD (i + 1) 0).toUInt32 % 65536).toInt32)) hL ci
  have L1 := ro_L r1.2
  obtain ⟨md, p⟩ := mid_w (A := (do_app t (((g.1.getD (i + 1) 0).toUInt32 % 65536).toInt32)).1) L1 M1 (by omega) (by omega) c1 mi
  have x1 := wr_appendInput (d := d + 13) hL r1 (fun E hE => ax_app hE)
  obtain ⟨h2, m2, r2⟩ := mo_app (g := g) (d := d + 2) (x := (((g.1.getD (i + 1) 0).toUInt32 % 65536).toInt32)) x1.2 md.2.2.2 w.2.2.2.2.1
  have w2 := lw_app (x := (((g.1.getD (i + 1) 0).toUInt32 % 65536).toInt32)) w
  have e2 := end_w s1 s2 md r2.2 m2.1 m2.2.2 w2
  have i7 := m2.2.1
  have r3 := sg_X9_thrown_0 (g := g) (d := d + 14) r2.2 rfl
  obtain ⟨r, hQ, kr⟩ := kk h2 e2
  refine ⟨r, hQ, fun w6 w7 w8 => ?_⟩
  rcases cmp_w (f := cdX) (fun E hE => by rcases ax_app hE with rfl | rfl <;> decide) p m2.1 (by decide) with e | ⟨e, p2⟩
  · exact sg_law_2582 hL (d := d + 14) (j0 := i + 1) (j1 := i + 1) (i1 1) (by omega) hz x1 (i1 1) (by omega) hz r2 r3 (fun _ => sg_law_2620 r2.2 (fun _ => sg_law_2637 r2.2 (kr _ _ _)) (fun q => absurd q e)) (fun q => absurd i7 q)
  · exact sg_law_2582 hL (d := d + 14) (j0 := i + 1) (j1 := i + 1) (i1 1) (by omega) hz x1 (i1 1) (by omega) hz r2 r3 (fun _ => sg_law_2620 r2.2 (fun q => absurd e q) (fun _ => sg_law_2625 r2.2 p2 (fun _ => sg_law_2637 r2.2 (kr _ _ _)) (fun q => absurd lg_self q))) (fun q => absurd i7 q)
theorem lc_execute (hg : ev_cat1 g.2 = true) (s : lwS a b k h) (hk : k < 900) (hi : i + 4 < g.1.length) (hz : g.1.length < 2147483648) (kk : ∀ h', lwS a b (k + 1) h' → ∃ r, Q r ∧ ∀ w6 w7 w8, tr_L g (d + 15) m_law 28 [some (.ref 0), some (.ref 1000), some (.ref 1099), some (.ref 1109), some (.ref 1110), some (.int (Int32.ofNat i + 5)), w6, w7, w8] [] h' r) : ∃ r, Q r ∧ ∀ w6 w7 w8, tr_L g (d + 15) m_law 2640 [some (.ref 0), some (.ref 1000), some (.ref 1099), some (.ref 1109), some (.ref 1110), some (.int (Int32.ofNat i)), w6, w7, w8] [] h r := by
  obtain ⟨hL, s1, s2, c, P, S, y, l, t, B, ci, mi, w⟩ := s
  have q : cQ h c (cn c) := ⟨ci.1, w.1.1⟩
  have i1 : ∀ j, Int32.ofNat i + Int32.ofNat j = Int32.ofNat (i + j) := fun j => ii_a i j
  have wB := w.2.2.2.1
  obtain ⟨h1, M1, r1, c1⟩ := op_exec (g := g) (d := d) (fun i e => cw e (cn e) (B + i)) (fun _ _ hW => hW.1) (fun i e m hW hc hN => by have := cw_cmd' hW hc hN; rw [Nat.add_assoc] at this; exact this) hL hg w.2.2.2.2.1 ci w.1
  have L1 := ro_L r1.2
  obtain ⟨md, p⟩ := mid_w (A := (do_exec c P y t).1) L1 M1 (by omega) (by omega) c1 mi
  have x1 := wr_execute (d := d + 13) hL r1 (fun E hE => ax_exec hE)
  obtain ⟨h2, m2, r2⟩ := mo_exec (g := g) (d := d + 2) x1.2 hg md.2.2.2 w.1 (by omega) w.2.2.2.2.1 w.2.2.2.2.2.1
  obtain ⟨p0, k0, m0, a0, b0, f0, z, zc⟩ := ci.2.2.2.2.2
  obtain ⟨_, _, _, _, _, _, _, _, _, _, pl⟩ := sc_countAll (g := g) (d := d) hL hg w.2.2.2.2.1 z zc
  obtain ⟨B', w2⟩ := lw_exec pl w
  have e2 := end_w s1 s2 md r2.2 m2.1 m2.2.2 w2
  have i7 := m2.2.1
  have r3 := sg_X9_thrown_0 (g := g) (d := d + 14) r2.2 rfl
  obtain ⟨r, hQ, kr⟩ := kk h2 e2
  refine ⟨r, hQ, fun w6 w7 w8 => ?_⟩
  rcases cmp_w (f := cdX) (fun E hE => by rcases ax_exec hE with rfl | rfl | rfl <;> decide) p m2.1 (by decide) with e | ⟨e, p2⟩
  · exact sg_law_2640 hL (d := d + 14)   x1  r2 r3 (fun _ => sg_law_2664 r2.2 (fun _ => sg_law_2681 r2.2 (kr _ _ _)) (fun q => absurd q e)) (fun q => absurd i7 q)
  · exact sg_law_2640 hL (d := d + 14)   x1  r2 r3 (fun _ => sg_law_2664 r2.2 (fun q => absurd e q) (fun _ => sg_law_2669 r2.2 p2 (fun _ => sg_law_2681 r2.2 (kr _ _ _)) (fun q => absurd lg_self q))) (fun q => absurd i7 q)
end
