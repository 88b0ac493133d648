/-! THE LAW: two facts -/
theorem dom_01 {c : CT} {n : Nat} {x v : Int32} (h : an_dominant c n x = .inl v) : v = 0 ∨ v = 1 := by
  unfold an_dominant at h
  repeat' split at h
  all_goals first | (have h := Sum.inl.inj h; subst h; decide) | (have h := Sum.inl.inj h; subst h; split <;> decide) | cases h
theorem ans_01 {A : Int32 ⊕ Nat} {f : Nat → Int32} (h : ∀ v, A = .inl v → v = 0 ∨ v = 1) : (ans A f).1 = 0 ∨ (ans A f).1 = 1 := by
  cases A with
  | inl v => exact h v rfl
  | inr E => exact Or.inl rfl
theorem join_eq {c : CT} {x : Int32} (A : ag_R c) : an_rayJoin c x = an_rayEnd c x := by
  unfold an_rayJoin an_rayEnd
  rcases idx_c (m := 24) (by omega) x with ⟨p, hp, e3, e4⟩ | ⟨e3, e4⟩
  · rw [e4]
    simp only
    have h := (A p hp).1
    unfold ii_o at h
    by_cases hj : jo (ct_c c) p < 24
    · rw [if_pos hj] at h ⊢
      rw [← h, if_neg (ii_ne1 (by omega))]
    · rw [if_neg hj] at h ⊢
      rw [← h, if_pos rfl]
  · rw [e3]
/-! THE LAW: the queries -/
section
variable {g : tr_g} {d i : Nat} {h : ev_AH} {a b k : Nat} {Q : ev_O × ev_AH → Prop}
theorem lc_cellOf (hg : ev_cat1 g.2 = true) (s : lwS a b k h) (hk : k < 900) (hi : i + 4 < g.1.length) (hz : g.1.length < 2147483648) (kk : ∀ h', lwS a b (k + 1) h' → ∃ r, Q r ∧ ∀ w6 w7 w8, tr_L g (d + 15) m_law 28 [some (.ref 0), some (.ref 1000), some (.ref 1099), some (.ref 1109), some (.ref 1110), some (.int (Int32.ofNat i + 5)), w6, w7, w8] [] h' r) : ∃ r, Q r ∧ ∀ w6 w7 w8, tr_L g (d + 15) m_law 457 [some (.ref 0), some (.ref 1000), some (.ref 1099), some (.ref 1109), some (.ref 1110), some (.int (Int32.ofNat i)), w6, w7, w8] [] h r := by
  obtain ⟨hL, s1, s2, c, P, S, y, l, t, B, ci, mi, w⟩ := s
  have q : cQ h c (cn c) := ⟨ci.1, w.1.1⟩
  have i1 : ∀ j, Int32.ofNat i + Int32.ofNat j = Int32.ofNat (i + j) := fun j => ii_a i j
  have wB := w.2.2.2.1
  have r1 := op_cellOf (g := g) (d := d + 1) (x := (g.1.getD (i + 1) 0)) hL q
  have L1 := hL
  obtain ⟨md, p⟩ := mid_w (A := (an_cellOf c (cn c) (g.1.getD (i + 1) 0))) L1 hh_M_rf (by omega) (by omega) ci mi
  have x1 := wr_cellOf (d := d + 13) hL r1 (fun E hE => ax_cellOf hE)
  obtain ⟨h2, m2, r2⟩ := mo_cellOf (g := g) (d := d + 2) (x := (g.1.getD (i + 1) 0)) x1.2 (MI_n md.2.2.2 w.1.1) 
  have e2 := end_q s1 s2 md r2.2 (mU_T m2) w
  have i7 := m2.2.1
  have r3 := sg_X9_thrown_0 (g := g) (d := d + 14) r2.2 rfl
  obtain ⟨r, hQ, kr⟩ := kk h2 e2
  refine ⟨r, hQ, fun w6 w7 w8 => ?_⟩
  rcases cmp_w (f := (fun _ => 1)) (fun E hE => by rcases ax_cellOf hE with rfl <;> decide) p m2.1 (by decide) with e | ⟨e, p2⟩
  · exact sg_law_457 hL (d := d + 14) (j0 := i + 1) (j1 := i + 1) (i1 1) (by omega) hz x1 (i1 1) (by omega) hz r2 r3 (fun _ => sg_law_493 r2.2 (fun _ => sg_law_510 r2.2 (kr _ _ _)) (fun q => absurd q e)) (fun q => absurd i7 q)
  · exact sg_law_457 hL (d := d + 14) (j0 := i + 1) (j1 := i + 1) (i1 1) (by omega) hz x1 (i1 1) (by omega) hz r2 r3 (fun _ => sg_law_493 r2.2 (fun q => absurd e q) (fun _ => sg_law_498 r2.2 p2 (fun _ => sg_law_510 r2.2 (kr _ _ _)) (fun q => absurd lg_self q))) (fun q => absurd i7 q)
theorem lc_catIn (hg : ev_cat1 g.2 = true) (s : lwS a b k h) (hk : k < 900) (hi : i + 4 < g.1.length) (hz : g.1.length < 2147483648) (kk : ∀ h', lwS a b (k + 1) h' → ∃ r, Q r ∧ ∀ w6 w7 w8, tr_L g (d + 15) m_law 28 [some (.ref 0), some (.ref 1000), some (.ref 1099), some (.ref 1109), some (.ref 1110), some (.int (Int32.ofNat i + 5)), w6, w7, w8] [] h' r) : ∃ r, Q r ∧ ∀ w6 w7 w8, tr_L g (d + 15) m_law 513 [some (.ref 0), some (.ref 1000), some (.ref 1099), some (.ref 1109), some (.ref 1110), some (.int (Int32.ofNat i)), w6, w7, w8] [] h r := by
  obtain ⟨hL, s1, s2, c, P, S, y, l, t, B, ci, mi, w⟩ := s
  have q : cQ h c (cn c) := ⟨ci.1, w.1.1⟩
  have i1 : ∀ j, Int32.ofNat i + Int32.ofNat j = Int32.ofNat (i + j) := fun j => ii_a i j
  have wB := w.2.2.2.1
  have r1 := op_catIn (g := g) (d := d + 1) (x := (g.1.getD (i + 1) 0)) hL q
  have L1 := hL
  obtain ⟨md, p⟩ := mid_w (A := (an_catIn c (cn c) (g.1.getD (i + 1) 0))) L1 hh_M_rf (by omega) (by omega) ci mi
  have x1 := wr_catIn (d := d + 13) hL r1 (fun E hE => ax_catIn hE)
  obtain ⟨h2, m2, r2⟩ := mo_catIn (g := g) (d := d + 2) (x := (g.1.getD (i + 1) 0)) x1.2 (MI_n md.2.2.2 w.1.1) 
  have e2 := end_q s1 s2 md r2.2 (mU_T m2) w
  have i7 := m2.2.1
  have r3 := sg_X9_thrown_0 (g := g) (d := d + 14) r2.2 rfl
  obtain ⟨r, hQ, kr⟩ := kk h2 e2
  refine ⟨r, hQ, fun w6 w7 w8 => ?_⟩
  rcases cmp_w (f := cd_catIn) (fun E hE => by rcases ax_catIn hE with rfl | rfl <;> decide) p m2.1 (by decide) with e | ⟨e, p2⟩
  · exact sg_law_513 hL (d := d + 14) (j0 := i + 1) (j1 := i + 1) (i1 1) (by omega) hz x1 (i1 1) (by omega) hz r2 r3 (fun _ => sg_law_549 r2.2 (fun _ => sg_law_566 r2.2 (kr _ _ _)) (fun q => absurd q e)) (fun q => absurd i7 q)
  · exact sg_law_513 hL (d := d + 14) (j0 := i + 1) (j1 := i + 1) (i1 1) (by omega) hz x1 (i1 1) (by omega) hz r2 r3 (fun _ => sg_law_549 r2.2 (fun q => absurd e q) (fun _ => sg_law_554 r2.2 p2 (fun _ => sg_law_566 r2.2 (kr _ _ _)) (fun q => absurd lg_self q))) (fun q => absurd i7 q)
theorem lc_contentOf (hg : ev_cat1 g.2 = true) (s : lwS a b k h) (hk : k < 900) (hi : i + 4 < g.1.length) (hz : g.1.length < 2147483648) (kk : ∀ h', lwS a b (k + 1) h' → ∃ r, Q r ∧ ∀ w6 w7 w8, tr_L g (d + 15) m_law 28 [some (.ref 0), some (.ref 1000), some (.ref 1099), some (.ref 1109), some (.ref 1110), some (.int (Int32.ofNat i + 5)), w6, w7, w8] [] h' r) : ∃ r, Q r ∧ ∀ w6 w7 w8, tr_L g (d + 15) m_law 569 [some (.ref 0), some (.ref 1000), some (.ref 1099), some (.ref 1109), some (.ref 1110), some (.int (Int32.ofNat i)), w6, w7, w8] [] h r := by
  obtain ⟨hL, s1, s2, c, P, S, y, l, t, B, ci, mi, w⟩ := s
  have q : cQ h c (cn c) := ⟨ci.1, w.1.1⟩
  have i1 : ∀ j, Int32.ofNat i + Int32.ofNat j = Int32.ofNat (i + j) := fun j => ii_a i j
  have wB := w.2.2.2.1
  have r1 := op_contentOf (g := g) (d := d + 1) (x := (g.1.getD (i + 1) 0)) hL q
  have L1 := hL
  obtain ⟨md, p⟩ := mid_w (A := (an_contentOf c (g.1.getD (i + 1) 0))) L1 hh_M_rf (by omega) (by omega) ci mi
  have x1 := wr_contentOf (d := d + 13) hL r1 (fun E hE => ax_contentOf hE)
  obtain ⟨h2, m2, r2⟩ := mo_contentOf (g := g) (d := d + 2) (x := (g.1.getD (i + 1) 0)) x1.2 (MI_n md.2.2.2 w.1.1) w.1.2.2.1
  have e2 := end_q s1 s2 md r2.2 (mU_T m2) w
  have i7 := m2.2.1
  have r3 := sg_X9_thrown_0 (g := g) (d := d + 14) r2.2 rfl
  obtain ⟨r, hQ, kr⟩ := kk h2 e2
  refine ⟨r, hQ, fun w6 w7 w8 => ?_⟩
  rcases cmp_w (f := (fun _ => 1)) (fun E hE => by rcases ax_contentOf hE with rfl <;> decide) p m2.1 (by decide) with e | ⟨e, p2⟩
  · exact sg_law_569 hL (d := d + 14) (j0 := i + 1) (j1 := i + 1) (i1 1) (by omega) hz x1 (i1 1) (by omega) hz r2 r3 (fun _ => sg_law_605 r2.2 (fun _ => sg_law_622 r2.2 (kr _ _ _)) (fun q => absurd q e)) (fun q => absurd i7 q)
  · exact sg_law_569 hL (d := d + 14) (j0 := i + 1) (j1 := i + 1) (i1 1) (by omega) hz x1 (i1 1) (by omega) hz r2 r3 (fun _ => sg_law_605 r2.2 (fun q => absurd e q) (fun _ => sg_law_610 r2.2 p2 (fun _ => sg_law_622 r2.2 (kr _ _ _)) (fun q => absurd lg_self q))) (fun q => absurd i7 q)
theorem lc_optionAt (hg : ev_cat1 g.2 = true) (s : lwS a b k h) (hk : k < 900) (hi : i + 4 < g.1.length) (hz : g.1.length < 2147483648) (kk : ∀ h', lwS a b (k + 1) h' → ∃ r, Q r ∧ ∀ w6 w7 w8, tr_L g (d + 15) m_law 28 [some (.ref 0), some (.ref 1000), some (.ref 1099), some (.ref 1109), some (.ref 1110), some (.int (Int32.ofNat i + 5)), w6, w7, w8] [] h' r) : ∃ r, Q r ∧ ∀ w6 w7 w8, tr_L g (d + 15) m_law 625 [some (.ref 0), some (.ref 1000), some (.ref 1099), some (.ref 1109), some (.ref 1110), some (.int (Int32.ofNat i)), w6, w7, w8] [] h r := by
  obtain ⟨hL, s1, s2, c, P, S, y, l, t, B, ci, mi, w⟩ := s
  have q : cQ h c (cn c) := ⟨ci.1, w.1.1⟩
  have i1 : ∀ j, Int32.ofNat i + Int32.ofNat j = Int32.ofNat (i + j) := fun j => ii_a i j
  have wB := w.2.2.2.1
  have r1 := op_optionAt (g := g) (d := d + 1) (x := (g.1.getD (i + 1) 0)) (y := (g.1.getD (i + 2) 0)) hL q
  have L1 := hL
  obtain ⟨md, p⟩ := mid_w (A := (an_optionAt c (cn c) (g.1.getD (i + 1) 0) (g.1.getD (i + 2) 0))) L1 hh_M_rf (by omega) (by omega) ci mi
  have x1 := wr_optionAt (d := d + 13) hL r1 (fun E hE => ax_optionAt hE)
  obtain ⟨h2, m2, r2⟩ := mo_optionAt (g := g) (d := d + 2) (x := (g.1.getD (i + 1) 0)) (y := (g.1.getD (i + 2) 0)) x1.2 (MI_n md.2.2.2 w.1.1) 
  have e2 := end_q s1 s2 md r2.2 (mU_T m2) w
  have i7 := m2.2.1
  have r3 := sg_X9_thrown_0 (g := g) (d := d + 14) r2.2 rfl
  obtain ⟨r, hQ, kr⟩ := kk h2 e2
  refine ⟨r, hQ, fun w6 w7 w8 => ?_⟩
  rcases cmp_w (f := cd_01) (fun E hE => by rcases ax_optionAt hE with rfl | rfl <;> decide) p m2.1 (by decide) with e | ⟨e, p2⟩
  · exact sg_law_625 hL (d := d + 14) (j0 := i + 1) (j1 := i + 2) (j2 := i + 1) (j3 := i + 2) (i1 1) (by omega) hz (i1 2) (by omega) hz x1 (i1 1) (by omega) hz (i1 2) (by omega) hz r2 r3 (fun _ => sg_law_673 r2.2 (fun _ => sg_law_690 r2.2 (kr _ _ _)) (fun q => absurd q e)) (fun q => absurd i7 q)
  · exact sg_law_625 hL (d := d + 14) (j0 := i + 1) (j1 := i + 2) (j2 := i + 1) (j3 := i + 2) (i1 1) (by omega) hz (i1 2) (by omega) hz x1 (i1 1) (by omega) hz (i1 2) (by omega) hz r2 r3 (fun _ => sg_law_673 r2.2 (fun q => absurd e q) (fun _ => sg_law_678 r2.2 p2 (fun _ => sg_law_690 r2.2 (kr _ _ _)) (fun q => absurd lg_self q))) (fun q => absurd i7 q)
theorem lc_placeOf (hg : ev_cat1 g.2 = true) (s : lwS a b k h) (hk : k < 900) (hi : i + 4 < g.1.length) (hz : g.1.length < 2147483648) (kk : ∀ h', lwS a b (k + 1) h' → ∃ r, Q r ∧ ∀ w6 w7 w8, tr_L g (d + 15) m_law 28 [some (.ref 0), some (.ref 1000), some (.ref 1099), some (.ref 1109), some (.ref 1110), some (.int (Int32.ofNat i + 5)), w6, w7, w8] [] h' r) : ∃ r, Q r ∧ ∀ w6 w7 w8, tr_L g (d + 15) m_law 693 [some (.ref 0), some (.ref 1000), some (.ref 1099), some (.ref 1109), some (.ref 1110), some (.int (Int32.ofNat i)), w6, w7, w8] [] h r := by
  obtain ⟨hL, s1, s2, c, P, S, y, l, t, B, ci, mi, w⟩ := s
  have q : cQ h c (cn c) := ⟨ci.1, w.1.1⟩
  have i1 : ∀ j, Int32.ofNat i + Int32.ofNat j = Int32.ofNat (i + j) := fun j => ii_a i j
  have wB := w.2.2.2.1
  have r1 := op_placeOf (g := g) (d := d + 1) (x := (g.1.getD (i + 1) 0)) (y := (((g.1.getD (i + 2) 0).toUInt32 % 65536).toInt32)) hL q
  have L1 := hL
  obtain ⟨md, p⟩ := mid_w (A := (an_placeOf c (cn c) (g.1.getD (i + 1) 0) (((g.1.getD (i + 2) 0).toUInt32 % 65536).toInt32))) L1 hh_M_rf (by omega) (by omega) ci mi
  have x1 := wr_placeOf (d := d + 13) hL r1 (fun E hE => ax_placeOf hE)
  obtain ⟨h2, m2, r2⟩ := mo_placeOf (g := g) (d := d + 2) (x := (g.1.getD (i + 1) 0)) (y := (((g.1.getD (i + 2) 0).toUInt32 % 65536).toInt32)) x1.2 (MI_n md.2.2.2 w.1.1) 
  have e2 := end_q s1 s2 md r2.2 (mU_T m2) w
  have i7 := m2.2.1
  have r3 := sg_X9_thrown_0 (g := g) (d := d + 14) r2.2 rfl
  obtain ⟨r, hQ, kr⟩ := kk h2 e2
  refine ⟨r, hQ, fun w6 w7 w8 => ?_⟩
  rcases cmp_w (f := cd_01) (fun E hE => by rcases ax_placeOf hE with rfl | rfl <;> decide) p m2.1 (by decide) with e | ⟨e, p2⟩
  · exact sg_law_693 hL (d := d + 14) (j0 := i + 1) (j1 := i + 2) (j2 := i + 1) (j3 := i + 2) (i1 1) (by omega) hz (i1 2) (by omega) hz x1 (i1 1) (by omega) hz (i1 2) (by omega) hz r2 r3 (fun _ => sg_law_743 r2.2 (fun _ => sg_law_760 r2.2 (kr _ _ _)) (fun q => absurd q e)) (fun q => absurd i7 q)
  · exact sg_law_693 hL (d := d + 14) (j0 := i + 1) (j1 := i + 2) (j2 := i + 1) (j3 := i + 2) (i1 1) (by omega) hz (i1 2) (by omega) hz x1 (i1 1) (by omega) hz (i1 2) (by omega) hz r2 r3 (fun _ => sg_law_743 r2.2 (fun q => absurd e q) (fun _ => sg_law_748 r2.2 p2 (fun _ => sg_law_760 r2.2 (kr _ _ _)) (fun q => absurd lg_self q))) (fun q => absurd i7 q)
theorem lc_heardBy (hg : ev_cat1 g.2 = true) (s : lwS a b k h) (hk : k < 900) (hi : i + 4 < g.1.length) (hz : g.1.length < 2147483648) (kk : ∀ h', lwS a b (k + 1) h' → ∃ r, Q r ∧ ∀ w6 w7 w8, tr_L g (d + 15) m_law 28 [some (.ref 0), some (.ref 1000), some (.ref 1099), some (.ref 1109), some (.ref 1110), some (.int (Int32.ofNat i + 5)), w6, w7, w8] [] h' r) : ∃ r, Q r ∧ ∀ w6 w7 w8, tr_L g (d + 15) m_law 763 [some (.ref 0), some (.ref 1000), some (.ref 1099), some (.ref 1109), some (.ref 1110), some (.int (Int32.ofNat i)), w6, w7, w8] [] h r := by
  obtain ⟨hL, s1, s2, c, P, S, y, l, t, B, ci, mi, w⟩ := s
  have q : cQ h c (cn c) := ⟨ci.1, w.1.1⟩
  have i1 : ∀ j, Int32.ofNat i + Int32.ofNat j = Int32.ofNat (i + j) := fun j => ii_a i j
  have wB := w.2.2.2.1
  have r1 := op_heardBy (g := g) (d := d + 1) (x := (g.1.getD (i + 1) 0)) hL q
  have L1 := hL
  obtain ⟨md, p⟩ := mid_w (A := (an_heardBy c (cn c) (g.1.getD (i + 1) 0))) L1 hh_M_rf (by omega) (by omega) ci mi
  have x1 := wr_heardBy (d := d + 13) hL r1 (fun E hE => ax_heardBy hE)
  obtain ⟨h2, m2, r2⟩ := mo_heardBy (g := g) (d := d + 2) (x := (g.1.getD (i + 1) 0)) x1.2 (MI_n md.2.2.2 w.1.1) 
  have e2 := end_q s1 s2 md r2.2 (mU_T m2) w
  have i7 := m2.2.1
  have r3 := sg_X9_thrown_0 (g := g) (d := d + 14) r2.2 rfl
  obtain ⟨r, hQ, kr⟩ := kk h2 e2
  refine ⟨r, hQ, fun w6 w7 w8 => ?_⟩
  rcases cmp_w (f := (fun _ => 1)) (fun E hE => by rcases ax_heardBy hE with rfl <;> decide) p m2.1 (by decide) with e | ⟨e, p2⟩
  · exact sg_law_763 hL (d := d + 14) (j0 := i + 1) (j1 := i + 1) (i1 1) (by omega) hz x1 (i1 1) (by omega) hz r2 r3 (fun _ => sg_law_799 r2.2 (fun _ => sg_law_816 r2.2 (kr _ _ _)) (fun q => absurd q e)) (fun q => absurd i7 q)
  · exact sg_law_763 hL (d := d + 14) (j0 := i + 1) (j1 := i + 1) (i1 1) (by omega) hz x1 (i1 1) (by omega) hz r2 r3 (fun _ => sg_law_799 r2.2 (fun q => absurd e q) (fun _ => sg_law_804 r2.2 p2 (fun _ => sg_law_816 r2.2 (kr _ _ _)) (fun q => absurd lg_self q))) (fun q => absurd i7 q)
theorem lc_rayEnd (hg : ev_cat1 g.2 = true) (s : lwS a b k h) (hk : k < 900) (hi : i + 4 < g.1.length) (hz : g.1.length < 2147483648) (kk : ∀ h', lwS a b (k + 1) h' → ∃ r, Q r ∧ ∀ w6 w7 w8, tr_L g (d + 15) m_law 28 [some (.ref 0), some (.ref 1000), some (.ref 1099), some (.ref 1109), some (.ref 1110), some (.int (Int32.ofNat i + 5)), w6, w7, w8] [] h' r) : ∃ r, Q r ∧ ∀ w6 w7 w8, tr_L g (d + 15) m_law 819 [some (.ref 0), some (.ref 1000), some (.ref 1099), some (.ref 1109), some (.ref 1110), some (.int (Int32.ofNat i)), w6, w7, w8] [] h r := by
  obtain ⟨hL, s1, s2, c, P, S, y, l, t, B, ci, mi, w⟩ := s
  have q : cQ h c (cn c) := ⟨ci.1, w.1.1⟩
  have i1 : ∀ j, Int32.ofNat i + Int32.ofNat j = Int32.ofNat (i + j) := fun j => ii_a i j
  have wB := w.2.2.2.1
  obtain ⟨h1, F1, r1⟩ := op_rayEnd (g := g) (d := d + 1) (x := (g.1.getD (i + 1) 0)) hL q
  have L1 := ro_L r1.2
  obtain ⟨md, p⟩ := mid_w (A := (an_rayEnd c (g.1.getD (i + 1) 0))) L1 (hh_M_F F1 kW99) (by omega) (by omega) (CI_W F1 ci) mi
  have x1 := wr_rayEnd (d := d + 13) hL r1 (fun E hE => ax_rayEnd hE)
  obtain ⟨h2, m2, r2⟩ := mo_rayEnd (g := g) (d := d + 2) (x := (g.1.getD (i + 1) 0)) x1.2 (MI_n md.2.2.2 w.1.1) w.1.2.2.1 (R_end_of w.1.2.2.1)
  have e2 := end_q s1 s2 md r2.2 (mU_V m2) w
  have i7 := m2.2.1
  have r3 := sg_X9_thrown_0 (g := g) (d := d + 14) r2.2 rfl
  obtain ⟨r, hQ, kr⟩ := kk h2 e2
  refine ⟨r, hQ, fun w6 w7 w8 => ?_⟩
  rcases cmp_w (f := cd_ray) (fun E hE => by rcases ax_rayEnd hE with rfl | rfl <;> decide) p m2.1 (by decide) with e | ⟨e, p2⟩
  · exact sg_law_819 hL (d := d + 14) (j0 := i + 1) (j1 := i + 1) (i1 1) (by omega) hz x1 (i1 1) (by omega) hz r2 r3 (fun _ => sg_law_855 r2.2 (fun _ => sg_law_872 r2.2 (kr _ _ _)) (fun q => absurd q e)) (fun q => absurd i7 q)
  · exact sg_law_819 hL (d := d + 14) (j0 := i + 1) (j1 := i + 1) (i1 1) (by omega) hz x1 (i1 1) (by omega) hz r2 r3 (fun _ => sg_law_855 r2.2 (fun q => absurd e q) (fun _ => sg_law_860 r2.2 p2 (fun _ => sg_law_872 r2.2 (kr _ _ _)) (fun q => absurd lg_self q))) (fun q => absurd i7 q)
theorem lc_rayEndByJoining (hg : ev_cat1 g.2 = true) (s : lwS a b k h) (hk : k < 900) (hi : i + 4 < g.1.length) (hz : g.1.length < 2147483648) (kk : ∀ h', lwS a b (k + 1) h' → ∃ r, Q r ∧ ∀ w6 w7 w8, tr_L g (d + 15) m_law 28 [some (.ref 0), some (.ref 1000), some (.ref 1099), some (.ref 1109), some (.ref 1110), some (.int (Int32.ofNat i + 5)), w6, w7, w8] [] h' r) : ∃ r, Q r ∧ ∀ w6 w7 w8, tr_L g (d + 15) m_law 875 [some (.ref 0), some (.ref 1000), some (.ref 1099), some (.ref 1109), some (.ref 1110), some (.int (Int32.ofNat i)), w6, w7, w8] [] h r := by
  obtain ⟨hL, s1, s2, c, P, S, y, l, t, B, ci, mi, w⟩ := s
  have q : cQ h c (cn c) := ⟨ci.1, w.1.1⟩
  have i1 : ∀ j, Int32.ofNat i + Int32.ofNat j = Int32.ofNat (i + j) := fun j => ii_a i j
  have wB := w.2.2.2.1
  obtain ⟨h1, F1, r1⟩ := op_rayJoin (g := g) (d := d + 1) (x := (g.1.getD (i + 1) 0)) hL q
  have L1 := ro_L r1.2
  obtain ⟨md, p⟩ := mid_w (A := (an_rayJoin c (g.1.getD (i + 1) 0))) L1 (hh_M_F F1 kW99) (by omega) (by omega) (CI_W F1 ci) mi
  have x1 := wr_rayEndByJoining (d := d + 13) hL r1 (fun E hE => ax_rayJoin hE)
  obtain ⟨h2, m2, r2⟩ := mo_rayJoin (g := g) (d := d + 1) (x := (g.1.getD (i + 1) 0)) x1.2 (MI_n md.2.2.2 w.1.1) w.1.2.2.1 (R_end_of w.1.2.2.1)
  rw [← join_eq (agR_of w.1.2.2.1 w.1.1.2.1)] at m2 r2
  have e2 := end_q s1 s2 md r2.2 (mU_V m2) w
  have i7 := m2.2.1
  have r3 := sg_X9_thrown_0 (g := g) (d := d + 14) r2.2 rfl
  obtain ⟨r, hQ, kr⟩ := kk h2 e2
  refine ⟨r, hQ, fun w6 w7 w8 => ?_⟩
  rcases cmp_w (f := cd_ray) (fun E hE => by rcases ax_rayJoin hE with rfl | rfl <;> decide) p m2.1 (by decide) with e | ⟨e, p2⟩
  · exact sg_law_875 hL (d := d + 14) (j0 := i + 1) (j1 := i + 1) (i1 1) (by omega) hz x1 (i1 1) (by omega) hz r2 r3 (fun _ => sg_law_911 r2.2 (fun _ => sg_law_928 r2.2 (kr _ _ _)) (fun q => absurd q e)) (fun q => absurd i7 q)
  · exact sg_law_875 hL (d := d + 14) (j0 := i + 1) (j1 := i + 1) (i1 1) (by omega) hz x1 (i1 1) (by omega) hz r2 r3 (fun _ => sg_law_911 r2.2 (fun q => absurd e q) (fun _ => sg_law_916 r2.2 p2 (fun _ => sg_law_928 r2.2 (kr _ _ _)) (fun q => absurd lg_self q))) (fun q => absurd i7 q)
theorem lc_rayCat (hg : ev_cat1 g.2 = true) (s : lwS a b k h) (hk : k < 900) (hi : i + 4 < g.1.length) (hz : g.1.length < 2147483648) (kk : ∀ h', lwS a b (k + 1) h' → ∃ r, Q r ∧ ∀ w6 w7 w8, tr_L g (d + 15) m_law 28 [some (.ref 0), some (.ref 1000), some (.ref 1099), some (.ref 1109), some (.ref 1110), some (.int (Int32.ofNat i + 5)), w6, w7, w8] [] h' r) : ∃ r, Q r ∧ ∀ w6 w7 w8, tr_L g (d + 15) m_law 931 [some (.ref 0), some (.ref 1000), some (.ref 1099), some (.ref 1109), some (.ref 1110), some (.int (Int32.ofNat i)), w6, w7, w8] [] h r := by
  obtain ⟨hL, s1, s2, c, P, S, y, l, t, B, ci, mi, w⟩ := s
  have q : cQ h c (cn c) := ⟨ci.1, w.1.1⟩
  have i1 : ∀ j, Int32.ofNat i + Int32.ofNat j = Int32.ofNat (i + j) := fun j => ii_a i j
  have wB := w.2.2.2.1
  obtain ⟨h1, F1, r1⟩ := op_rayCat (g := g) (d := d + 1) (x := (g.1.getD (i + 1) 0)) hL q
  have L1 := ro_L r1.2
  obtain ⟨md, p⟩ := mid_w (A := (an_rayCat c (cn c) (g.1.getD (i + 1) 0))) L1 (hh_M_F F1 kW99) (by omega) (by omega) (CI_W F1 ci) mi
  have x1 := wr_rayCat (d := d + 13) hL r1 (fun E hE => ax_rayCat hE)
  obtain ⟨h2, m2, r2⟩ := mo_rayCat (g := g) (d := d + 2) (x := (g.1.getD (i + 1) 0)) x1.2 (MI_n md.2.2.2 w.1.1) w.1.2.2.1 (R_end_of w.1.2.2.1)
  have e2 := end_q s1 s2 md r2.2 (mU_V m2) w
  have i7 := m2.2.1
  have r3 := sg_X9_thrown_0 (g := g) (d := d + 14) r2.2 rfl
  obtain ⟨r, hQ, kr⟩ := kk h2 e2
  refine ⟨r, hQ, fun w6 w7 w8 => ?_⟩
  rcases cmp_w (f := cd_ray) (fun E hE => by rcases ax_rayCat hE with rfl | rfl <;> decide) p m2.1 (by decide) with e | ⟨e, p2⟩
  · exact sg_law_931 hL (d := d + 14) (j0 := i + 1) (j1 := i + 1) (i1 1) (by omega) hz x1 (i1 1) (by omega) hz r2 r3 (fun _ => sg_law_967 r2.2 (fun _ => sg_law_984 r2.2 (kr _ _ _)) (fun q => absurd q e)) (fun q => absurd i7 q)
  · exact sg_law_931 hL (d := d + 14) (j0 := i + 1) (j1 := i + 1) (i1 1) (by omega) hz x1 (i1 1) (by omega) hz r2 r3 (fun _ => sg_law_967 r2.2 (fun q => absurd e q) (fun _ => sg_law_972 r2.2 p2 (fun _ => sg_law_984 r2.2 (kr _ _ _)) (fun q => absurd lg_self q))) (fun q => absurd i7 q)
theorem lc_rayLength (hg : ev_cat1 g.2 = true) (s : lwS a b k h) (hk : k < 900) (hi : i + 4 < g.1.length) (hz : g.1.length < 2147483648) (kk : ∀ h', lwS a b (k + 1) h' → ∃ r, Q r ∧ ∀ w6 w7 w8, tr_L g (d + 15) m_law 28 [some (.ref 0), some (.ref 1000), some (.ref 1099), some (.ref 1109), some (.ref 1110), some (.int (Int32.ofNat i + 5)), w6, w7, w8] [] h' r) : ∃ r, Q r ∧ ∀ w6 w7 w8, tr_L g (d + 15) m_law 987 [some (.ref 0), some (.ref 1000), some (.ref 1099), some (.ref 1109), some (.ref 1110), some (.int (Int32.ofNat i)), w6, w7, w8] [] h r := by
  obtain ⟨hL, s1, s2, c, P, S, y, l, t, B, ci, mi, w⟩ := s
  have q : cQ h c (cn c) := ⟨ci.1, w.1.1⟩
  have i1 : ∀ j, Int32.ofNat i + Int32.ofNat j = Int32.ofNat (i + j) := fun j => ii_a i j
  have wB := w.2.2.2.1
  obtain ⟨h1, F1, r1⟩ := op_rayLength (g := g) (d := d + 1) (x := (g.1.getD (i + 1) 0)) hL q
  have L1 := ro_L r1.2
  obtain ⟨md, p⟩ := mid_w (A := (an_rayLength c (g.1.getD (i + 1) 0))) L1 (hh_M_F F1 kW99) (by omega) (by omega) (CI_W F1 ci) mi
  have x1 := wr_rayLength (d := d + 13) hL r1 (fun E hE => ax_rayLength hE)
  obtain ⟨h2, m2, r2⟩ := mo_rayLength (g := g) (d := d + 2) (x := (g.1.getD (i + 1) 0)) x1.2 (MI_n md.2.2.2 w.1.1) w.1.2.2.1 (R_end_of w.1.2.2.1)
  have e2 := end_q s1 s2 md r2.2 (mU_V m2) w
  have i7 := m2.2.1
  have r3 := sg_X9_thrown_0 (g := g) (d := d + 14) r2.2 rfl
  obtain ⟨r, hQ, kr⟩ := kk h2 e2
  refine ⟨r, hQ, fun w6 w7 w8 => ?_⟩
  rcases cmp_w (f := cd_ray) (fun E hE => by rcases ax_rayLength hE with rfl <;> decide) p m2.1 (by decide) with e | ⟨e, p2⟩
  · exact sg_law_987 hL (d := d + 14) (j0 := i + 1) (j1 := i + 1) (i1 1) (by omega) hz x1 (i1 1) (by omega) hz r2 r3 (fun _ => sg_law_1023 r2.2 (fun _ => sg_law_1040 r2.2 (kr _ _ _)) (fun q => absurd q e)) (fun q => absurd i7 q)
  · exact sg_law_987 hL (d := d + 14) (j0 := i + 1) (j1 := i + 1) (i1 1) (by omega) hz x1 (i1 1) (by omega) hz r2 r3 (fun _ => sg_law_1023 r2.2 (fun q => absurd e q) (fun _ => sg_law_1028 r2.2 p2 (fun _ => sg_law_1040 r2.2 (kr _ _ _)) (fun q => absurd lg_self q))) (fun q => absurd i7 q)
theorem lc_rayBounces (hg : ev_cat1 g.2 = true) (s : lwS a b k h) (hk : k < 900) (hi : i + 4 < g.1.length) (hz : g.1.length < 2147483648) (kk : ∀ h', lwS a b (k + 1) h' → ∃ r, Q r ∧ ∀ w6 w7 w8, tr_L g (d + 15) m_law 28 [some (.ref 0), some (.ref 1000), some (.ref 1099), some (.ref 1109), some (.ref 1110), some (.int (Int32.ofNat i + 5)), w6, w7, w8] [] h' r) : ∃ r, Q r ∧ ∀ w6 w7 w8, tr_L g (d + 15) m_law 1043 [some (.ref 0), some (.ref 1000), some (.ref 1099), some (.ref 1109), some (.ref 1110), some (.int (Int32.ofNat i)), w6, w7, w8] [] h r := by
  obtain ⟨hL, s1, s2, c, P, S, y, l, t, B, ci, mi, w⟩ := s
  have q : cQ h c (cn c) := ⟨ci.1, w.1.1⟩
  have i1 : ∀ j, Int32.ofNat i + Int32.ofNat j = Int32.ofNat (i + j) := fun j => ii_a i j
  have wB := w.2.2.2.1
  obtain ⟨h1, F1, r1⟩ := op_rayBounces (g := g) (d := d + 1) (x := (g.1.getD (i + 1) 0)) hL q
  have L1 := ro_L r1.2
  obtain ⟨md, p⟩ := mid_w (A := (an_rayBounces c (g.1.getD (i + 1) 0))) L1 (hh_M_F F1 kW99) (by omega) (by omega) (CI_W F1 ci) mi
  have x1 := wr_rayBounces (d := d + 13) hL r1 (fun E hE => ax_rayBounces hE)
  obtain ⟨h2, m2, r2⟩ := mo_rayBounces (g := g) (d := d + 2) (x := (g.1.getD (i + 1) 0)) x1.2 (MI_n md.2.2.2 w.1.1) w.1.2.2.1 (R_end_of w.1.2.2.1)
  have e2 := end_q s1 s2 md r2.2 (mU_V m2) w
  have i7 := m2.2.1
  have r3 := sg_X9_thrown_0 (g := g) (d := d + 14) r2.2 rfl
  obtain ⟨r, hQ, kr⟩ := kk h2 e2
  refine ⟨r, hQ, fun w6 w7 w8 => ?_⟩
  rcases cmp_w (f := cd_ray) (fun E hE => by rcases ax_rayBounces hE with rfl <;> decide) p m2.1 (by decide) with e | ⟨e, p2⟩
  · exact sg_law_1043 hL (d := d + 14) (j0 := i + 1) (j1 := i + 1) (i1 1) (by omega) hz x1 (i1 1) (by omega) hz r2 r3 (fun _ => sg_law_1079 r2.2 (fun _ => sg_law_1096 r2.2 (kr _ _ _)) (fun q => absurd q e)) (fun q => absurd i7 q)
  · exact sg_law_1043 hL (d := d + 14) (j0 := i + 1) (j1 := i + 1) (i1 1) (by omega) hz x1 (i1 1) (by omega) hz r2 r3 (fun _ => sg_law_1079 r2.2 (fun q => absurd e q) (fun _ => sg_law_1084 r2.2 p2 (fun _ => sg_law_1096 r2.2 (kr _ _ _)) (fun q => absurd lg_self q))) (fun q => absurd i7 q)
theorem lc_leastEffort (hg : ev_cat1 g.2 = true) (s : lwS a b k h) (hk : k < 900) (hi : i + 4 < g.1.length) (hz : g.1.length < 2147483648) (kk : ∀ h', lwS a b (k + 1) h' → ∃ r, Q r ∧ ∀ w6 w7 w8, tr_L g (d + 15) m_law 28 [some (.ref 0), some (.ref 1000), some (.ref 1099), some (.ref 1109), some (.ref 1110), some (.int (Int32.ofNat i + 5)), w6, w7, w8] [] h' r) : ∃ r, Q r ∧ ∀ w6 w7 w8, tr_L g (d + 15) m_law 1099 [some (.ref 0), some (.ref 1000), some (.ref 1099), some (.ref 1109), some (.ref 1110), some (.int (Int32.ofNat i)), w6, w7, w8] [] h r := by
  obtain ⟨hL, s1, s2, c, P, S, y, l, t, B, ci, mi, w⟩ := s
  have q : cQ h c (cn c) := ⟨ci.1, w.1.1⟩
  have i1 : ∀ j, Int32.ofNat i + Int32.ofNat j = Int32.ofNat (i + j) := fun j => ii_a i j
  have wB := w.2.2.2.1
  obtain ⟨h1, F1, r1⟩ := op_effortQ (g := g) (d := d + 1) (x := (g.1.getD (i + 1) 0)) (y := (g.1.getD (i + 2) 0)) hL q
  have L1 := ro_L r1.2
  obtain ⟨md, p⟩ := mid_w (A := (an_effort ef_Q c (cn c) (g.1.getD (i + 1) 0) (g.1.getD (i + 2) 0))) L1 (hh_M_F F1 kW99) (by omega) (by omega) (CI_W F1 ci) mi
  have x1 := wr_leastEffort (d := d + 13) hL r1 (fun E hE => ax_effort hE)
  obtain ⟨h2, m2, r2⟩ := mo_effort (g := g) (d := d + 2) (x := (g.1.getD (i + 1) 0)) (y := (g.1.getD (i + 2) 0)) x1.2 (MI_n md.2.2.2 w.1.1) w.1.2.2.1
  have e2 := end_q s1 s2 md r2.2 m2 w
  have i7 := m2.2.1
  have r3 := sg_X9_thrown_0 (g := g) (d := d + 14) r2.2 rfl
  obtain ⟨r, hQ, kr⟩ := kk h2 e2
  refine ⟨r, hQ, fun w6 w7 w8 => ?_⟩
  rcases cmp_w (f := cd_eff) (fun E hE => by rcases ax_effort hE with rfl | rfl | rfl <;> decide) p m2.1 (by decide) with e | ⟨e, p2⟩
  · exact sg_law_1099 hL (d := d + 14) (j0 := i + 1) (j1 := i + 2) (j2 := i + 1) (j3 := i + 2) (i1 1) (by omega) hz (i1 2) (by omega) hz x1 (i1 1) (by omega) hz (i1 2) (by omega) hz r2 r3 (fun _ => sg_law_1147 r2.2 (fun _ => sg_law_1164 r2.2 (kr _ _ _)) (fun q => absurd q e)) (fun q => absurd i7 q)
  · exact sg_law_1099 hL (d := d + 14) (j0 := i + 1) (j1 := i + 2) (j2 := i + 1) (j3 := i + 2) (i1 1) (by omega) hz (i1 2) (by omega) hz x1 (i1 1) (by omega) hz (i1 2) (by omega) hz r2 r3 (fun _ => sg_law_1147 r2.2 (fun q => absurd e q) (fun _ => sg_law_1152 r2.2 p2 (fun _ => sg_law_1164 r2.2 (kr _ _ _)) (fun q => absurd lg_self q))) (fun q => absurd i7 q)
theorem lc_leastEffortByRounds (hg : ev_cat1 g.2 = true) (s : lwS a b k h) (hk : k < 900) (hi : i + 4 < g.1.length) (hz : g.1.length < 2147483648) (kk : ∀ h', lwS a b (k + 1) h' → ∃ r, Q r ∧ ∀ w6 w7 w8, tr_L g (d + 15) m_law 28 [some (.ref 0), some (.ref 1000), some (.ref 1099), some (.ref 1109), some (.ref 1110), some (.int (Int32.ofNat i + 5)), w6, w7, w8] [] h' r) : ∃ r, Q r ∧ ∀ w6 w7 w8, tr_L g (d + 15) m_law 1167 [some (.ref 0), some (.ref 1000), some (.ref 1099), some (.ref 1109), some (.ref 1110), some (.int (Int32.ofNat i)), w6, w7, w8] [] h r := by
  obtain ⟨hL, s1, s2, c, P, S, y, l, t, B, ci, mi, w⟩ := s
  have q : cQ h c (cn c) := ⟨ci.1, w.1.1⟩
  have i1 : ∀ j, Int32.ofNat i + Int32.ofNat j = Int32.ofNat (i + j) := fun j => ii_a i j
  have wB := w.2.2.2.1
  obtain ⟨h1, F1, r1⟩ := op_effortL (g := g) (d := d + 1) (x := (g.1.getD (i + 1) 0)) (y := (g.1.getD (i + 2) 0)) hL q
  have L1 := ro_L r1.2
  obtain ⟨md, p⟩ := mid_w (A := (an_effort ef_L c (cn c) (g.1.getD (i + 1) 0) (g.1.getD (i + 2) 0))) L1 (hh_M_F F1 kW99) (by omega) (by omega) (CI_W F1 ci) mi
  have x1 := wr_leastEffortByRounds (d := d + 13) hL r1 (fun E hE => ax_effort hE)
  obtain ⟨h2, m2, r2⟩ := mo_effortL (g := g) (d := d + 1) (x := (g.1.getD (i + 1) 0)) (y := (g.1.getD (i + 2) 0)) x1.2 (MI_n md.2.2.2 w.1.1) w.1.2.2.1
  have e2 := end_q s1 s2 md r2.2 m2 w
  have i7 := m2.2.1
  have r3 := sg_X9_thrown_0 (g := g) (d := d + 14) r2.2 rfl
  obtain ⟨r, hQ, kr⟩ := kk h2 e2
  refine ⟨r, hQ, fun w6 w7 w8 => ?_⟩
  rcases cmp_w (f := cd_eff) (fun E hE => by rcases ax_effort hE with rfl | rfl | rfl <;> decide) p m2.1 (by decide) with e | ⟨e, p2⟩
  · exact sg_law_1167 hL (d := d + 14) (j0 := i + 1) (j1 := i + 2) (j2 := i + 1) (j3 := i + 2) (i1 1) (by omega) hz (i1 2) (by omega) hz x1 (i1 1) (by omega) hz (i1 2) (by omega) hz r2 r3 (fun _ => sg_law_1215 r2.2 (fun _ => sg_law_1232 r2.2 (kr _ _ _)) (fun q => absurd q e)) (fun q => absurd i7 q)
  · exact sg_law_1167 hL (d := d + 14) (j0 := i + 1) (j1 := i + 2) (j2 := i + 1) (j3 := i + 2) (i1 1) (by omega) hz (i1 2) (by omega) hz x1 (i1 1) (by omega) hz (i1 2) (by omega) hz r2 r3 (fun _ => sg_law_1215 r2.2 (fun q => absurd e q) (fun _ => sg_law_1220 r2.2 p2 (fun _ => sg_law_1232 r2.2 (kr _ _ _)) (fun q => absurd lg_self q))) (fun q => absurd i7 q)
theorem lc_portByLength (hg : ev_cat1 g.2 = true) (s : lwS a b k h) (hk : k < 900) (hi : i + 4 < g.1.length) (hz : g.1.length < 2147483648) (kk : ∀ h', lwS a b (k + 1) h' → ∃ r, Q r ∧ ∀ w6 w7 w8, tr_L g (d + 15) m_law 28 [some (.ref 0), some (.ref 1000), some (.ref 1099), some (.ref 1109), some (.ref 1110), some (.int (Int32.ofNat i + 5)), w6, w7, w8] [] h' r) : ∃ r, Q r ∧ ∀ w6 w7 w8, tr_L g (d + 15) m_law 1235 [some (.ref 0), some (.ref 1000), some (.ref 1099), some (.ref 1109), some (.ref 1110), some (.int (Int32.ofNat i)), w6, w7, w8] [] h r := by
  obtain ⟨hL, s1, s2, c, P, S, y, l, t, B, ci, mi, w⟩ := s
  have q : cQ h c (cn c) := ⟨ci.1, w.1.1⟩
  have i1 : ∀ j, Int32.ofNat i + Int32.ofNat j = Int32.ofNat (i + j) := fun j => ii_a i j
  have wB := w.2.2.2.1
  obtain ⟨h1, F1, r1⟩ := op_portBy (g := g) (d := d + 1) (x := (g.1.getD (i + 1) 0)) hL q
  have L1 := ro_L r1.2
  obtain ⟨md, p⟩ := mid_w (A := (an_portBy c (g.1.getD (i + 1) 0))) L1 (hh_M_F F1 kW99) (by omega) (by omega) (CI_W F1 ci) mi
  have x1 := wr_portByLength (d := d + 13) hL r1 (fun E hE => ax_portBy hE)
  obtain ⟨h2, m2, r2⟩ := mo_portBy (g := g) (d := d + 2) (x := (g.1.getD (i + 1) 0)) x1.2 (MI_n md.2.2.2 w.1.1) w.1.2.2.1 (R_end_of w.1.2.2.1)
  have e2 := end_q s1 s2 md r2.2 (mU_V m2) w
  have i7 := m2.2.1
  have r3 := sg_X9_thrown_0 (g := g) (d := d + 14) r2.2 rfl
  obtain ⟨r, hQ, kr⟩ := kk h2 e2
  refine ⟨r, hQ, fun w6 w7 w8 => ?_⟩
  rcases cmp_w (f := (fun _ => 1)) (fun E hE => by rcases ax_portBy hE with rfl <;> decide) p m2.1 (by decide) with e | ⟨e, p2⟩
  · exact sg_law_1235 hL (d := d + 14) (j0 := i + 1) (j1 := i + 1) (i1 1) (by omega) hz x1 (i1 1) (by omega) hz r2 r3 (fun _ => sg_law_1271 r2.2 (fun _ => sg_law_1288 r2.2 (kr _ _ _)) (fun q => absurd q e)) (fun q => absurd i7 q)
  · exact sg_law_1235 hL (d := d + 14) (j0 := i + 1) (j1 := i + 1) (i1 1) (by omega) hz x1 (i1 1) (by omega) hz r2 r3 (fun _ => sg_law_1271 r2.2 (fun q => absurd e q) (fun _ => sg_law_1276 r2.2 p2 (fun _ => sg_law_1288 r2.2 (kr _ _ _)) (fun q => absurd lg_self q))) (fun q => absurd i7 q)
theorem lc_firstVotes (hg : ev_cat1 g.2 = true) (s : lwS a b k h) (hk : k < 900) (hi : i + 4 < g.1.length) (hz : g.1.length < 2147483648) (kk : ∀ h', lwS a b (k + 1) h' → ∃ r, Q r ∧ ∀ w6 w7 w8, tr_L g (d + 15) m_law 28 [some (.ref 0), some (.ref 1000), some (.ref 1099), some (.ref 1109), some (.ref 1110), some (.int (Int32.ofNat i + 5)), w6, w7, w8] [] h' r) : ∃ r, Q r ∧ ∀ w6 w7 w8, tr_L g (d + 15) m_law 1361 [some (.ref 0), some (.ref 1000), some (.ref 1099), some (.ref 1109), some (.ref 1110), some (.int (Int32.ofNat i)), w6, w7, w8] [] h r := by
  obtain ⟨hL, s1, s2, c, P, S, y, l, t, B, ci, mi, w⟩ := s
  have q : cQ h c (cn c) := ⟨ci.1, w.1.1⟩
  have i1 : ∀ j, Int32.ofNat i + Int32.ofNat j = Int32.ofNat (i + j) := fun j => ii_a i j
  have wB := w.2.2.2.1
  have r1 := op_firstVotes (g := g) (d := d + 1) (x := (((g.1.getD (i + 1) 0).toUInt32 % 65536).toInt32)) hL q
  have L1 := hL
  obtain ⟨md, p⟩ := mid_w (A := (an_firstVotes c (cn c) (((g.1.getD (i + 1) 0).toUInt32 % 65536).toInt32))) L1 hh_M_rf (by omega) (by omega) ci mi
  have x1 := wr_firstVotes (d := d + 13) hL r1 (fun E hE => ax_firstVotes hE)
  obtain ⟨h2, m2, r2⟩ := mo_firstVotes (g := g) (d := d + 2) (x := (((g.1.getD (i + 1) 0).toUInt32 % 65536).toInt32)) x1.2 (MI_n md.2.2.2 w.1.1) 
  have e2 := end_q s1 s2 md r2.2 (mU_T m2) w
  have i7 := m2.2.1
  have r3 := sg_X9_thrown_0 (g := g) (d := d + 14) r2.2 rfl
  obtain ⟨r, hQ, kr⟩ := kk h2 e2
  refine ⟨r, hQ, fun w6 w7 w8 => ?_⟩
  rcases cmp_w (f := (fun _ => 1)) (fun E hE => by rcases ax_firstVotes hE with rfl <;> decide) p m2.1 (by decide) with e | ⟨e, p2⟩
  · exact sg_law_1361 hL (d := d + 14) (j0 := i + 1) (j1 := i + 1) (i1 1) (by omega) hz x1 (i1 1) (by omega) hz r2 r3 (fun _ => sg_law_1399 r2.2 (fun _ => sg_law_1416 r2.2 (kr _ _ _)) (fun q => absurd q e)) (fun q => absurd i7 q)
  · exact sg_law_1361 hL (d := d + 14) (j0 := i + 1) (j1 := i + 1) (i1 1) (by omega) hz x1 (i1 1) (by omega) hz r2 r3 (fun _ => sg_law_1399 r2.2 (fun q => absurd e q) (fun _ => sg_law_1404 r2.2 p2 (fun _ => sg_law_1416 r2.2 (kr _ _ _)) (fun q => absurd lg_self q))) (fun q => absurd i7 q)
theorem lc_prefer (hg : ev_cat1 g.2 = true) (s : lwS a b k h) (hk : k < 900) (hi : i + 4 < g.1.length) (hz : g.1.length < 2147483648) (kk : ∀ h', lwS a b (k + 1) h' → ∃ r, Q r ∧ ∀ w6 w7 w8, tr_L g (d + 15) m_law 28 [some (.ref 0), some (.ref 1000), some (.ref 1099), some (.ref 1109), some (.ref 1110), some (.int (Int32.ofNat i + 5)), w6, w7, w8] [] h' r) : ∃ r, Q r ∧ ∀ w6 w7 w8, tr_L g (d + 15) m_law 1419 [some (.ref 0), some (.ref 1000), some (.ref 1099), some (.ref 1109), some (.ref 1110), some (.int (Int32.ofNat i)), w6, w7, w8] [] h r := by
  obtain ⟨hL, s1, s2, c, P, S, y, l, t, B, ci, mi, w⟩ := s
  have q : cQ h c (cn c) := ⟨ci.1, w.1.1⟩
  have i1 : ∀ j, Int32.ofNat i + Int32.ofNat j = Int32.ofNat (i + j) := fun j => ii_a i j
  have wB := w.2.2.2.1
  obtain ⟨h1, F1, r1⟩ := op_prefer (g := g) (d := d + 1) (x := (((g.1.getD (i + 1) 0).toUInt32 % 65536).toInt32)) (y := (((g.1.getD (i + 2) 0).toUInt32 % 65536).toInt32)) hL q
  have L1 := ro_L r1.2
  obtain ⟨md, p⟩ := mid_w (A := (an_prefer c (cn c) (((g.1.getD (i + 1) 0).toUInt32 % 65536).toInt32) (((g.1.getD (i + 2) 0).toUInt32 % 65536).toInt32))) L1 (hh_M_F F1 kW99) (by omega) (by omega) (CI_W F1 ci) mi
  have x1 := wr_prefer (d := d + 13) hL r1 (fun E hE => ax_prefer hE)
  obtain ⟨h2, m2, r2⟩ := mo_prefer (g := g) (d := d + 2) (x := (((g.1.getD (i + 1) 0).toUInt32 % 65536).toInt32)) (y := (((g.1.getD (i + 2) 0).toUInt32 % 65536).toInt32)) x1.2 (MI_n md.2.2.2 w.1.1) 
  have e2 := end_q s1 s2 md r2.2 (mU_T m2) w
  have i7 := m2.2.1
  have r3 := sg_X9_thrown_0 (g := g) (d := d + 14) r2.2 rfl
  obtain ⟨r, hQ, kr⟩ := kk h2 e2
  refine ⟨r, hQ, fun w6 w7 w8 => ?_⟩
  rcases cmp_w (f := (fun _ => 1)) (fun E hE => by rcases ax_prefer hE with rfl <;> decide) p m2.1 (by decide) with e | ⟨e, p2⟩
  · exact sg_law_1419 hL (d := d + 14) (j0 := i + 1) (j1 := i + 2) (j2 := i + 1) (j3 := i + 2) (i1 1) (by omega) hz (i1 2) (by omega) hz x1 (i1 1) (by omega) hz (i1 2) (by omega) hz r2 r3 (fun _ => sg_law_1471 r2.2 (fun _ => sg_law_1488 r2.2 (kr _ _ _)) (fun q => absurd q e)) (fun q => absurd i7 q)
  · exact sg_law_1419 hL (d := d + 14) (j0 := i + 1) (j1 := i + 2) (j2 := i + 1) (j3 := i + 2) (i1 1) (by omega) hz (i1 2) (by omega) hz x1 (i1 1) (by omega) hz (i1 2) (by omega) hz r2 r3 (fun _ => sg_law_1471 r2.2 (fun q => absurd e q) (fun _ => sg_law_1476 r2.2 p2 (fun _ => sg_law_1488 r2.2 (kr _ _ _)) (fun q => absurd lg_self q))) (fun q => absurd i7 q)
theorem lc_pointsOf (hg : ev_cat1 g.2 = true) (s : lwS a b k h) (hk : k < 900) (hi : i + 4 < g.1.length) (hz : g.1.length < 2147483648) (kk : ∀ h', lwS a b (k + 1) h' → ∃ r, Q r ∧ ∀ w6 w7 w8, tr_L g (d + 15) m_law 28 [some (.ref 0), some (.ref 1000), some (.ref 1099), some (.ref 1109), some (.ref 1110), some (.int (Int32.ofNat i + 5)), w6, w7, w8] [] h' r) : ∃ r, Q r ∧ ∀ w6 w7 w8, tr_L g (d + 15) m_law 1491 [some (.ref 0), some (.ref 1000), some (.ref 1099), some (.ref 1109), some (.ref 1110), some (.int (Int32.ofNat i)), w6, w7, w8] [] h r := by
  obtain ⟨hL, s1, s2, c, P, S, y, l, t, B, ci, mi, w⟩ := s
  have q : cQ h c (cn c) := ⟨ci.1, w.1.1⟩
  have i1 : ∀ j, Int32.ofNat i + Int32.ofNat j = Int32.ofNat (i + j) := fun j => ii_a i j
  have wB := w.2.2.2.1
  have r1 := op_pointsOf (g := g) (d := d + 1) (x := (((g.1.getD (i + 1) 0).toUInt32 % 65536).toInt32)) hL q
  have L1 := hL
  obtain ⟨md, p⟩ := mid_w (A := (an_pointsOf c (cn c) (((g.1.getD (i + 1) 0).toUInt32 % 65536).toInt32))) L1 hh_M_rf (by omega) (by omega) ci mi
  have x1 := wr_pointsOf (d := d + 13) hL r1 (fun E hE => ax_pointsOf hE)
  obtain ⟨h2, m2, r2⟩ := mo_pointsOf (g := g) (d := d + 2) (x := (((g.1.getD (i + 1) 0).toUInt32 % 65536).toInt32)) x1.2 (MI_n md.2.2.2 w.1.1) 
  have e2 := end_q s1 s2 md r2.2 (mU_T m2) w
  have i7 := m2.2.1
  have r3 := sg_X9_thrown_0 (g := g) (d := d + 14) r2.2 rfl
  obtain ⟨r, hQ, kr⟩ := kk h2 e2
  refine ⟨r, hQ, fun w6 w7 w8 => ?_⟩
  rcases cmp_w (f := (fun _ => 1)) (fun E hE => by rcases ax_pointsOf hE with rfl <;> decide) p m2.1 (by decide) with e | ⟨e, p2⟩
  · exact sg_law_1491 hL (d := d + 14) (j0 := i + 1) (j1 := i + 1) (i1 1) (by omega) hz x1 (i1 1) (by omega) hz r2 r3 (fun _ => sg_law_1529 r2.2 (fun _ => sg_law_1546 r2.2 (kr _ _ _)) (fun q => absurd q e)) (fun q => absurd i7 q)
  · exact sg_law_1491 hL (d := d + 14) (j0 := i + 1) (j1 := i + 1) (i1 1) (by omega) hz x1 (i1 1) (by omega) hz r2 r3 (fun _ => sg_law_1529 r2.2 (fun q => absurd e q) (fun _ => sg_law_1534 r2.2 p2 (fun _ => sg_law_1546 r2.2 (kr _ _ _)) (fun q => absurd lg_self q))) (fun q => absurd i7 q)
theorem lc_pointsWinner (hg : ev_cat1 g.2 = true) (s : lwS a b k h) (hk : k < 900) (hi : i + 4 < g.1.length) (hz : g.1.length < 2147483648) (kk : ∀ h', lwS a b (k + 1) h' → ∃ r, Q r ∧ ∀ w6 w7 w8, tr_L g (d + 15) m_law 28 [some (.ref 0), some (.ref 1000), some (.ref 1099), some (.ref 1109), some (.ref 1110), some (.int (Int32.ofNat i + 5)), w6, w7, w8] [] h' r) : ∃ r, Q r ∧ ∀ w6 w7 w8, tr_L g (d + 15) m_law 1549 [some (.ref 0), some (.ref 1000), some (.ref 1099), some (.ref 1109), some (.ref 1110), some (.int (Int32.ofNat i)), w6, w7, w8] [] h r := by
  obtain ⟨hL, s1, s2, c, P, S, y, l, t, B, ci, mi, w⟩ := s
  have q : cQ h c (cn c) := ⟨ci.1, w.1.1⟩
  have i1 : ∀ j, Int32.ofNat i + Int32.ofNat j = Int32.ofNat (i + j) := fun j => ii_a i j
  have wB := w.2.2.2.1
  have r1 := op_pointsWinner (g := g) (d := d + 1)  hL q
  have L1 := hL
  obtain ⟨md, p⟩ := mid_w (A := (an_win ct_byPts c (cn c))) L1 hh_M_rf (by omega) (by omega) ci mi
  have x1 := wr_pointsWinner (d := d + 13) hL r1 (fun E hE => ax_win hE)
  obtain ⟨h2, m2, r2⟩ := mo_pointsWinner (g := g) (d := d + 2)  x1.2 (MI_n md.2.2.2 w.1.1) 
  have e2 := end_q s1 s2 md r2.2 (mU_T m2) w
  have i7 := m2.2.1
  have r3 := sg_X9_thrown_0 (g := g) (d := d + 14) r2.2 rfl
  obtain ⟨r, hQ, kr⟩ := kk h2 e2
  refine ⟨r, hQ, fun w6 w7 w8 => ?_⟩
  rcases cmp_w (f := (fun _ => 1)) (fun E hE => by rcases ax_win hE with rfl <;> decide) p m2.1 (by decide) with e | ⟨e, p2⟩
  · exact sg_law_1549 hL (d := d + 14)   x1  r2 r3 (fun _ => sg_law_1573 r2.2 (fun _ => sg_law_1590 r2.2 (kr _ _ _)) (fun q => absurd q e)) (fun q => absurd i7 q)
  · exact sg_law_1549 hL (d := d + 14)   x1  r2 r3 (fun _ => sg_law_1573 r2.2 (fun q => absurd e q) (fun _ => sg_law_1578 r2.2 p2 (fun _ => sg_law_1590 r2.2 (kr _ _ _)) (fun q => absurd lg_self q))) (fun q => absurd i7 q)
theorem lc_roundsWinner (hg : ev_cat1 g.2 = true) (s : lwS a b k h) (hk : k < 900) (hi : i + 4 < g.1.length) (hz : g.1.length < 2147483648) (kk : ∀ h', lwS a b (k + 1) h' → ∃ r, Q r ∧ ∀ w6 w7 w8, tr_L g (d + 15) m_law 28 [some (.ref 0), some (.ref 1000), some (.ref 1099), some (.ref 1109), some (.ref 1110), some (.int (Int32.ofNat i + 5)), w6, w7, w8] [] h' r) : ∃ r, Q r ∧ ∀ w6 w7 w8, tr_L g (d + 15) m_law 1593 [some (.ref 0), some (.ref 1000), some (.ref 1099), some (.ref 1109), some (.ref 1110), some (.int (Int32.ofNat i)), w6, w7, w8] [] h r := by
  obtain ⟨hL, s1, s2, c, P, S, y, l, t, B, ci, mi, w⟩ := s
  have q : cQ h c (cn c) := ⟨ci.1, w.1.1⟩
  have i1 : ∀ j, Int32.ofNat i + Int32.ofNat j = Int32.ofNat (i + j) := fun j => ii_a i j
  have wB := w.2.2.2.1
  obtain ⟨h1, F1, r1⟩ := op_roundsWinner (g := g) (d := d + 1)  hL q
  have L1 := ro_L r1.2
  obtain ⟨md, p⟩ := mid_w (A := (an_win ct_vrW c (cn c))) L1 (hh_M_F F1 kW99) (by omega) (by omega) (CI_W F1 ci) mi
  have x1 := wr_roundsWinner (d := d + 13) hL r1 (fun E hE => ax_win hE)
  obtain ⟨h2, m2, r2⟩ := mo_roundsWinner (g := g) (d := d + 2)  x1.2 (MI_n md.2.2.2 w.1.1) 
  have e2 := end_q s1 s2 md r2.2 (mU_Y m2) w
  have i7 := m2.2.1
  have r3 := sg_X9_thrown_0 (g := g) (d := d + 14) r2.2 rfl
  obtain ⟨r, hQ, kr⟩ := kk h2 e2
  refine ⟨r, hQ, fun w6 w7 w8 => ?_⟩
  rcases cmp_w (f := (fun _ => 1)) (fun E hE => by rcases ax_win hE with rfl <;> decide) p m2.1 (by decide) with e | ⟨e, p2⟩
  · exact sg_law_1593 hL (d := d + 14)   x1  r2 r3 (fun _ => sg_law_1617 r2.2 (fun _ => sg_law_1634 r2.2 (kr _ _ _)) (fun q => absurd q e)) (fun q => absurd i7 q)
  · exact sg_law_1593 hL (d := d + 14)   x1  r2 r3 (fun _ => sg_law_1617 r2.2 (fun q => absurd e q) (fun _ => sg_law_1622 r2.2 p2 (fun _ => sg_law_1634 r2.2 (kr _ _ _)) (fun q => absurd lg_self q))) (fun q => absurd i7 q)
theorem lc_rounds (hg : ev_cat1 g.2 = true) (s : lwS a b k h) (hk : k < 900) (hi : i + 4 < g.1.length) (hz : g.1.length < 2147483648) (kk : ∀ h', lwS a b (k + 1) h' → ∃ r, Q r ∧ ∀ w6 w7 w8, tr_L g (d + 15) m_law 28 [some (.ref 0), some (.ref 1000), some (.ref 1099), some (.ref 1109), some (.ref 1110), some (.int (Int32.ofNat i + 5)), w6, w7, w8] [] h' r) : ∃ r, Q r ∧ ∀ w6 w7 w8, tr_L g (d + 15) m_law 1637 [some (.ref 0), some (.ref 1000), some (.ref 1099), some (.ref 1109), some (.ref 1110), some (.int (Int32.ofNat i)), w6, w7, w8] [] h r := by
  obtain ⟨hL, s1, s2, c, P, S, y, l, t, B, ci, mi, w⟩ := s
  have q : cQ h c (cn c) := ⟨ci.1, w.1.1⟩
  have i1 : ∀ j, Int32.ofNat i + Int32.ofNat j = Int32.ofNat (i + j) := fun j => ii_a i j
  have wB := w.2.2.2.1
  obtain ⟨h1, F1, r1⟩ := op_rounds (g := g) (d := d + 1)  hL q
  have L1 := ro_L r1.2
  obtain ⟨md, p⟩ := mid_w (A := (an_rounds c (cn c))) L1 (hh_M_F F1 kW99) (by omega) (by omega) (CI_W F1 ci) mi
  have x1 := wr_rounds (d := d + 13) hL r1 (fun E hE => ax_rounds hE)
  obtain ⟨h2, m2, r2⟩ := mo_rounds (g := g) (d := d + 2)  x1.2 (MI_n md.2.2.2 w.1.1) 
  have e2 := end_q s1 s2 md r2.2 (mU_Y m2) w
  have i7 := m2.2.1
  have r3 := sg_X9_thrown_0 (g := g) (d := d + 14) r2.2 rfl
  obtain ⟨r, hQ, kr⟩ := kk h2 e2
  refine ⟨r, hQ, fun w6 w7 w8 => ?_⟩
  rcases cmp_w (f := (fun _ => 1)) (fun E hE => by rcases ax_rounds hE with rfl <;> decide) p m2.1 (by decide) with e | ⟨e, p2⟩
  · exact sg_law_1637 hL (d := d + 14)   x1  r2 r3 (fun _ => sg_law_1661 r2.2 (fun _ => sg_law_1678 r2.2 (kr _ _ _)) (fun q => absurd q e)) (fun q => absurd i7 q)
  · exact sg_law_1637 hL (d := d + 14)   x1  r2 r3 (fun _ => sg_law_1661 r2.2 (fun q => absurd e q) (fun _ => sg_law_1666 r2.2 p2 (fun _ => sg_law_1678 r2.2 (kr _ _ _)) (fun q => absurd lg_self q))) (fun q => absurd i7 q)
theorem lc_strengthOf (hg : ev_cat1 g.2 = true) (s : lwS a b k h) (hk : k < 900) (hi : i + 4 < g.1.length) (hz : g.1.length < 2147483648) (kk : ∀ h', lwS a b (k + 1) h' → ∃ r, Q r ∧ ∀ w6 w7 w8, tr_L g (d + 15) m_law 28 [some (.ref 0), some (.ref 1000), some (.ref 1099), some (.ref 1109), some (.ref 1110), some (.int (Int32.ofNat i + 5)), w6, w7, w8] [] h' r) : ∃ r, Q r ∧ ∀ w6 w7 w8, tr_L g (d + 15) m_law 1681 [some (.ref 0), some (.ref 1000), some (.ref 1099), some (.ref 1109), some (.ref 1110), some (.int (Int32.ofNat i)), w6, w7, w8] [] h r := by
  obtain ⟨hL, s1, s2, c, P, S, y, l, t, B, ci, mi, w⟩ := s
  have q : cQ h c (cn c) := ⟨ci.1, w.1.1⟩
  have i1 : ∀ j, Int32.ofNat i + Int32.ofNat j = Int32.ofNat (i + j) := fun j => ii_a i j
  have wB := w.2.2.2.1
  obtain ⟨h1, F1, r1⟩ := op_strength (g := g) (d := d + 1) (x := (((g.1.getD (i + 1) 0).toUInt32 % 65536).toInt32)) (y := (((g.1.getD (i + 2) 0).toUInt32 % 65536).toInt32)) hL q
  have L1 := ro_L r1.2
  obtain ⟨md, p⟩ := mid_w (A := (an_strength c (cn c) (((g.1.getD (i + 1) 0).toUInt32 % 65536).toInt32) (((g.1.getD (i + 2) 0).toUInt32 % 65536).toInt32))) L1 (hh_M_F F1 kW99) (by omega) (by omega) (CI_W F1 ci) mi
  have x1 := wr_strengthOf (d := d + 13) hL r1 (fun E hE => ax_strength hE)
  obtain ⟨h2, m2, r2⟩ := mo_strength (g := g) (d := d + 2) (x := (((g.1.getD (i + 1) 0).toUInt32 % 65536).toInt32)) (y := (((g.1.getD (i + 2) 0).toUInt32 % 65536).toInt32)) x1.2 (MI_n md.2.2.2 w.1.1) 
  have e2 := end_q s1 s2 md r2.2 m2 w
  have i7 := m2.2.1
  have r3 := sg_X9_thrown_0 (g := g) (d := d + 14) r2.2 rfl
  obtain ⟨r, hQ, kr⟩ := kk h2 e2
  refine ⟨r, hQ, fun w6 w7 w8 => ?_⟩
  rcases cmp_w (f := (fun _ => 1)) (fun E hE => by rcases ax_strength hE with rfl <;> decide) p m2.1 (by decide) with e | ⟨e, p2⟩
  · exact sg_law_1681 hL (d := d + 14) (j0 := i + 1) (j1 := i + 2) (j2 := i + 1) (j3 := i + 2) (i1 1) (by omega) hz (i1 2) (by omega) hz x1 (i1 1) (by omega) hz (i1 2) (by omega) hz r2 r3 (fun _ => sg_law_1733 r2.2 (fun _ => sg_law_1750 r2.2 (kr _ _ _)) (fun q => absurd q e)) (fun q => absurd i7 q)
  · exact sg_law_1681 hL (d := d + 14) (j0 := i + 1) (j1 := i + 2) (j2 := i + 1) (j3 := i + 2) (i1 1) (by omega) hz (i1 2) (by omega) hz x1 (i1 1) (by omega) hz (i1 2) (by omega) hz r2 r3 (fun _ => sg_law_1733 r2.2 (fun q => absurd e q) (fun _ => sg_law_1738 r2.2 p2 (fun _ => sg_law_1750 r2.2 (kr _ _ _)) (fun q => absurd lg_self q))) (fun q => absurd i7 q)
theorem lc_strengthByTrying (hg : ev_cat1 g.2 = true) (s : lwS a b k h) (hk : k < 900) (hi : i + 4 < g.1.length) (hz : g.1.length < 2147483648) (kk : ∀ h', lwS a b (k + 1) h' → ∃ r, Q r ∧ ∀ w6 w7 w8, tr_L g (d + 15) m_law 28 [some (.ref 0), some (.ref 1000), some (.ref 1099), some (.ref 1109), some (.ref 1110), some (.int (Int32.ofNat i + 5)), w6, w7, w8] [] h' r) : ∃ r, Q r ∧ ∀ w6 w7 w8, tr_L g (d + 15) m_law 1753 [some (.ref 0), some (.ref 1000), some (.ref 1099), some (.ref 1109), some (.ref 1110), some (.int (Int32.ofNat i)), w6, w7, w8] [] h r := by
  obtain ⟨hL, s1, s2, c, P, S, y, l, t, B, ci, mi, w⟩ := s
  have q : cQ h c (cn c) := ⟨ci.1, w.1.1⟩
  have i1 : ∀ j, Int32.ofNat i + Int32.ofNat j = Int32.ofNat (i + j) := fun j => ii_a i j
  have wB := w.2.2.2.1
  obtain ⟨h1, F1, r1⟩ := op_tried (g := g) (d := d + 1) (x := (((g.1.getD (i + 1) 0).toUInt32 % 65536).toInt32)) (y := (((g.1.getD (i + 2) 0).toUInt32 % 65536).toInt32)) hL q
  have L1 := ro_L r1.2
  obtain ⟨md, p⟩ := mid_w (A := (an_tried c (cn c) (((g.1.getD (i + 1) 0).toUInt32 % 65536).toInt32) (((g.1.getD (i + 2) 0).toUInt32 % 65536).toInt32))) L1 (hh_M_F F1 kW99) (by omega) (by omega) (CI_W F1 ci) mi
  have x1 := wr_strengthByTrying (d := d + 13) hL r1 (fun E hE => ax_tried hE)
  obtain ⟨h2, m2, r2⟩ := mo_tried (g := g) (d := d + 1) (x := (((g.1.getD (i + 1) 0).toUInt32 % 65536).toInt32)) (y := (((g.1.getD (i + 2) 0).toUInt32 % 65536).toInt32)) x1.2 (MI_n md.2.2.2 w.1.1) (agS_of w.1.1.2.1)
  have e2 := end_q s1 s2 md r2.2 m2 w
  have i7 := m2.2.1
  have r3 := sg_X9_thrown_0 (g := g) (d := d + 14) r2.2 rfl
  obtain ⟨r, hQ, kr⟩ := kk h2 e2
  refine ⟨r, hQ, fun w6 w7 w8 => ?_⟩
  rcases cmp_w (f := (fun _ => 1)) (fun E hE => by rcases ax_tried hE with rfl <;> decide) p m2.1 (by decide) with e | ⟨e, p2⟩
  · exact sg_law_1753 hL (d := d + 14) (j0 := i + 1) (j1 := i + 2) (j2 := i + 1) (j3 := i + 2) (i1 1) (by omega) hz (i1 2) (by omega) hz x1 (i1 1) (by omega) hz (i1 2) (by omega) hz r2 r3 (fun _ => sg_law_1805 r2.2 (fun _ => sg_law_1822 r2.2 (kr _ _ _)) (fun q => absurd q e)) (fun q => absurd i7 q)
  · exact sg_law_1753 hL (d := d + 14) (j0 := i + 1) (j1 := i + 2) (j2 := i + 1) (j3 := i + 2) (i1 1) (by omega) hz (i1 2) (by omega) hz x1 (i1 1) (by omega) hz (i1 2) (by omega) hz r2 r3 (fun _ => sg_law_1805 r2.2 (fun q => absurd e q) (fun _ => sg_law_1810 r2.2 p2 (fun _ => sg_law_1822 r2.2 (kr _ _ _)) (fun q => absurd lg_self q))) (fun q => absurd i7 q)
theorem lc_strengthWinner (hg : ev_cat1 g.2 = true) (s : lwS a b k h) (hk : k < 900) (hi : i + 4 < g.1.length) (hz : g.1.length < 2147483648) (kk : ∀ h', lwS a b (k + 1) h' → ∃ r, Q r ∧ ∀ w6 w7 w8, tr_L g (d + 15) m_law 28 [some (.ref 0), some (.ref 1000), some (.ref 1099), some (.ref 1109), some (.ref 1110), some (.int (Int32.ofNat i + 5)), w6, w7, w8] [] h' r) : ∃ r, Q r ∧ ∀ w6 w7 w8, tr_L g (d + 15) m_law 1825 [some (.ref 0), some (.ref 1000), some (.ref 1099), some (.ref 1109), some (.ref 1110), some (.int (Int32.ofNat i)), w6, w7, w8] [] h r := by
  obtain ⟨hL, s1, s2, c, P, S, y, l, t, B, ci, mi, w⟩ := s
  have q : cQ h c (cn c) := ⟨ci.1, w.1.1⟩
  have i1 : ∀ j, Int32.ofNat i + Int32.ofNat j = Int32.ofNat (i + j) := fun j => ii_a i j
  have wB := w.2.2.2.1
  obtain ⟨h1, F1, r1⟩ := op_strengthWinner (g := g) (d := d + 1)  hL q
  have L1 := ro_L r1.2
  obtain ⟨md, p⟩ := mid_w (A := (an_win ct_bySt c (cn c))) L1 (hh_M_F F1 kW99) (by omega) (by omega) (CI_W F1 ci) mi
  have x1 := wr_strengthWinner (d := d + 13) hL r1 (fun E hE => ax_win hE)
  obtain ⟨h2, m2, r2⟩ := mo_strWinner (g := g) (d := d + 2)  x1.2 (MI_n md.2.2.2 w.1.1) (exS_of w.1.1.2.1)
  have e2 := end_q s1 s2 md r2.2 m2 w
  have i7 := m2.2.1
  have r3 := sg_X9_thrown_0 (g := g) (d := d + 14) r2.2 rfl
  obtain ⟨r, hQ, kr⟩ := kk h2 e2
  refine ⟨r, hQ, fun w6 w7 w8 => ?_⟩
  rcases cmp_w (f := (fun _ => 1)) (fun E hE => by rcases ax_win hE with rfl <;> decide) p m2.1 (by decide) with e | ⟨e, p2⟩
  · exact sg_law_1825 hL (d := d + 14)   x1  r2 r3 (fun _ => sg_law_1849 r2.2 (fun _ => sg_law_1866 r2.2 (kr _ _ _)) (fun q => absurd q e)) (fun q => absurd i7 q)
  · exact sg_law_1825 hL (d := d + 14)   x1  r2 r3 (fun _ => sg_law_1849 r2.2 (fun q => absurd e q) (fun _ => sg_law_1854 r2.2 p2 (fun _ => sg_law_1866 r2.2 (kr _ _ _)) (fun q => absurd lg_self q))) (fun q => absurd i7 q)
theorem lc_isDominant (hg : ev_cat1 g.2 = true) (s : lwS a b k h) (hk : k < 900) (hi : i + 4 < g.1.length) (hz : g.1.length < 2147483648) (kk : ∀ h', lwS a b (k + 1) h' → ∃ r, Q r ∧ ∀ w6 w7 w8, tr_L g (d + 15) m_law 28 [some (.ref 0), some (.ref 1000), some (.ref 1099), some (.ref 1109), some (.ref 1110), some (.int (Int32.ofNat i + 5)), w6, w7, w8] [] h' r) : ∃ r, Q r ∧ ∀ w6 w7 w8, tr_L g (d + 15) m_law 1869 [some (.ref 0), some (.ref 1000), some (.ref 1099), some (.ref 1109), some (.ref 1110), some (.int (Int32.ofNat i)), w6, w7, w8] [] h r := by
  obtain ⟨hL, s1, s2, c, P, S, y, l, t, B, ci, mi, w⟩ := s
  have q : cQ h c (cn c) := ⟨ci.1, w.1.1⟩
  have i1 : ∀ j, Int32.ofNat i + Int32.ofNat j = Int32.ofNat (i + j) := fun j => ii_a i j
  have wB := w.2.2.2.1
  obtain ⟨h1, F1, r1⟩ := op_dominant (g := g) (d := d + 1) (x := (((g.1.getD (i + 1) 0).toUInt32 % 65536).toInt32)) hL q
  have L1 := ro_L r1.2
  obtain ⟨md, p⟩ := mid_w (A := (an_dominant c (cn c) (((g.1.getD (i + 1) 0).toUInt32 % 65536).toInt32))) L1 (hh_M_F F1 kW99) (by omega) (by omega) (CI_W F1 ci) mi
  have x1 := wr_isDominant (d := d + 13) hL r1 (fun E hE => ax_dominant hE) (fun v hv => dom_01 hv)
  obtain ⟨h2, m2, r2⟩ := mo_dominant (g := g) (d := d + 2) (x := (((g.1.getD (i + 1) 0).toUInt32 % 65536).toInt32)) x1.2 (MI_n md.2.2.2 w.1.1) 
  have e2 := end_q s1 s2 md r2.2 (mU_T m2) w
  have i7 := m2.2.1
  have r3 := sg_X9_thrown_0 (g := g) (d := d + 14) r2.2 rfl
  obtain ⟨r, hQ, kr⟩ := kk h2 e2
  refine ⟨r, hQ, fun w6 w7 w8 => ?_⟩
  rcases cmp_w (f := (fun _ => 1)) (fun E hE => by rcases ax_dominant hE with rfl <;> decide) p m2.1 (by decide) with e | ⟨e, p2⟩
  · exact sg_law_1869 hL (d := d + 14) (j0 := i + 1) (j1 := i + 1) (i1 1) (by omega) hz x1 (i1 1) (by omega) hz r2 r3 (fun _ => sg_law_1907 r2.2 (fun _ => sg_law_1931 r2.2 (kr _ _ _)) (fun q => absurd q e)) (fun q => absurd i7 q)
  · have p3 := ans_01 (A := an_dominant c (cn c) (((g.1.getD (i + 1) 0).toUInt32 % 65536).toInt32)) (f := (fun _ => 1)) (fun v hv => dom_01 hv)
    exact sg_law_1869 hL (d := d + 14) (j0 := i + 1) (j1 := i + 1) (i1 1) (by omega) hz x1 (i1 1) (by omega) hz r2 r3 (fun _ => sg_law_1907 r2.2 (fun q => absurd e q) (fun _ => sg_law_1912 r2.2 p2 (fun z => sg_law_1924 r2.2 (fun _ => sg_law_1931 r2.2 (kr _ _ _)) (fun q => absurd (by rw [z]; decide +kernel) q)) (fun z => sg_law_1920 r2.2 (fun _ => sg_law_1931 r2.2 (kr _ _ _)) (fun q => absurd (by rw [p3.resolve_left z]; decide +kernel) q)))) (fun q => absurd i7 q)
theorem lc_verdictAt (hg : ev_cat1 g.2 = true) (s : lwS a b k h) (hk : k < 900) (hi : i + 4 < g.1.length) (hz : g.1.length < 2147483648) (kk : ∀ h', lwS a b (k + 1) h' → ∃ r, Q r ∧ ∀ w6 w7 w8, tr_L g (d + 15) m_law 28 [some (.ref 0), some (.ref 1000), some (.ref 1099), some (.ref 1109), some (.ref 1110), some (.int (Int32.ofNat i + 5)), w6, w7, w8] [] h' r) : ∃ r, Q r ∧ ∀ w6 w7 w8, tr_L g (d + 15) m_law 2119 [some (.ref 0), some (.ref 1000), some (.ref 1099), some (.ref 1109), some (.ref 1110), some (.int (Int32.ofNat i)), w6, w7, w8] [] h r := by
  obtain ⟨hL, s1, s2, c, P, S, y, l, t, B, ci, mi, w⟩ := s
  have q : cQ h c (cn c) := ⟨ci.1, w.1.1⟩
  have i1 : ∀ j, Int32.ofNat i + Int32.ofNat j = Int32.ofNat (i + j) := fun j => ii_a i j
  have wB := w.2.2.2.1
  have r1 := op_verdict (g := g) (d := d + 1) (x := (g.1.getD (i + 1) 0)) hL q
  have L1 := hL
  obtain ⟨md, p⟩ := mid_w (A := (an_verdict c (g.1.getD (i + 1) 0))) L1 hh_M_rf (by omega) (by omega) ci mi
  have x1 := wr_verdictAt (d := d + 13) hL r1 (fun E hE => ax_verdict hE)
  obtain ⟨h2, m2, r2⟩ := mo_verdict (g := g) (d := d + 2) (x := (g.1.getD (i + 1) 0)) x1.2 (MI_n md.2.2.2 w.1.1) w.1 (by have := w.2.2.2.1; omega)
  have e2 := end_q s1 s2 md r2.2 (mU_T m2) w
  have i7 := m2.2.1
  have r3 := sg_X9_thrown_0 (g := g) (d := d + 14) r2.2 rfl
  obtain ⟨r, hQ, kr⟩ := kk h2 e2
  refine ⟨r, hQ, fun w6 w7 w8 => ?_⟩
  rcases cmp_w (f := (fun _ => 1)) (fun E hE => by rcases ax_verdict hE with rfl <;> decide) p m2.1 (by decide) with e | ⟨e, p2⟩
  · exact sg_law_2119 hL (d := d + 14) (j0 := i + 1) (j1 := i + 1) (i1 1) (by omega) hz x1 (i1 1) (by omega) hz r2 r3 (fun _ => sg_law_2155 r2.2 (fun _ => sg_law_2172 r2.2 (kr _ _ _)) (fun q => absurd q e)) (fun q => absurd i7 q)
  · exact sg_law_2119 hL (d := d + 14) (j0 := i + 1) (j1 := i + 1) (i1 1) (by omega) hz x1 (i1 1) (by omega) hz r2 r3 (fun _ => sg_law_2155 r2.2 (fun q => absurd e q) (fun _ => sg_law_2160 r2.2 p2 (fun _ => sg_law_2172 r2.2 (kr _ _ _)) (fun q => absurd lg_self q))) (fun q => absurd i7 q)
theorem lc_catByHeard (hg : ev_cat1 g.2 = true) (s : lwS a b k h) (hk : k < 900) (hi : i + 4 < g.1.length) (hz : g.1.length < 2147483648) (kk : ∀ h', lwS a b (k + 1) h' → ∃ r, Q r ∧ ∀ w6 w7 w8, tr_L g (d + 15) m_law 28 [some (.ref 0), some (.ref 1000), some (.ref 1099), some (.ref 1109), some (.ref 1110), some (.int (Int32.ofNat i + 5)), w6, w7, w8] [] h' r) : ∃ r, Q r ∧ ∀ w6 w7 w8, tr_L g (d + 15) m_law 2214 [some (.ref 0), some (.ref 1000), some (.ref 1099), some (.ref 1109), some (.ref 1110), some (.int (Int32.ofNat i)), w6, w7, w8] [] h r := by
  obtain ⟨hL, s1, s2, c, P, S, y, l, t, B, ci, mi, w⟩ := s
  have q : cQ h c (cn c) := ⟨ci.1, w.1.1⟩
  have i1 : ∀ j, Int32.ofNat i + Int32.ofNat j = Int32.ofNat (i + j) := fun j => ii_a i j
  have wB := w.2.2.2.1
  have r1 := op_catBy (g := g) (d := d + 1) (x := (g.1.getD (i + 1) 0)) hL q
  have L1 := hL
  obtain ⟨md, p⟩ := mid_w (A := (an_catBy c (cn c) (g.1.getD (i + 1) 0))) L1 hh_M_rf (by omega) (by omega) ci mi
  have x1 := wr_catByHeard (d := d + 13) hL r1 (fun E hE => ax_catBy hE)
  obtain ⟨h2, m2, r2⟩ := mo_catBy (g := g) (d := d + 2) (x := (g.1.getD (i + 1) 0)) x1.2 (MI_n md.2.2.2 w.1.1) w.1 (by have := w.2.2.2.1; omega)
  have e2 := end_q s1 s2 md r2.2 (mU_T m2) w
  have i7 := m2.2.1
  have r3 := sg_X9_thrown_0 (g := g) (d := d + 14) r2.2 rfl
  obtain ⟨r, hQ, kr⟩ := kk h2 e2
  refine ⟨r, hQ, fun w6 w7 w8 => ?_⟩
  rcases cmp_w (f := (fun _ => 1)) (fun E hE => by rcases ax_catBy hE with rfl <;> decide) p m2.1 (by decide) with e | ⟨e, p2⟩
  · exact sg_law_2214 hL (d := d + 14) (j0 := i + 1) (j1 := i + 1) (i1 1) (by omega) hz x1 (i1 1) (by omega) hz r2 r3 (fun _ => sg_law_2250 r2.2 (fun _ => sg_law_2267 r2.2 (kr _ _ _)) (fun q => absurd q e)) (fun q => absurd i7 q)
  · exact sg_law_2214 hL (d := d + 14) (j0 := i + 1) (j1 := i + 1) (i1 1) (by omega) hz x1 (i1 1) (by omega) hz r2 r3 (fun _ => sg_law_2250 r2.2 (fun q => absurd e q) (fun _ => sg_law_2255 r2.2 p2 (fun _ => sg_law_2267 r2.2 (kr _ _ _)) (fun q => absurd lg_self q))) (fun q => absurd i7 q)
end
