/-! THE LAW: its loop -/
theorem lwS_k {a b k : Nat} {h : ev_AH} (s : lwS a b k h) : lwS a b (k + 1) h := by
  obtain ⟨hL, s1, s2, c, P, S, y, l, t, B, ci, mi, w⟩ := s
  exact ⟨hL, by omega, by omega, c, P, S, y, l, t, B, ci, mi, lw_k w⟩
section
variable {g : tr_g} {d i : Nat} {h : ev_AH} {a b k : Nat} {Q : ev_O × ev_AH → Prop}
theorem law_row (hg : ev_cat1 g.2 = true) (s : lwS a b k h) (hk : k < 900) (hi : i + 4 < g.1.length) (hz : g.1.length < 2147483648) (kk : ∀ h', lwS a b (k + 1) h' → ∃ r, Q r ∧ ∀ w6 w7 w8, tr_L g (d + 15) m_law 28 [some (.ref 0), some (.ref 1000), some (.ref 1099), some (.ref 1109), some (.ref 1110), some (.int (Int32.ofNat i + 5)), w6, w7, w8] [] h' r) : ∃ r, Q r ∧ ∀ w6 w7 w8, tr_L g (d + 15) m_law 37 [some (.ref 0), some (.ref 1000), some (.ref 1099), some (.ref 1109), some (.ref 1110), some (.int (Int32.ofNat i)), w6, w7, w8] [] h r := by
  have hL := s.1
  by_cases hn : ((g.1.getD i 0) &&& 63).toInt < 0 ∨ 53 < ((g.1.getD i 0) &&& 63).toInt
  · obtain ⟨r, hQ, kr⟩ := kk h (lwS_k s)
    exact ⟨r, hQ, fun w6 w7 w8 => sg_law_37_td hL (j0 := i) rfl (by omega) hz hn (sg_law_2961 hL (kr _ _ _))⟩
  · have h0 : 0 ≤ ((g.1.getD i 0) &&& 63) := Int32.le_iff_toInt_le.mpr (by have : (0 : Int32).toInt = 0 := rfl; omega)
    obtain ⟨q, hq, e⟩ := ii_of h0
    have hq2 : ((g.1.getD i 0) &&& 63).toInt = q := by rw [e]; exact ii_ti hq
    by_cases h0 : q = 0
    · obtain ⟨r, hQ, kr⟩ := lc_addCat hg s hk hi hz kk
      exact ⟨r, hQ, fun w6 w7 w8 => sg_law_37_t0 hL (j0 := i) rfl (by omega) hz (by rw [e, h0]; rfl) (kr _ _ _)⟩
    by_cases h1 : q = 1
    · obtain ⟨r, hQ, kr⟩ := lc_setMirror hg s hk hi hz kk
      exact ⟨r, hQ, fun w6 w7 w8 => sg_law_37_t1 hL (j0 := i) rfl (by omega) hz (by rw [e, h1]; rfl) (kr _ _ _)⟩
    by_cases h2 : q = 2
    · obtain ⟨r, hQ, kr⟩ := lc_catCount hg s hk hi hz kk
      exact ⟨r, hQ, fun w6 w7 w8 => sg_law_37_t2 hL (j0 := i) rfl (by omega) hz (by rw [e, h2]; rfl) (kr _ _ _)⟩
    by_cases h3 : q = 3
    · obtain ⟨r, hQ, kr⟩ := lc_cellOf hg s hk hi hz kk
      exact ⟨r, hQ, fun w6 w7 w8 => sg_law_37_t3 hL (j0 := i) rfl (by omega) hz (by rw [e, h3]; rfl) (kr _ _ _)⟩
    by_cases h4 : q = 4
    · obtain ⟨r, hQ, kr⟩ := lc_catIn hg s hk hi hz kk
      exact ⟨r, hQ, fun w6 w7 w8 => sg_law_37_t4 hL (j0 := i) rfl (by omega) hz (by rw [e, h4]; rfl) (kr _ _ _)⟩
    by_cases h5 : q = 5
    · obtain ⟨r, hQ, kr⟩ := lc_contentOf hg s hk hi hz kk
      exact ⟨r, hQ, fun w6 w7 w8 => sg_law_37_t5 hL (j0 := i) rfl (by omega) hz (by rw [e, h5]; rfl) (kr _ _ _)⟩
    by_cases h6 : q = 6
    · obtain ⟨r, hQ, kr⟩ := lc_optionAt hg s hk hi hz kk
      exact ⟨r, hQ, fun w6 w7 w8 => sg_law_37_t6 hL (j0 := i) rfl (by omega) hz (by rw [e, h6]; rfl) (kr _ _ _)⟩
    by_cases h7 : q = 7
    · obtain ⟨r, hQ, kr⟩ := lc_placeOf hg s hk hi hz kk
      exact ⟨r, hQ, fun w6 w7 w8 => sg_law_37_t7 hL (j0 := i) rfl (by omega) hz (by rw [e, h7]; rfl) (kr _ _ _)⟩
    by_cases h8 : q = 8
    · obtain ⟨r, hQ, kr⟩ := lc_heardBy hg s hk hi hz kk
      exact ⟨r, hQ, fun w6 w7 w8 => sg_law_37_t8 hL (j0 := i) rfl (by omega) hz (by rw [e, h8]; rfl) (kr _ _ _)⟩
    by_cases h9 : q = 9
    · obtain ⟨r, hQ, kr⟩ := lc_rayEnd hg s hk hi hz kk
      exact ⟨r, hQ, fun w6 w7 w8 => sg_law_37_t9 hL (j0 := i) rfl (by omega) hz (by rw [e, h9]; rfl) (kr _ _ _)⟩
    by_cases h10 : q = 10
    · obtain ⟨r, hQ, kr⟩ := lc_rayEndByJoining hg s hk hi hz kk
      exact ⟨r, hQ, fun w6 w7 w8 => sg_law_37_t10 hL (j0 := i) rfl (by omega) hz (by rw [e, h10]; rfl) (kr _ _ _)⟩
    by_cases h11 : q = 11
    · obtain ⟨r, hQ, kr⟩ := lc_rayCat hg s hk hi hz kk
      exact ⟨r, hQ, fun w6 w7 w8 => sg_law_37_t11 hL (j0 := i) rfl (by omega) hz (by rw [e, h11]; rfl) (kr _ _ _)⟩
    by_cases h12 : q = 12
    · obtain ⟨r, hQ, kr⟩ := lc_rayLength hg s hk hi hz kk
      exact ⟨r, hQ, fun w6 w7 w8 => sg_law_37_t12 hL (j0 := i) rfl (by omega) hz (by rw [e, h12]; rfl) (kr _ _ _)⟩
    by_cases h13 : q = 13
    · obtain ⟨r, hQ, kr⟩ := lc_rayBounces hg s hk hi hz kk
      exact ⟨r, hQ, fun w6 w7 w8 => sg_law_37_t13 hL (j0 := i) rfl (by omega) hz (by rw [e, h13]; rfl) (kr _ _ _)⟩
    by_cases h14 : q = 14
    · obtain ⟨r, hQ, kr⟩ := lc_leastEffort hg s hk hi hz kk
      exact ⟨r, hQ, fun w6 w7 w8 => sg_law_37_t14 hL (j0 := i) rfl (by omega) hz (by rw [e, h14]; rfl) (kr _ _ _)⟩
    by_cases h15 : q = 15
    · obtain ⟨r, hQ, kr⟩ := lc_leastEffortByRounds hg s hk hi hz kk
      exact ⟨r, hQ, fun w6 w7 w8 => sg_law_37_t15 hL (j0 := i) rfl (by omega) hz (by rw [e, h15]; rfl) (kr _ _ _)⟩
    by_cases h16 : q = 16
    · obtain ⟨r, hQ, kr⟩ := lc_portByLength hg s hk hi hz kk
      exact ⟨r, hQ, fun w6 w7 w8 => sg_law_37_t16 hL (j0 := i) rfl (by omega) hz (by rw [e, h16]; rfl) (kr _ _ _)⟩
    by_cases h17 : q = 17
    · obtain ⟨r, hQ, kr⟩ := lc_testify hg s hk hi hz kk
      exact ⟨r, hQ, fun w6 w7 w8 => sg_law_37_t17 hL (j0 := i) rfl (by omega) hz (by rw [e, h17]; rfl) (kr _ _ _)⟩
    by_cases h18 : q = 18
    · obtain ⟨r, hQ, kr⟩ := lc_firstVotes hg s hk hi hz kk
      exact ⟨r, hQ, fun w6 w7 w8 => sg_law_37_t18 hL (j0 := i) rfl (by omega) hz (by rw [e, h18]; rfl) (kr _ _ _)⟩
    by_cases h19 : q = 19
    · obtain ⟨r, hQ, kr⟩ := lc_prefer hg s hk hi hz kk
      exact ⟨r, hQ, fun w6 w7 w8 => sg_law_37_t19 hL (j0 := i) rfl (by omega) hz (by rw [e, h19]; rfl) (kr _ _ _)⟩
    by_cases h20 : q = 20
    · obtain ⟨r, hQ, kr⟩ := lc_pointsOf hg s hk hi hz kk
      exact ⟨r, hQ, fun w6 w7 w8 => sg_law_37_t20 hL (j0 := i) rfl (by omega) hz (by rw [e, h20]; rfl) (kr _ _ _)⟩
    by_cases h21 : q = 21
    · obtain ⟨r, hQ, kr⟩ := lc_pointsWinner hg s hk hi hz kk
      exact ⟨r, hQ, fun w6 w7 w8 => sg_law_37_t21 hL (j0 := i) rfl (by omega) hz (by rw [e, h21]; rfl) (kr _ _ _)⟩
    by_cases h22 : q = 22
    · obtain ⟨r, hQ, kr⟩ := lc_roundsWinner hg s hk hi hz kk
      exact ⟨r, hQ, fun w6 w7 w8 => sg_law_37_t22 hL (j0 := i) rfl (by omega) hz (by rw [e, h22]; rfl) (kr _ _ _)⟩
    by_cases h23 : q = 23
    · obtain ⟨r, hQ, kr⟩ := lc_rounds hg s hk hi hz kk
      exact ⟨r, hQ, fun w6 w7 w8 => sg_law_37_t23 hL (j0 := i) rfl (by omega) hz (by rw [e, h23]; rfl) (kr _ _ _)⟩
    by_cases h24 : q = 24
    · obtain ⟨r, hQ, kr⟩ := lc_strengthOf hg s hk hi hz kk
      exact ⟨r, hQ, fun w6 w7 w8 => sg_law_37_t24 hL (j0 := i) rfl (by omega) hz (by rw [e, h24]; rfl) (kr _ _ _)⟩
    by_cases h25 : q = 25
    · obtain ⟨r, hQ, kr⟩ := lc_strengthByTrying hg s hk hi hz kk
      exact ⟨r, hQ, fun w6 w7 w8 => sg_law_37_t25 hL (j0 := i) rfl (by omega) hz (by rw [e, h25]; rfl) (kr _ _ _)⟩
    by_cases h26 : q = 26
    · obtain ⟨r, hQ, kr⟩ := lc_strengthWinner hg s hk hi hz kk
      exact ⟨r, hQ, fun w6 w7 w8 => sg_law_37_t26 hL (j0 := i) rfl (by omega) hz (by rw [e, h26]; rfl) (kr _ _ _)⟩
    by_cases h27 : q = 27
    · obtain ⟨r, hQ, kr⟩ := lc_isDominant hg s hk hi hz kk
      exact ⟨r, hQ, fun w6 w7 w8 => sg_law_37_t27 hL (j0 := i) rfl (by omega) hz (by rw [e, h27]; rfl) (kr _ _ _)⟩
    by_cases h28 : q = 28
    · obtain ⟨r, hQ, kr⟩ := lc_setMethod hg s hk hi hz kk
      exact ⟨r, hQ, fun w6 w7 w8 => sg_law_37_t28 hL (j0 := i) rfl (by omega) hz (by rw [e, h28]; rfl) (kr _ _ _)⟩
    by_cases h29 : q = 29
    · obtain ⟨r, hQ, kr⟩ := lc_method hg s hk hi hz kk
      exact ⟨r, hQ, fun w6 w7 w8 => sg_law_37_t29 hL (j0 := i) rfl (by omega) hz (by rw [e, h29]; rfl) (kr _ _ _)⟩
    by_cases h30 : q = 30
    · obtain ⟨r, hQ, kr⟩ := lc_deliberate hg s hk hi hz kk
      exact ⟨r, hQ, fun w6 w7 w8 => sg_law_37_t30 hL (j0 := i) rfl (by omega) hz (by rw [e, h30]; rfl) (kr _ _ _)⟩
    by_cases h31 : q = 31
    · obtain ⟨r, hQ, kr⟩ := lc_retry hg s hk hi hz kk
      exact ⟨r, hQ, fun w6 w7 w8 => sg_law_37_t31 hL (j0 := i) rfl (by omega) hz (by rw [e, h31]; rfl) (kr _ _ _)⟩
    by_cases h32 : q = 32
    · obtain ⟨r, hQ, kr⟩ := lc_hasCause hg s hk hi hz kk
      exact ⟨r, hQ, fun w6 w7 w8 => sg_law_37_t32 hL (j0 := i) rfl (by omega) hz (by rw [e, h32]; rfl) (kr _ _ _)⟩
    by_cases h33 : q = 33
    · obtain ⟨r, hQ, kr⟩ := lc_deliberations hg s hk hi hz kk
      exact ⟨r, hQ, fun w6 w7 w8 => sg_law_37_t33 hL (j0 := i) rfl (by omega) hz (by rw [e, h33]; rfl) (kr _ _ _)⟩
    by_cases h34 : q = 34
    · obtain ⟨r, hQ, kr⟩ := lc_verdictAt hg s hk hi hz kk
      exact ⟨r, hQ, fun w6 w7 w8 => sg_law_37_t34 hL (j0 := i) rfl (by omega) hz (by rw [e, h34]; rfl) (kr _ _ _)⟩
    by_cases h35 : q = 35
    · obtain ⟨r, hQ, kr⟩ := lc_hungCount hg s hk hi hz kk
      exact ⟨r, hQ, fun w6 w7 w8 => sg_law_37_t35 hL (j0 := i) rfl (by omega) hz (by rw [e, h35]; rfl) (kr _ _ _)⟩
    by_cases h36 : q = 36
    · obtain ⟨r, hQ, kr⟩ := lc_retrials hg s hk hi hz kk
      exact ⟨r, hQ, fun w6 w7 w8 => sg_law_37_t36 hL (j0 := i) rfl (by omega) hz (by rw [e, h36]; rfl) (kr _ _ _)⟩
    by_cases h37 : q = 37
    · obtain ⟨r, hQ, kr⟩ := lc_testimonies hg s hk hi hz kk
      exact ⟨r, hQ, fun w6 w7 w8 => sg_law_37_t37 hL (j0 := i) rfl (by omega) hz (by rw [e, h37]; rfl) (kr _ _ _)⟩
    by_cases h38 : q = 38
    · obtain ⟨r, hQ, kr⟩ := lc_catByHeard hg s hk hi hz kk
      exact ⟨r, hQ, fun w6 w7 w8 => sg_law_37_t38 hL (j0 := i) rfl (by omega) hz (by rw [e, h38]; rfl) (kr _ _ _)⟩
    by_cases h39 : q = 39
    · obtain ⟨r, hQ, kr⟩ := lc_meanHeard hg s hk hi hz kk
      exact ⟨r, hQ, fun w6 w7 w8 => sg_law_37_t39 hL (j0 := i) rfl (by omega) hz (by rw [e, h39]; rfl) (kr _ _ _)⟩
    by_cases h40 : q = 40
    · obtain ⟨r, hQ, kr⟩ := lc_hungShare hg s hk hi hz kk
      exact ⟨r, hQ, fun w6 w7 w8 => sg_law_37_t40 hL (j0 := i) rfl (by omega) hz (by rw [e, h40]; rfl) (kr _ _ _)⟩
    by_cases h41 : q = 41
    · obtain ⟨r, hQ, kr⟩ := lc_consistent hg s hk hi hz kk
      exact ⟨r, hQ, fun w6 w7 w8 => sg_law_37_t41 hL (j0 := i) rfl (by omega) hz (by rw [e, h41]; rfl) (kr _ _ _)⟩
    by_cases h42 : q = 42
    · obtain ⟨r, hQ, kr⟩ := lc_writeRow hg s hk hi hz kk
      exact ⟨r, hQ, fun w6 w7 w8 => sg_law_37_t42 hL (j0 := i) rfl (by omega) hz (by rw [e, h42]; rfl) (kr _ _ _)⟩
    by_cases h43 : q = 43
    · obtain ⟨r, hQ, kr⟩ := lc_writeCat hg s hk hi hz kk
      exact ⟨r, hQ, fun w6 w7 w8 => sg_law_37_t43 hL (j0 := i) rfl (by omega) hz (by rw [e, h43]; rfl) (kr _ _ _)⟩
    by_cases h44 : q = 44
    · obtain ⟨r, hQ, kr⟩ := lc_outputAt hg s hk hi hz kk
      exact ⟨r, hQ, fun w6 w7 w8 => sg_law_37_t44 hL (j0 := i) rfl (by omega) hz (by rw [e, h44]; rfl) (kr _ _ _)⟩
    by_cases h45 : q = 45
    · obtain ⟨r, hQ, kr⟩ := lc_appendInput hg s hk hi hz kk
      exact ⟨r, hQ, fun w6 w7 w8 => sg_law_37_t45 hL (j0 := i) rfl (by omega) hz (by rw [e, h45]; rfl) (kr _ _ _)⟩
    by_cases h46 : q = 46
    · obtain ⟨r, hQ, kr⟩ := lc_execute hg s hk hi hz kk
      exact ⟨r, hQ, fun w6 w7 w8 => sg_law_37_t46 hL (j0 := i) rfl (by omega) hz (by rw [e, h46]; rfl) (kr _ _ _)⟩
    by_cases h47 : q = 47
    · obtain ⟨r, hQ, kr⟩ := lc_syntaxErrorOffset hg s hk hi hz kk
      exact ⟨r, hQ, fun w6 w7 w8 => sg_law_37_t47 hL (j0 := i) rfl (by omega) hz (by rw [e, h47]; rfl) (kr _ _ _)⟩
    by_cases h48 : q = 48
    · obtain ⟨r, hQ, kr⟩ := lc_rejectionReason hg s hk hi hz kk
      exact ⟨r, hQ, fun w6 w7 w8 => sg_law_37_t48 hL (j0 := i) rfl (by omega) hz (by rw [e, h48]; rfl) (kr _ _ _)⟩
    by_cases h49 : q = 49
    · obtain ⟨r, hQ, kr⟩ := lc_rejectionDetail hg s hk hi hz kk
      exact ⟨r, hQ, fun w6 w7 w8 => sg_law_37_t49 hL (j0 := i) rfl (by omega) hz (by rw [e, h49]; rfl) (kr _ _ _)⟩
    by_cases h50 : q = 50
    · obtain ⟨r, hQ, kr⟩ := lc_causeReason hg s hk hi hz kk
      exact ⟨r, hQ, fun w6 w7 w8 => sg_law_37_t50 hL (j0 := i) rfl (by omega) hz (by rw [e, h50]; rfl) (kr _ _ _)⟩
    by_cases h51 : q = 51
    · obtain ⟨r, hQ, kr⟩ := lc_undo hg s hk hi hz kk
      exact ⟨r, hQ, fun w6 w7 w8 => sg_law_37_t51 hL (j0 := i) rfl (by omega) hz (by rw [e, h51]; rfl) (kr _ _ _)⟩
    by_cases h52 : q = 52
    · obtain ⟨r, hQ, kr⟩ := lc_save hg s hk hi hz kk
      exact ⟨r, hQ, fun w6 w7 w8 => sg_law_37_t52 hL (j0 := i) rfl (by omega) hz (by rw [e, h52]; rfl) (kr _ _ _)⟩
    by_cases h53 : q = 53
    · obtain ⟨r, hQ, kr⟩ := lc_restoreSnapshot hg s hk hi hz kk
      exact ⟨r, hQ, fun w6 w7 w8 => sg_law_37_t53 hL (j0 := i) rfl (by omega) hz (by rw [e, h53]; rfl) (kr _ _ _)⟩
    exact absurd hn (by omega)
theorem law_loop (hg : ev_cat1 g.2 = true) (hz : g.1.length ≤ 4400) : ∀ (m k : Nat) (h : ev_AH), g.1.length < 5 * k + 5 * m + 5 → 5 * k ≤ g.1.length → lwS a b k h → ∃ r : ev_O × ev_AH, (∃ h' k', r = (.inl (some (.int 1)), h') ∧ lwS a b k' h' ∧ 5 * k' ≤ g.1.length) ∧ ∀ w6 w7 w8, tr_L g (d + 15) m_law 28 [some (.ref 0), some (.ref 1000), some (.ref 1099), some (.ref 1109), some (.ref 1110), some (.int (Int32.ofNat (5 * k))), w6, w7, w8] [] h r := by
  have e5 : (Int32.ofNat g.1.length - 5).toInt = (g.1.length : Int) - 5 := ii_su (m := g.1.length) (n := 5) (by omega) (by omega)
  have ek : ∀ k, 5 * k ≤ g.1.length → (Int32.ofNat (5 * k)).toInt = ((5 * k : Nat) : Int) := fun k hk => ii_ti (by omega)
  have base : ∀ (k : Nat) (h : ev_AH), ¬ 5 * k + 4 < g.1.length → 5 * k ≤ g.1.length → lwS a b k h → ∃ r : ev_O × ev_AH, (∃ h' k', r = (.inl (some (.int 1)), h') ∧ lwS a b k' h' ∧ 5 * k' ≤ g.1.length) ∧ ∀ w6 w7 w8, tr_L g (d + 15) m_law 28 [some (.ref 0), some (.ref 1000), some (.ref 1099), some (.ref 1109), some (.ref 1110), some (.int (Int32.ofNat (5 * k))), w6, w7, w8] [] h r := fun k h hn hk s =>
    ⟨_, ⟨h, k, rfl, s, hk⟩, fun w6 w7 w8 => sg_law_28 s.1 (fun _ => sg_law_2967 s.1 rfl) (fun q => absurd (Int32.le_iff_toInt_le.mp q) (by rw [e5, ek k hk]; omega))⟩
  intro m
  induction m with
  | zero => exact fun k h hm hk s => base k h (by omega) hk s
  | succ m ih =>
    intro k h hm hk s
    by_cases hn : 5 * k + 4 < g.1.length
    · obtain ⟨r, hQ, kr⟩ := law_row (i := 5 * k) (d := d) hg s (by omega) hn (by omega) (fun h' s' => by
        have := ih (k + 1) h' (by omega) (by omega) s'
        rw [show (Int32.ofNat (5 * k) + 5 : Int32) = Int32.ofNat (5 * (k + 1)) from ii_a (5 * k) 5]
        exact this)
      exact ⟨r, hQ, fun w6 w7 w8 => sg_law_28 s.1 (fun q => absurd (Int32.lt_iff_toInt_lt.mp q) (by rw [e5, ek k hk]; omega)) (fun _ => kr _ _ _)⟩
    · exact base k h hn hk s
end
