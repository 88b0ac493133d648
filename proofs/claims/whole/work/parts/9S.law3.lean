/-! THE LAW: the rest -/
theorem co_okB {c : CT} {n B : Nat} (w : cw c n B) : co_ok c n := fun q hq => by
  obtain ⟨h1, h2⟩ := w.2.2.1 q hq
  refine ⟨?_, h2.mp⟩
  rcases h1 with e | e | e | e
  · rw [e]; exact ⟨46, by decide, rfl⟩
  · rw [e]; exact ⟨47, by decide, rfl⟩
  · rw [e]; exact ⟨92, by decide, rfl⟩
  · rw [e]; exact ⟨99, by decide, rfl⟩
section
variable {g : tr_g} {d : Nat} {h h1 h2 h' : ev_AH} {c c' : CT} {n B k : Nat} {P P' : List CT} {S S' : Option CT} {y y' : YS} {l l' t t' : List Int32}
theorem lw_app {x : Int32} (w : lw c P S y t B k) : lw c P S y (do_app t x).2 B (k + 1) := by
  unfold do_app
  by_cases hx : x < 32 ∨ 126 < x
  · rw [if_pos hx]
    exact lw_k w
  · rw [if_neg hx]
    by_cases hl : t.length < 60
    · rw [if_pos hl]
      obtain ⟨w1, w2, w3, w4, w5, w6, w7⟩ := w
      have a1 : (32 : Int32) ≤ x := Int32.not_lt.mp (fun q => hx (Or.inl q))
      have a2 : x ≤ (126 : Int32) := Int32.not_lt.mp (fun q => hx (Or.inr q))
      obtain ⟨q, hq, rfl⟩ := ii_of (Int32.le_trans (by decide : (0 : Int32) ≤ 32) a1)
      have b1 := (ii_le (a := 32) (by omega) (by omega)).mp a1
      have b2 : q ≤ 126 := (ii_le (b := 126) (by omega) (by omega)).mp a2
      refine ⟨w1, w2, w3, by simp; omega, by simp; omega, fun z hz => ?_, w7⟩
      rcases List.mem_append.mp hz with h | h
      · exact w6 z h
      · exact ⟨q, b1, b2, List.mem_singleton.mp h⟩
    · rw [if_neg hl]
      exact lw_k w
theorem push_cw (hP : ∀ e ∈ P, cw e (cn e) B) (hc : cw c (cn c) B) : ∀ e ∈ hi_push P c, cw e (cn e) B := fun e he => by
  unfold hi_push at he
  split at he
  · rcases List.mem_append.mp he with h | h
    · exact hP e h
    · have := List.mem_singleton.mp h
      rw [this]
      exact hc
  · rcases List.mem_append.mp he with h | h
    · exact hP e (List.mem_of_mem_drop h)
    · have := List.mem_singleton.mp h
      rw [this]
      exact hc
theorem lw_exec (hp : (rdA t 60 0).1 ≤ t.length) (w : lw c P S y t B k) : ∃ B', lw (do_exec c P y t).2.1 (do_exec c P y t).2.2.1 S (do_exec c P y t).2.2.2 [] B' (k + 1) := by
  obtain ⟨w1, w2, w3, w4, w5, w6, w7⟩ := w
  have base : ∀ y' : YS, (y'.2.2.2 = -1 ∨ 0 ≤ y'.2.2.2) → lw c P S y' [] B (k + 1) := fun y' hy => ⟨w1, w2, w3, by simp; omega, by simp, (fun x hx => by cases hx), hy⟩
  unfold do_exec
  cases hA : (rdA t 60 0).2 with
  | none => exact ⟨B, base _ (Or.inr ((ii_le (a := 0) (by omega) (by omega)).mpr (by omega)))⟩
  | some cs =>
    have hcnt := rdA_cnt 60 0 cs (Nat.zero_le _) hA
    have hK := vs_cK cs 0 (rdA_vs 60 0 0 cs rfl hA)
    have q := cms_cw cs c 0 B hK w1
    cases hC : (cms cs c 0).1 with
    | none =>
      simp only [hC]
      exact ⟨B + cs.length, q, push_cw (fun e he => cw_B (by omega) (w2 e he)) (cw_B (by omega) w1), fun e he => cw_B (by omega) (w3 e he), by simp; omega, by simp, (fun x hx => by cases hx), w7⟩
    | some z =>
      simp only [hC]
      by_cases hz : z.1 = -1
      · simp only [if_pos hz]
        exact ⟨B, base y w7⟩
      · simp only [if_neg hz]
        exact ⟨B, base _ w7⟩
theorem sbo_ch (s : sbo h l) : ∀ z ∈ l, sb_c z := fun z hz => by
  obtain ⟨_, _, a, b, _, _, _, _, _, _, e, f⟩ := s.1
  exact f z (List.mem_of_mem_take (by rw [e]; exact hz))
theorem mid_2 {x : ev_AC} (ci : CI h c P S y l t) (mi : MI h c P S y l t) : mid h (ev_wr h 1110 x) c P S y l t c P S y l t := ⟨by show h.2.1 ≤ _; omega, by show h.2.2 ≤ _; omega, CI_F wr_F2 (by decide) ci, MI_E (fun k p q => wr_F2.2.2 k (by simp; omega)) mi⟩
theorem mid_x (ci : CI h c P S y l t) (mi : MI h c P S y l t) : mid h (hh_x h) c P S y l t c P S y l t := ⟨by show h.2.1 + 1 ≤ _; omega, by show h.2.2 + 6 ≤ _; omega, CI_x ci, mi⟩
/-! the mean and the share -/
theorem op_mean0 (hL : hh_L h) (q : cQ h c n) (e : ct_i c 0 = 0) : tr_L g d m_X8_meanHeard 0 [some (.ref 1000)] [] h (.inr 4, hh_x h) := by
  have e6 : hh_i h 1 6 = ct_i c 0 := cq_i q (k := 0) (by omega)
  exact sg_X8_meanHeard_0 hL (fun z => absurd (e6.trans e) z) (fun _ => sg_X8_meanHeard_10 hL rfl)
theorem op_mean (hL : hh_L h) (q : cQ h c n) (e : ct_i c 0 ≠ 0) : tr_L g d m_X8_meanHeard 0 [some (.ref 1000)] [] h (.inl (some (.double (q_d (ct_i c 5) (ct_i c 0)))), h) := by
  have e6 : hh_i h 1 6 = ct_i c 0 := cq_i q (k := 0) (by omega)
  have e11 : hh_i h 1 11 = ct_i c 5 := cq_i q (k := 5) (by omega)
  exact sg_X8_meanHeard_0 hL (fun _ => sg_X8_meanHeard_21 hL (by rw [e6, e11]; exact q_d_n e) (by rw [e6, e11]; rfl)) (fun z => absurd (e6.symm.trans z) e)
theorem op_share0 (hL : hh_L h) (q : cQ h c n) (e : ct_i c 2 = 0) : tr_L g d m_X8_hungShare 0 [some (.ref 1000)] [] h (.inr 4, hh_x h) := by
  have e6 : hh_i h 1 8 = ct_i c 2 := cq_i q (k := 2) (by omega)
  exact sg_X8_hungShare_0 hL (fun z => absurd (e6.trans e) z) (fun _ => sg_X8_hungShare_10 hL rfl)
theorem op_share (hL : hh_L h) (q : cQ h c n) (e : ct_i c 2 ≠ 0) : tr_L g d m_X8_hungShare 0 [some (.ref 1000)] [] h (.inl (some (.float (q_f (ct_i c 3) (ct_i c 2)))), h) := by
  have e6 : hh_i h 1 8 = ct_i c 2 := cq_i q (k := 2) (by omega)
  have e11 : hh_i h 1 9 = ct_i c 3 := cq_i q (k := 3) (by omega)
  exact sg_X8_hungShare_0 hL (fun _ => sg_X8_hungShare_21 hL (by rw [e6, e11]; exact q_f_n e) (by rw [e6, e11]; rfl)) (fun z => absurd (e6.symm.trans z) e)
theorem mo_mean0 (hL : hh_L h) (q : mQ h c n) (e : ct_i c 0 = 0) : ∃ h', mT h h' 1 ∧ tr_L g (d + 1) m_X9_meanHeard 0 [some (.ref 1099)] [] h (.inl (some (.double FP.dconst0)), h') := by
  have e6 : (hh_a h 100).getD 1 0 = ct_i c 0 := q.1.2.1.2.1
  have r1 := sp_thr1 (g := g) (d := d) (x := 1) hL
  exact ⟨_, mT_set hL, sg_X9_meanHeard_0 hL (j0 := 1) rfl (by omega) (fun z => absurd (e6.trans e) z) (fun _ => sg_X9_meanHeard_10 hL (d := d) r1 (fun z => absurd z (by decide)) (fun _ => sg_X9_meanHeard_22 r1.2 rfl))⟩
theorem mo_mean (hL : hh_L h) (q : mQ h c n) (e : ct_i c 0 ≠ 0) : ∃ h', mT h h' 0 ∧ tr_L g (d + 1) m_X9_meanHeard 0 [some (.ref 1099)] [] h (.inl (some (.double (q_d (ct_i c 5) (ct_i c 0)))), h') := by
  have e6 : (hh_a h 100).getD 1 0 = ct_i c 0 := q.1.2.1.2.1
  have e5 : (hh_a h 100).getD 5 0 = ct_i c 5 := q.1.2.1.2.2.2.2.2.1
  have r1 := sp_thr0 (g := g) (d := d) (x := 1) hL
  have f6 : (hh_a (hh_si h 99 8 7 0) 100).getD 1 0 = ct_i c 0 := by rw [hh_a_si (by decide)]; exact e6
  have f5 : (hh_a (hh_si h 99 8 7 0) 100).getD 5 0 = ct_i c 5 := by rw [hh_a_si (by decide)]; exact e5
  exact ⟨_, mT_set hL, sg_X9_meanHeard_0 hL (j0 := 1) rfl (by omega) (fun _ => sg_X9_meanHeard_14 hL (d := d) r1 (fun _ => sg_X9_meanHeard_26 r1.2 (j0 := 5) (j1 := 1) rfl (by omega) rfl (by omega) (by rw [f5, f6]; exact q_d_n e) (by rw [f5, f6]; rfl)) (fun z => absurd rfl z)) (fun z => absurd (e6.symm.trans z) e)⟩
theorem mo_share0 (hL : hh_L h) (q : mQ h c n) (e : ct_i c 2 = 0) : ∃ h', mT h h' 1 ∧ tr_L g (d + 1) m_X9_hungShare 0 [some (.ref 1099)] [] h (.inl (some (.float FP.fconst0)), h') := by
  have e6 : (hh_a h 100).getD 2 0 = ct_i c 2 := q.1.2.1.2.2.1
  have r1 := sp_thr1 (g := g) (d := d) (x := 1) hL
  exact ⟨_, mT_set hL, sg_X9_hungShare_0 hL (j0 := 2) rfl (by omega) (fun z => absurd (e6.trans e) z) (fun _ => sg_X9_hungShare_10 hL (d := d) r1 (fun z => absurd z (by decide)) (fun _ => sg_X9_hungShare_22 r1.2 rfl))⟩
theorem mo_share (hL : hh_L h) (q : mQ h c n) (e : ct_i c 2 ≠ 0) : ∃ h', mT h h' 0 ∧ tr_L g (d + 1) m_X9_hungShare 0 [some (.ref 1099)] [] h (.inl (some (.float (q_f (ct_i c 3) (ct_i c 2)))), h') := by
  have e6 : (hh_a h 100).getD 2 0 = ct_i c 2 := q.1.2.1.2.2.1
  have e5 : (hh_a h 100).getD 3 0 = ct_i c 3 := q.1.2.1.2.2.2.1
  have r1 := sp_thr0 (g := g) (d := d) (x := 1) hL
  have f6 : (hh_a (hh_si h 99 8 7 0) 100).getD 2 0 = ct_i c 2 := by rw [hh_a_si (by decide)]; exact e6
  have f5 : (hh_a (hh_si h 99 8 7 0) 100).getD 3 0 = ct_i c 3 := by rw [hh_a_si (by decide)]; exact e5
  exact ⟨_, mT_set hL, sg_X9_hungShare_0 hL (j0 := 2) rfl (by omega) (fun _ => sg_X9_hungShare_14 hL (d := d) r1 (fun _ => sg_X9_hungShare_26 r1.2 (j0 := 3) (j1 := 2) rfl (by omega) rfl (by omega) (by rw [f5, f6]; exact q_f_n e) (by rw [f5, f6]; rfl)) (fun z => absurd rfl z)) (fun z => absurd (e6.symm.trans z) e)⟩
end
theorem ax_5 {E : Nat} (h : (.inr 5 : Int32 ⊕ Nat) = .inr E) : E = 5 := (Sum.inr.inj h).symm
theorem ax_no {v : Int32} {E : Nat} (h : (.inl v : Int32 ⊕ Nat) = .inr E) : E = 5 := by cases h
section
variable {g : tr_g} {d i : Nat} {h : ev_AH} {a b k : Nat} {Q : ev_O × ev_AH → Prop}
theorem lc_catCount (hg : ev_cat1 g.2 = true) (s : lwS a b k h) (hk : k < 900) (hi : i + 4 < g.1.length) (hz : g.1.length < 2147483648) (kk : ∀ h', lwS a b (k + 1) h' → ∃ r, Q r ∧ ∀ w6 w7 w8, tr_L g (d + 15) m_law 28 [some (.ref 0), some (.ref 1000), some (.ref 1099), some (.ref 1109), some (.ref 1110), some (.int (Int32.ofNat i + 5)), w6, w7, w8] [] h' r) : ∃ r, Q r ∧ ∀ w6 w7 w8, tr_L g (d + 15) m_law 444 [some (.ref 0), some (.ref 1000), some (.ref 1099), some (.ref 1109), some (.ref 1110), some (.int (Int32.ofNat i)), w6, w7, w8] [] h r := by
  obtain ⟨hL, s1, s2, c, P, S, y, l, t, B, ci, mi, w⟩ := s
  have q : cQ h c (cn c) := ⟨ci.1, w.1.1⟩
  have i1 : ∀ j, Int32.ofNat i + Int32.ofNat j = Int32.ofNat (i + j) := fun j => ii_a i j
  have wB := w.2.2.2.1
  have r1 := op_catCount (g := g) (d := d + 14) hL q
  have md := mid_0 hh_M_rf (by omega) (by omega) ci mi
  obtain ⟨h2, m2, r2⟩ := mo_catCount (g := g) (d := d + 14) hL (MI_n md.2.2.2 w.1.1)
  have e2 := end_q s1 s2 md r2.2 (mU_T m2) w
  obtain ⟨r, hQ, kr⟩ := kk h2 e2
  refine ⟨r, hQ, fun w6 w7 w8 => ?_⟩
  exact sg_law_444 hL (d := d + 14) r1 r2 (fun _ => sg_law_2961 r2.2 (kr _ _ _)) (fun q => absurd rfl q)
theorem lc_method (hg : ev_cat1 g.2 = true) (s : lwS a b k h) (hk : k < 900) (hi : i + 4 < g.1.length) (hz : g.1.length < 2147483648) (kk : ∀ h', lwS a b (k + 1) h' → ∃ r, Q r ∧ ∀ w6 w7 w8, tr_L g (d + 15) m_law 28 [some (.ref 0), some (.ref 1000), some (.ref 1099), some (.ref 1109), some (.ref 1110), some (.int (Int32.ofNat i + 5)), w6, w7, w8] [] h' r) : ∃ r, Q r ∧ ∀ w6 w7 w8, tr_L g (d + 15) m_law 1992 [some (.ref 0), some (.ref 1000), some (.ref 1099), some (.ref 1109), some (.ref 1110), some (.int (Int32.ofNat i)), w6, w7, w8] [] h r := by
  obtain ⟨hL, s1, s2, c, P, S, y, l, t, B, ci, mi, w⟩ := s
  have q : cQ h c (cn c) := ⟨ci.1, w.1.1⟩
  have i1 : ∀ j, Int32.ofNat i + Int32.ofNat j = Int32.ofNat (i + j) := fun j => ii_a i j
  have wB := w.2.2.2.1
  have r1 := op_method (g := g) (d := d + 14) hL q
  have md := mid_0 hh_M_rf (by omega) (by omega) ci mi
  obtain ⟨h2, m2, r2⟩ := mo_method (g := g) (d := d + 14) hL (MI_n md.2.2.2 w.1.1)
  have e2 := end_q s1 s2 md r2.2 (mU_T m2) w
  obtain ⟨r, hQ, kr⟩ := kk h2 e2
  refine ⟨r, hQ, fun w6 w7 w8 => ?_⟩
  exact sg_law_1992 hL (d := d + 14) r1 r2 (fun _ => sg_law_2961 r2.2 (kr _ _ _)) (fun q => absurd rfl q)
theorem lc_hasCause (hg : ev_cat1 g.2 = true) (s : lwS a b k h) (hk : k < 900) (hi : i + 4 < g.1.length) (hz : g.1.length < 2147483648) (kk : ∀ h', lwS a b (k + 1) h' → ∃ r, Q r ∧ ∀ w6 w7 w8, tr_L g (d + 15) m_law 28 [some (.ref 0), some (.ref 1000), some (.ref 1099), some (.ref 1109), some (.ref 1110), some (.int (Int32.ofNat i + 5)), w6, w7, w8] [] h' r) : ∃ r, Q r ∧ ∀ w6 w7 w8, tr_L g (d + 15) m_law 2093 [some (.ref 0), some (.ref 1000), some (.ref 1099), some (.ref 1109), some (.ref 1110), some (.int (Int32.ofNat i)), w6, w7, w8] [] h r := by
  obtain ⟨hL, s1, s2, c, P, S, y, l, t, B, ci, mi, w⟩ := s
  have q : cQ h c (cn c) := ⟨ci.1, w.1.1⟩
  have i1 : ∀ j, Int32.ofNat i + Int32.ofNat j = Int32.ofNat (i + j) := fun j => ii_a i j
  have wB := w.2.2.2.1
  have r1 := op_hasCause (g := g) (d := d + 2) hL q
  have md := mid_0 hh_M_rf (by omega) (by omega) ci mi
  obtain ⟨h2, m2, r2⟩ := mo_hasCause (g := g) (d := d + 2) hL (MI_n md.2.2.2 w.1.1)
  have e2 := end_q s1 s2 md r2.2 (mU_T m2) w
  obtain ⟨r, hQ, kr⟩ := kk h2 e2
  refine ⟨r, hQ, fun w6 w7 w8 => ?_⟩
  exact sg_law_2093 hL (d := d + 14) r1 r2 (fun _ => sg_law_2961 r2.2 (kr _ _ _)) (fun q => absurd rfl q)
theorem lc_deliberations (hg : ev_cat1 g.2 = true) (s : lwS a b k h) (hk : k < 900) (hi : i + 4 < g.1.length) (hz : g.1.length < 2147483648) (kk : ∀ h', lwS a b (k + 1) h' → ∃ r, Q r ∧ ∀ w6 w7 w8, tr_L g (d + 15) m_law 28 [some (.ref 0), some (.ref 1000), some (.ref 1099), some (.ref 1109), some (.ref 1110), some (.int (Int32.ofNat i + 5)), w6, w7, w8] [] h' r) : ∃ r, Q r ∧ ∀ w6 w7 w8, tr_L g (d + 15) m_law 2106 [some (.ref 0), some (.ref 1000), some (.ref 1099), some (.ref 1109), some (.ref 1110), some (.int (Int32.ofNat i)), w6, w7, w8] [] h r := by
  obtain ⟨hL, s1, s2, c, P, S, y, l, t, B, ci, mi, w⟩ := s
  have q : cQ h c (cn c) := ⟨ci.1, w.1.1⟩
  have i1 : ∀ j, Int32.ofNat i + Int32.ofNat j = Int32.ofNat (i + j) := fun j => ii_a i j
  have wB := w.2.2.2.1
  have r1 := op_deliberations (g := g) (d := d + 14) hL q
  have md := mid_0 hh_M_rf (by omega) (by omega) ci mi
  obtain ⟨h2, m2, r2⟩ := mo_deliberations (g := g) (d := d + 14) hL (MI_n md.2.2.2 w.1.1)
  have e2 := end_q s1 s2 md r2.2 (mU_T m2) w
  obtain ⟨r, hQ, kr⟩ := kk h2 e2
  refine ⟨r, hQ, fun w6 w7 w8 => ?_⟩
  exact sg_law_2106 hL (d := d + 14) r1 r2 (fun _ => sg_law_2961 r2.2 (kr _ _ _)) (fun q => absurd rfl q)
theorem lc_hungCount (hg : ev_cat1 g.2 = true) (s : lwS a b k h) (hk : k < 900) (hi : i + 4 < g.1.length) (hz : g.1.length < 2147483648) (kk : ∀ h', lwS a b (k + 1) h' → ∃ r, Q r ∧ ∀ w6 w7 w8, tr_L g (d + 15) m_law 28 [some (.ref 0), some (.ref 1000), some (.ref 1099), some (.ref 1109), some (.ref 1110), some (.int (Int32.ofNat i + 5)), w6, w7, w8] [] h' r) : ∃ r, Q r ∧ ∀ w6 w7 w8, tr_L g (d + 15) m_law 2175 [some (.ref 0), some (.ref 1000), some (.ref 1099), some (.ref 1109), some (.ref 1110), some (.int (Int32.ofNat i)), w6, w7, w8] [] h r := by
  obtain ⟨hL, s1, s2, c, P, S, y, l, t, B, ci, mi, w⟩ := s
  have q : cQ h c (cn c) := ⟨ci.1, w.1.1⟩
  have i1 : ∀ j, Int32.ofNat i + Int32.ofNat j = Int32.ofNat (i + j) := fun j => ii_a i j
  have wB := w.2.2.2.1
  have r1 := op_hungCount (g := g) (d := d + 14) hL q
  have md := mid_0 hh_M_rf (by omega) (by omega) ci mi
  obtain ⟨h2, m2, r2⟩ := mo_hungCount (g := g) (d := d + 14) hL (MI_n md.2.2.2 w.1.1)
  have e2 := end_q s1 s2 md r2.2 (mU_T m2) w
  obtain ⟨r, hQ, kr⟩ := kk h2 e2
  refine ⟨r, hQ, fun w6 w7 w8 => ?_⟩
  exact sg_law_2175 hL (d := d + 14) r1 r2 (fun _ => sg_law_2961 r2.2 (kr _ _ _)) (fun q => absurd rfl q)
theorem lc_retrials (hg : ev_cat1 g.2 = true) (s : lwS a b k h) (hk : k < 900) (hi : i + 4 < g.1.length) (hz : g.1.length < 2147483648) (kk : ∀ h', lwS a b (k + 1) h' → ∃ r, Q r ∧ ∀ w6 w7 w8, tr_L g (d + 15) m_law 28 [some (.ref 0), some (.ref 1000), some (.ref 1099), some (.ref 1109), some (.ref 1110), some (.int (Int32.ofNat i + 5)), w6, w7, w8] [] h' r) : ∃ r, Q r ∧ ∀ w6 w7 w8, tr_L g (d + 15) m_law 2188 [some (.ref 0), some (.ref 1000), some (.ref 1099), some (.ref 1109), some (.ref 1110), some (.int (Int32.ofNat i)), w6, w7, w8] [] h r := by
  obtain ⟨hL, s1, s2, c, P, S, y, l, t, B, ci, mi, w⟩ := s
  have q : cQ h c (cn c) := ⟨ci.1, w.1.1⟩
  have i1 : ∀ j, Int32.ofNat i + Int32.ofNat j = Int32.ofNat (i + j) := fun j => ii_a i j
  have wB := w.2.2.2.1
  have r1 := op_retrials (g := g) (d := d + 14) hL q
  have md := mid_0 hh_M_rf (by omega) (by omega) ci mi
  obtain ⟨h2, m2, r2⟩ := mo_retrials (g := g) (d := d + 14) hL (MI_n md.2.2.2 w.1.1)
  have e2 := end_q s1 s2 md r2.2 (mU_T m2) w
  obtain ⟨r, hQ, kr⟩ := kk h2 e2
  refine ⟨r, hQ, fun w6 w7 w8 => ?_⟩
  exact sg_law_2188 hL (d := d + 14) r1 r2 (fun _ => sg_law_2961 r2.2 (kr _ _ _)) (fun q => absurd rfl q)
theorem lc_testimonies (hg : ev_cat1 g.2 = true) (s : lwS a b k h) (hk : k < 900) (hi : i + 4 < g.1.length) (hz : g.1.length < 2147483648) (kk : ∀ h', lwS a b (k + 1) h' → ∃ r, Q r ∧ ∀ w6 w7 w8, tr_L g (d + 15) m_law 28 [some (.ref 0), some (.ref 1000), some (.ref 1099), some (.ref 1109), some (.ref 1110), some (.int (Int32.ofNat i + 5)), w6, w7, w8] [] h' r) : ∃ r, Q r ∧ ∀ w6 w7 w8, tr_L g (d + 15) m_law 2201 [some (.ref 0), some (.ref 1000), some (.ref 1099), some (.ref 1109), some (.ref 1110), some (.int (Int32.ofNat i)), w6, w7, w8] [] h r := by
  obtain ⟨hL, s1, s2, c, P, S, y, l, t, B, ci, mi, w⟩ := s
  have q : cQ h c (cn c) := ⟨ci.1, w.1.1⟩
  have i1 : ∀ j, Int32.ofNat i + Int32.ofNat j = Int32.ofNat (i + j) := fun j => ii_a i j
  have wB := w.2.2.2.1
  have r1 := op_testimonies (g := g) (d := d + 14) hL q
  have md := mid_0 hh_M_rf (by omega) (by omega) ci mi
  obtain ⟨h2, m2, r2⟩ := mo_testimonies (g := g) (d := d + 14) hL (MI_n md.2.2.2 w.1.1)
  have e2 := end_q s1 s2 md r2.2 (mU_T m2) w
  obtain ⟨r, hQ, kr⟩ := kk h2 e2
  refine ⟨r, hQ, fun w6 w7 w8 => ?_⟩
  exact sg_law_2201 hL (d := d + 14) r1 r2 (fun _ => sg_law_2961 r2.2 (kr _ _ _)) (fun q => absurd rfl q)
theorem lc_consistent (hg : ev_cat1 g.2 = true) (s : lwS a b k h) (hk : k < 900) (hi : i + 4 < g.1.length) (hz : g.1.length < 2147483648) (kk : ∀ h', lwS a b (k + 1) h' → ∃ r, Q r ∧ ∀ w6 w7 w8, tr_L g (d + 15) m_law 28 [some (.ref 0), some (.ref 1000), some (.ref 1099), some (.ref 1109), some (.ref 1110), some (.int (Int32.ofNat i + 5)), w6, w7, w8] [] h' r) : ∃ r, Q r ∧ ∀ w6 w7 w8, tr_L g (d + 15) m_law 2401 [some (.ref 0), some (.ref 1000), some (.ref 1099), some (.ref 1109), some (.ref 1110), some (.int (Int32.ofNat i)), w6, w7, w8] [] h r := by
  obtain ⟨hL, s1, s2, c, P, S, y, l, t, B, ci, mi, w⟩ := s
  have q : cQ h c (cn c) := ⟨ci.1, w.1.1⟩
  have i1 : ∀ j, Int32.ofNat i + Int32.ofNat j = Int32.ofNat (i + j) := fun j => ii_a i j
  have wB := w.2.2.2.1
  obtain ⟨h1, F1, r1⟩ := op_consistent (g := g) (d := d + 1) hL q (agR_of w.1.2.2.1 w.1.1.2.1) (agE_of w.1.1) (agS_of w.1.1.2.1)
  have md := mid_0 (hh_M_F F1 kW99) (by omega) (by omega) (CI_W F1 ci) mi
  obtain ⟨h2, m2, r2⟩ := mo_consistent (g := g) (d := d + 2) r1.2 (MI_n md.2.2.2 w.1.1)
  have e2 := end_q s1 s2 md r2.2 (mU_T m2) w
  obtain ⟨r, hQ, kr⟩ := kk h2 e2
  refine ⟨r, hQ, fun w6 w7 w8 => ?_⟩
  exact sg_law_2401 hL (d := d + 14) r1 r2 (fun _ => sg_law_2961 r2.2 (kr _ _ _)) (fun q => absurd rfl q)
theorem lc_save (hg : ev_cat1 g.2 = true) (s : lwS a b k h) (hk : k < 900) (hi : i + 4 < g.1.length) (hz : g.1.length < 2147483648) (kk : ∀ h', lwS a b (k + 1) h' → ∃ r, Q r ∧ ∀ w6 w7 w8, tr_L g (d + 15) m_law 28 [some (.ref 0), some (.ref 1000), some (.ref 1099), some (.ref 1109), some (.ref 1110), some (.int (Int32.ofNat i + 5)), w6, w7, w8] [] h' r) : ∃ r, Q r ∧ ∀ w6 w7 w8, tr_L g (d + 15) m_law 2904 [some (.ref 0), some (.ref 1000), some (.ref 1099), some (.ref 1109), some (.ref 1110), some (.int (Int32.ofNat i)), w6, w7, w8] [] h r := by
  obtain ⟨hL, s1, s2, c, P, S, y, l, t, B, ci, mi, w⟩ := s
  have q : cQ h c (cn c) := ⟨ci.1, w.1.1⟩
  have i1 : ∀ j, Int32.ofNat i + Int32.ofNat j = Int32.ofNat (i + j) := fun j => ii_a i j
  have wB := w.2.2.2.1
  obtain ⟨h1, M1, r1, c1⟩ := op_save (g := g) (d := d + 2) hL ci w.1.1.2.2.1
  have md := mid_0 M1 (by omega) (by omega) c1 mi
  obtain ⟨h2, m2, r2⟩ := mo_save (g := g) (d := d + 2) r1.2 md.2.2.2
  have w2 : lw c P (some c) y t B (k + 1) := ⟨w.1, w.2.1, fun e he => by rw [← Option.some.inj he]; exact w.1, by omega, w.2.2.2.2⟩
  have e2 := end_w s1 s2 md r2.2 m2.1 m2.2.2 w2
  obtain ⟨r, hQ, kr⟩ := kk h2 e2
  refine ⟨r, hQ, fun w6 w7 w8 => ?_⟩
  exact sg_law_2904 hL (d := d + 14) r1 r2 (fun _ => sg_law_2961 r2.2 (kr _ _ _)) (fun q => absurd rfl q)
theorem lc_writeRow (hg : ev_cat1 g.2 = true) (s : lwS a b k h) (hk : k < 900) (hi : i + 4 < g.1.length) (hz : g.1.length < 2147483648) (kk : ∀ h', lwS a b (k + 1) h' → ∃ r, Q r ∧ ∀ w6 w7 w8, tr_L g (d + 15) m_law 28 [some (.ref 0), some (.ref 1000), some (.ref 1099), some (.ref 1109), some (.ref 1110), some (.int (Int32.ofNat i + 5)), w6, w7, w8] [] h' r) : ∃ r, Q r ∧ ∀ w6 w7 w8, tr_L g (d + 15) m_law 2414 [some (.ref 0), some (.ref 1000), some (.ref 1099), some (.ref 1109), some (.ref 1110), some (.int (Int32.ofNat i)), w6, w7, w8] [] h r := by
  obtain ⟨hL, s1, s2, c, P, S, y, l, t, B, ci, mi, w⟩ := s
  have q : cQ h c (cn c) := ⟨ci.1, w.1.1⟩
  have i1 : ∀ j, Int32.ofNat i + Int32.ofNat j = Int32.ofNat (i + j) := fun j => ii_a i j
  have wB := w.2.2.2.1
  obtain ⟨h1, F1, r1, b1⟩ := op_row (g := g) (d := d + 1) (x := (g.1.getD (i + 1) 0)) hL q (co_okB w.1) ci.2.2.2.2.1
  have L1 := ro_L r1.2
  obtain ⟨md, p⟩ := mid_w (A := (an_row c (cn c) (g.1.getD (i + 1) 0)).1) L1 (hh_M_F F1 (by decide)) (by omega) (by omega) (CI_o F1 b1 ci) mi
  have x1 := wr_writeRow (d := d + 13) hL r1 (fun E hE => ax_row hE)
  obtain ⟨h2, m2, r2⟩ := mo_writeRow (g := g) (d := d + 2) (x := (g.1.getD (i + 1) 0)) x1.2 md.2.2.2 w.1
  have e2 := end_w s1 s2 md r2.2 m2.1 m2.2.2 (lw_k w)
  have i7 := m2.2.1
  have r3 := sg_X9_thrown_0 (g := g) (d := d + 14) r2.2 rfl
  obtain ⟨r, hQ, kr⟩ := kk h2 e2
  refine ⟨r, hQ, fun w6 w7 w8 => ?_⟩
  rcases cmp_w (f := (fun _ => 1)) (fun E hE => by rcases ax_row hE with rfl <;> decide) p m2.1 (by decide) with e | ⟨e, p2⟩
  · exact sg_law_2414 hL (d := d + 14) (j0 := i + 1) (j1 := i + 1) (i1 1) (by omega) hz x1 (i1 1) (by omega) hz r2 r3 (fun _ => sg_law_2450 r2.2 (fun _ => sg_law_2467 r2.2 (kr _ _ _)) (fun q => absurd q e)) (fun q => absurd i7 q)
  · exact sg_law_2414 hL (d := d + 14) (j0 := i + 1) (j1 := i + 1) (i1 1) (by omega) hz x1 (i1 1) (by omega) hz r2 r3 (fun _ => sg_law_2450 r2.2 (fun q => absurd e q) (fun _ => sg_law_2455 r2.2 p2 (fun _ => sg_law_2467 r2.2 (kr _ _ _)) (fun q => absurd lg_self q))) (fun q => absurd i7 q)
theorem lc_writeCat (hg : ev_cat1 g.2 = true) (s : lwS a b k h) (hk : k < 900) (hi : i + 4 < g.1.length) (hz : g.1.length < 2147483648) (kk : ∀ h', lwS a b (k + 1) h' → ∃ r, Q r ∧ ∀ w6 w7 w8, tr_L g (d + 15) m_law 28 [some (.ref 0), some (.ref 1000), some (.ref 1099), some (.ref 1109), some (.ref 1110), some (.int (Int32.ofNat i + 5)), w6, w7, w8] [] h' r) : ∃ r, Q r ∧ ∀ w6 w7 w8, tr_L g (d + 15) m_law 2470 [some (.ref 0), some (.ref 1000), some (.ref 1099), some (.ref 1109), some (.ref 1110), some (.int (Int32.ofNat i)), w6, w7, w8] [] h r := by
  obtain ⟨hL, s1, s2, c, P, S, y, l, t, B, ci, mi, w⟩ := s
  have q : cQ h c (cn c) := ⟨ci.1, w.1.1⟩
  have i1 : ∀ j, Int32.ofNat i + Int32.ofNat j = Int32.ofNat (i + j) := fun j => ii_a i j
  have wB := w.2.2.2.1
  obtain ⟨h1, F1, r1, b1⟩ := op_cat (g := g) (d := d + 1) (x := (g.1.getD (i + 1) 0)) hL q (he_okB w.1 (by omega)) ci.2.2.2.2.1
  have L1 := ro_L r1.2
  obtain ⟨md, p⟩ := mid_w (A := (an_cat c (cn c) (g.1.getD (i + 1) 0)).1) L1 (hh_M_F F1 (by decide)) (by omega) (by omega) (CI_o F1 b1 ci) mi
  have x1 := wr_writeCat (d := d + 13) hL r1 (fun E hE => ax_cat hE)
  obtain ⟨h2, m2, r2⟩ := mo_writeCat (g := g) (d := d + 2) (x := (g.1.getD (i + 1) 0)) x1.2 md.2.2.2 w.1 (by omega)
  have e2 := end_w s1 s2 md r2.2 m2.1 m2.2.2 (lw_k w)
  have i7 := m2.2.1
  have r3 := sg_X9_thrown_0 (g := g) (d := d + 14) r2.2 rfl
  obtain ⟨r, hQ, kr⟩ := kk h2 e2
  refine ⟨r, hQ, fun w6 w7 w8 => ?_⟩
  rcases cmp_w (f := (fun _ => 1)) (fun E hE => by rcases ax_cat hE with rfl <;> decide) p m2.1 (by decide) with e | ⟨e, p2⟩
  · exact sg_law_2470 hL (d := d + 14) (j0 := i + 1) (j1 := i + 1) (i1 1) (by omega) hz x1 (i1 1) (by omega) hz r2 r3 (fun _ => sg_law_2506 r2.2 (fun _ => sg_law_2523 r2.2 (kr _ _ _)) (fun q => absurd q e)) (fun q => absurd i7 q)
  · exact sg_law_2470 hL (d := d + 14) (j0 := i + 1) (j1 := i + 1) (i1 1) (by omega) hz x1 (i1 1) (by omega) hz r2 r3 (fun _ => sg_law_2506 r2.2 (fun q => absurd e q) (fun _ => sg_law_2511 r2.2 p2 (fun _ => sg_law_2523 r2.2 (kr _ _ _)) (fun q => absurd lg_self q))) (fun q => absurd i7 q)
theorem lc_outputAt (hg : ev_cat1 g.2 = true) (s : lwS a b k h) (hk : k < 900) (hi : i + 4 < g.1.length) (hz : g.1.length < 2147483648) (kk : ∀ h', lwS a b (k + 1) h' → ∃ r, Q r ∧ ∀ w6 w7 w8, tr_L g (d + 15) m_law 28 [some (.ref 0), some (.ref 1000), some (.ref 1099), some (.ref 1109), some (.ref 1110), some (.int (Int32.ofNat i + 5)), w6, w7, w8] [] h' r) : ∃ r, Q r ∧ ∀ w6 w7 w8, tr_L g (d + 15) m_law 2526 [some (.ref 0), some (.ref 1000), some (.ref 1099), some (.ref 1109), some (.ref 1110), some (.int (Int32.ofNat i)), w6, w7, w8] [] h r := by
  obtain ⟨hL, s1, s2, c, P, S, y, l, t, B, ci, mi, w⟩ := s
  have q : cQ h c (cn c) := ⟨ci.1, w.1.1⟩
  have i1 : ∀ j, Int32.ofNat i + Int32.ofNat j = Int32.ofNat (i + j) := fun j => ii_a i j
  have wB := w.2.2.2.1
  have r1 := op_outAt (g := g) (d := d + 1) (x := (g.1.getD (i + 1) 0)) hL hg ci.2.2.2.2.1
  obtain ⟨md, p⟩ := mid_w (A := (an_outAt l (g.1.getD (i + 1) 0))) hL hh_M_rf (by omega) (by omega) ci mi
  have x1 := wr_outputAt (d := d + 13) hL r1 (fun E hE => ax_outAt hE)
  obtain ⟨h2, m2, r2⟩ := mo_outAt (g := g) (d := d + 2) (x := (g.1.getD (i + 1) 0)) x1.2 md.2.2.2 (sbo_ch ci.2.2.2.2.1)
  have e2 := end_q s1 s2 md r2.2 (mU_T m2) w
  have i7 := m2.2.1
  have r3 := sg_X9_thrown_0 (g := g) (d := d + 14) r2.2 rfl
  obtain ⟨r, hQ, kr⟩ := kk h2 e2
  refine ⟨r, hQ, fun w6 w7 w8 => ?_⟩
  rcases cmp_w (f := (fun _ => 1)) (fun E hE => by rcases ax_outAt hE with rfl <;> decide) p m2.1 (by decide) with e | ⟨e, p2⟩
  · exact sg_law_2526 hL (d := d + 14) (j0 := i + 1) (j1 := i + 1) (i1 1) (by omega) hz x1 (i1 1) (by omega) hz r2 r3 (fun _ => sg_law_2562 r2.2 (fun _ => sg_law_2579 r2.2 (kr _ _ _)) (fun q => absurd q e)) (fun q => absurd i7 q)
  · exact sg_law_2526 hL (d := d + 14) (j0 := i + 1) (j1 := i + 1) (i1 1) (by omega) hz x1 (i1 1) (by omega) hz r2 r3 (fun _ => sg_law_2562 r2.2 (fun q => absurd e q) (fun _ => sg_law_2567 r2.2 p2 (fun _ => sg_law_2579 r2.2 (kr _ _ _)) (fun q => absurd lg_self q))) (fun q => absurd i7 q)
theorem lc_syntaxErrorOffset (hg : ev_cat1 g.2 = true) (s : lwS a b k h) (hk : k < 900) (hi : i + 4 < g.1.length) (hz : g.1.length < 2147483648) (kk : ∀ h', lwS a b (k + 1) h' → ∃ r, Q r ∧ ∀ w6 w7 w8, tr_L g (d + 15) m_law 28 [some (.ref 0), some (.ref 1000), some (.ref 1099), some (.ref 1109), some (.ref 1110), some (.int (Int32.ofNat i + 5)), w6, w7, w8] [] h' r) : ∃ r, Q r ∧ ∀ w6 w7 w8, tr_L g (d + 15) m_law 2684 [some (.ref 0), some (.ref 1000), some (.ref 1099), some (.ref 1109), some (.ref 1110), some (.int (Int32.ofNat i)), w6, w7, w8] [] h r := by
  obtain ⟨hL, s1, s2, c, P, S, y, l, t, B, ci, mi, w⟩ := s
  have q : cQ h c (cn c) := ⟨ci.1, w.1.1⟩
  have i1 : ∀ j, Int32.ofNat i + Int32.ofNat j = Int32.ofNat (i + j) := fun j => ii_a i j
  have wB := w.2.2.2.1
  obtain ⟨y1, y2, y3, y4⟩ := ci.2.2.2.1
  have r1 := op_synOff (g := g) (d := d + 13) hL
  rw [y4] at r1
  obtain ⟨md, p⟩ := mid_w (A := (an_fld y.2.2.2 (-1) y.2.2.2)) hL hh_M_rf (by omega) (by omega) ci mi
  have x1 := wr_syntaxErrorOffset (d := d + 13) hL r1 (fun E hE => ax_fld hE)
  obtain ⟨h2, m2, r2⟩ := mo_synOff (g := g) (d := d + 2) x1.2 md.2.2.2 w.2.2.2.2.2.2
  have e2 := end_q s1 s2 md r2.2 (mU_T m2) w
  have i7 := m2.2.1
  have r3 := sg_X9_thrown_0 (g := g) (d := d + 14) r2.2 rfl
  obtain ⟨r, hQ, kr⟩ := kk h2 e2
  refine ⟨r, hQ, fun w6 w7 w8 => ?_⟩
  rcases cmp_w (f := (fun _ => 1)) (fun E hE => by rcases ax_fld hE with rfl <;> decide) p m2.1 (by decide) with e | ⟨e, p2⟩
  · exact sg_law_2684 hL (d := d + 14)   x1  r2 r3 (fun _ => sg_law_2708 r2.2 (fun _ => sg_law_2725 r2.2 (kr _ _ _)) (fun q => absurd q e)) (fun q => absurd i7 q)
  · exact sg_law_2684 hL (d := d + 14)   x1  r2 r3 (fun _ => sg_law_2708 r2.2 (fun q => absurd e q) (fun _ => sg_law_2713 r2.2 p2 (fun _ => sg_law_2725 r2.2 (kr _ _ _)) (fun q => absurd lg_self q))) (fun q => absurd i7 q)
theorem lc_rejectionReason (hg : ev_cat1 g.2 = true) (s : lwS a b k h) (hk : k < 900) (hi : i + 4 < g.1.length) (hz : g.1.length < 2147483648) (kk : ∀ h', lwS a b (k + 1) h' → ∃ r, Q r ∧ ∀ w6 w7 w8, tr_L g (d + 15) m_law 28 [some (.ref 0), some (.ref 1000), some (.ref 1099), some (.ref 1109), some (.ref 1110), some (.int (Int32.ofNat i + 5)), w6, w7, w8] [] h' r) : ∃ r, Q r ∧ ∀ w6 w7 w8, tr_L g (d + 15) m_law 2728 [some (.ref 0), some (.ref 1000), some (.ref 1099), some (.ref 1109), some (.ref 1110), some (.int (Int32.ofNat i)), w6, w7, w8] [] h r := by
  obtain ⟨hL, s1, s2, c, P, S, y, l, t, B, ci, mi, w⟩ := s
  have q : cQ h c (cn c) := ⟨ci.1, w.1.1⟩
  have i1 : ∀ j, Int32.ofNat i + Int32.ofNat j = Int32.ofNat (i + j) := fun j => ii_a i j
  have wB := w.2.2.2.1
  obtain ⟨y1, y2, y3, y4⟩ := ci.2.2.2.1
  have r1 := op_rejWhy (g := g) (d := d + 12) hL
  rw [y1] at r1
  obtain ⟨md, p⟩ := mid_w (A := (an_fld y.1 0 y.1)) hL hh_M_rf (by omega) (by omega) ci mi
  have x1 := wr_rejectionReason (d := d + 13) hL r1 (fun E hE => ax_fld hE)
  obtain ⟨h2, m2, r2⟩ := mo_rejWhy (g := g) (d := d + 2) x1.2 md.2.2.2 
  have e2 := end_q s1 s2 md r2.2 (mU_T m2) w
  have i7 := m2.2.1
  have r3 := sg_X9_thrown_0 (g := g) (d := d + 14) r2.2 rfl
  obtain ⟨r, hQ, kr⟩ := kk h2 e2
  refine ⟨r, hQ, fun w6 w7 w8 => ?_⟩
  rcases cmp_w (f := (fun _ => 1)) (fun E hE => by rcases ax_fld hE with rfl <;> decide) p m2.1 (by decide) with e | ⟨e, p2⟩
  · exact sg_law_2728 hL (d := d + 14)   x1  r2 r3 (fun _ => sg_law_2752 r2.2 (fun _ => sg_law_2769 r2.2 (kr _ _ _)) (fun q => absurd q e)) (fun q => absurd i7 q)
  · exact sg_law_2728 hL (d := d + 14)   x1  r2 r3 (fun _ => sg_law_2752 r2.2 (fun q => absurd e q) (fun _ => sg_law_2757 r2.2 p2 (fun _ => sg_law_2769 r2.2 (kr _ _ _)) (fun q => absurd lg_self q))) (fun q => absurd i7 q)
theorem lc_rejectionDetail (hg : ev_cat1 g.2 = true) (s : lwS a b k h) (hk : k < 900) (hi : i + 4 < g.1.length) (hz : g.1.length < 2147483648) (kk : ∀ h', lwS a b (k + 1) h' → ∃ r, Q r ∧ ∀ w6 w7 w8, tr_L g (d + 15) m_law 28 [some (.ref 0), some (.ref 1000), some (.ref 1099), some (.ref 1109), some (.ref 1110), some (.int (Int32.ofNat i + 5)), w6, w7, w8] [] h' r) : ∃ r, Q r ∧ ∀ w6 w7 w8, tr_L g (d + 15) m_law 2772 [some (.ref 0), some (.ref 1000), some (.ref 1099), some (.ref 1109), some (.ref 1110), some (.int (Int32.ofNat i)), w6, w7, w8] [] h r := by
  obtain ⟨hL, s1, s2, c, P, S, y, l, t, B, ci, mi, w⟩ := s
  have q : cQ h c (cn c) := ⟨ci.1, w.1.1⟩
  have i1 : ∀ j, Int32.ofNat i + Int32.ofNat j = Int32.ofNat (i + j) := fun j => ii_a i j
  have wB := w.2.2.2.1
  obtain ⟨y1, y2, y3, y4⟩ := ci.2.2.2.1
  have r1 := op_rejDet (g := g) (d := d + 12) hL
  rw [y1, y2] at r1
  obtain ⟨md, p⟩ := mid_w (A := (an_fld y.1 0 y.2.1)) hL hh_M_rf (by omega) (by omega) ci mi
  have x1 := wr_rejectionDetail (d := d + 13) hL r1 (fun E hE => ax_fld hE)
  obtain ⟨h2, m2, r2⟩ := mo_rejDet (g := g) (d := d + 2) x1.2 md.2.2.2 
  have e2 := end_q s1 s2 md r2.2 (mU_T m2) w
  have i7 := m2.2.1
  have r3 := sg_X9_thrown_0 (g := g) (d := d + 14) r2.2 rfl
  obtain ⟨r, hQ, kr⟩ := kk h2 e2
  refine ⟨r, hQ, fun w6 w7 w8 => ?_⟩
  rcases cmp_w (f := (fun _ => 1)) (fun E hE => by rcases ax_fld hE with rfl <;> decide) p m2.1 (by decide) with e | ⟨e, p2⟩
  · exact sg_law_2772 hL (d := d + 14)   x1  r2 r3 (fun _ => sg_law_2796 r2.2 (fun _ => sg_law_2813 r2.2 (kr _ _ _)) (fun q => absurd q e)) (fun q => absurd i7 q)
  · exact sg_law_2772 hL (d := d + 14)   x1  r2 r3 (fun _ => sg_law_2796 r2.2 (fun q => absurd e q) (fun _ => sg_law_2801 r2.2 p2 (fun _ => sg_law_2813 r2.2 (kr _ _ _)) (fun q => absurd lg_self q))) (fun q => absurd i7 q)
theorem lc_causeReason (hg : ev_cat1 g.2 = true) (s : lwS a b k h) (hk : k < 900) (hi : i + 4 < g.1.length) (hz : g.1.length < 2147483648) (kk : ∀ h', lwS a b (k + 1) h' → ∃ r, Q r ∧ ∀ w6 w7 w8, tr_L g (d + 15) m_law 28 [some (.ref 0), some (.ref 1000), some (.ref 1099), some (.ref 1109), some (.ref 1110), some (.int (Int32.ofNat i + 5)), w6, w7, w8] [] h' r) : ∃ r, Q r ∧ ∀ w6 w7 w8, tr_L g (d + 15) m_law 2816 [some (.ref 0), some (.ref 1000), some (.ref 1099), some (.ref 1109), some (.ref 1110), some (.int (Int32.ofNat i)), w6, w7, w8] [] h r := by
  obtain ⟨hL, s1, s2, c, P, S, y, l, t, B, ci, mi, w⟩ := s
  have q : cQ h c (cn c) := ⟨ci.1, w.1.1⟩
  have i1 : ∀ j, Int32.ofNat i + Int32.ofNat j = Int32.ofNat (i + j) := fun j => ii_a i j
  have wB := w.2.2.2.1
  obtain ⟨y1, y2, y3, y4⟩ := ci.2.2.2.1
  have r1 := op_cause (g := g) (d := d + 13) hL
  rw [y1, y3] at r1
  obtain ⟨md, p⟩ := mid_w (A := (if y.1 = 6 then (.inl y.2.2.1 : Int32 ⊕ Nat) else .inr 3)) hL hh_M_rf (by omega) (by omega) ci mi
  have x1 := wr_causeReason (d := d + 13) hL r1 (fun E hE => ax_cause hE)
  obtain ⟨h2, m2, r2⟩ := mo_cause (g := g) (d := d + 2) x1.2 md.2.2.2 
  have e2 := end_q s1 s2 md r2.2 (mU_T m2) w
  have i7 := m2.2.1
  have r3 := sg_X9_thrown_0 (g := g) (d := d + 14) r2.2 rfl
  obtain ⟨r, hQ, kr⟩ := kk h2 e2
  refine ⟨r, hQ, fun w6 w7 w8 => ?_⟩
  rcases cmp_w (f := (fun _ => 1)) (fun E hE => by rcases ax_cause hE with rfl <;> decide) p m2.1 (by decide) with e | ⟨e, p2⟩
  · exact sg_law_2816 hL (d := d + 14)   x1  r2 r3 (fun _ => sg_law_2840 r2.2 (fun _ => sg_law_2857 r2.2 (kr _ _ _)) (fun q => absurd q e)) (fun q => absurd i7 q)
  · exact sg_law_2816 hL (d := d + 14)   x1  r2 r3 (fun _ => sg_law_2840 r2.2 (fun q => absurd e q) (fun _ => sg_law_2845 r2.2 p2 (fun _ => sg_law_2857 r2.2 (kr _ _ _)) (fun q => absurd lg_self q))) (fun q => absurd i7 q)
theorem lc_undo (hg : ev_cat1 g.2 = true) (s : lwS a b k h) (hk : k < 900) (hi : i + 4 < g.1.length) (hz : g.1.length < 2147483648) (kk : ∀ h', lwS a b (k + 1) h' → ∃ r, Q r ∧ ∀ w6 w7 w8, tr_L g (d + 15) m_law 28 [some (.ref 0), some (.ref 1000), some (.ref 1099), some (.ref 1109), some (.ref 1110), some (.int (Int32.ofNat i + 5)), w6, w7, w8] [] h' r) : ∃ r, Q r ∧ ∀ w6 w7 w8, tr_L g (d + 15) m_law 2860 [some (.ref 0), some (.ref 1000), some (.ref 1099), some (.ref 1109), some (.ref 1110), some (.int (Int32.ofNat i)), w6, w7, w8] [] h r := by
  obtain ⟨hL, s1, s2, c, P, S, y, l, t, B, ci, mi, w⟩ := s
  have q : cQ h c (cn c) := ⟨ci.1, w.1.1⟩
  have i1 : ∀ j, Int32.ofNat i + Int32.ofNat j = Int32.ofNat (i + j) := fun j => ii_a i j
  have wB := w.2.2.2.1
  have hP : P = [] ∨ ∃ P0 e0, P = P0 ++ [e0] := by
    rcases List.eq_nil_or_concat P with e | ⟨P0, e0, e⟩
    · exact Or.inl e
    · exact Or.inr ⟨P0, e0, by rw [e, List.concat_eq_append]⟩
  rcases hP with rfl | ⟨P0, e0, rfl⟩
  · have r1 := op_undo0 (g := g) (d := d + 1) hL ci
    obtain ⟨md, p⟩ := mid_w (A := .inr 5) hL hh_M_rf (by omega) (by omega) ci mi
    have x1 := wr_undo (d := d + 13) hL r1 (fun E hE => ax_5 hE)
    obtain ⟨h2, m2, r2⟩ := mo_undo0 (g := g) (d := d + 2) x1.2 md.2.2.2
    have e2 := end_w s1 s2 md r2.2 m2.1 m2.2.2 (lw_k w)
    have i7 := m2.2.1
    have r3 := sg_X9_thrown_0 (g := g) (d := d + 14) r2.2 rfl
    obtain ⟨r, hQ, kr⟩ := kk h2 e2
    refine ⟨r, hQ, fun w6 w7 w8 => ?_⟩
    rcases cmp_w (f := (fun _ => 1)) (fun E hE => by rcases ax_5 hE with rfl <;> decide) p m2.1 (by decide) with e | ⟨e, p2⟩
    · exact sg_law_2860 hL (d := d + 14)   x1  r2 r3 (fun _ => sg_law_2884 r2.2 (fun _ => sg_law_2901 r2.2 (kr _ _ _)) (fun q => absurd q e)) (fun q => absurd i7 q)
    · exact sg_law_2860 hL (d := d + 14)   x1  r2 r3 (fun _ => sg_law_2884 r2.2 (fun q => absurd e q) (fun _ => sg_law_2889 r2.2 p2 (fun _ => sg_law_2901 r2.2 (kr _ _ _)) (fun q => absurd lg_self q))) (fun q => absurd i7 q)
  · have w0 := w.2.1 e0 (List.mem_append.mpr (Or.inr (List.mem_singleton.mpr rfl)))
    obtain ⟨h1, M1, r1, c1⟩ := op_undo (g := g) (d := d + 1) hL ci w0.1.2.2.1
    have L1 := ro_L r1.2
    obtain ⟨md, p⟩ := mid_w (A := .inl (Int32.ofNat P0.length)) L1 M1 (by omega) (by omega) c1 mi
    have x1 := wr_undo (d := d + 13) hL r1 (fun E hE => ax_no hE)
    obtain ⟨h2, m2, r2⟩ := mo_undo (g := g) (d := d + 2) x1.2 md.2.2.2
    have w2 : lw e0 P0 S y t B (k + 1) := ⟨w0, fun e he => w.2.1 e (List.mem_append.mpr (Or.inl he)), w.2.2.1, by omega, w.2.2.2.2⟩
    have e2 := end_w s1 s2 md r2.2 m2.1 m2.2.2 w2
    have i7 := m2.2.1
    have r3 := sg_X9_thrown_0 (g := g) (d := d + 14) r2.2 rfl
    obtain ⟨r, hQ, kr⟩ := kk h2 e2
    refine ⟨r, hQ, fun w6 w7 w8 => ?_⟩
    rcases cmp_w (f := (fun _ => 1)) (fun E hE => by rcases ax_no hE with rfl <;> decide) p m2.1 (by decide) with e | ⟨e, p2⟩
    · exact sg_law_2860 hL (d := d + 14)   x1  r2 r3 (fun _ => sg_law_2884 r2.2 (fun _ => sg_law_2901 r2.2 (kr _ _ _)) (fun q => absurd q e)) (fun q => absurd i7 q)
    · exact sg_law_2860 hL (d := d + 14)   x1  r2 r3 (fun _ => sg_law_2884 r2.2 (fun q => absurd e q) (fun _ => sg_law_2889 r2.2 p2 (fun _ => sg_law_2901 r2.2 (kr _ _ _)) (fun q => absurd lg_self q))) (fun q => absurd i7 q)
theorem lc_restoreSnapshot (hg : ev_cat1 g.2 = true) (s : lwS a b k h) (hk : k < 900) (hi : i + 4 < g.1.length) (hz : g.1.length < 2147483648) (kk : ∀ h', lwS a b (k + 1) h' → ∃ r, Q r ∧ ∀ w6 w7 w8, tr_L g (d + 15) m_law 28 [some (.ref 0), some (.ref 1000), some (.ref 1099), some (.ref 1109), some (.ref 1110), some (.int (Int32.ofNat i + 5)), w6, w7, w8] [] h' r) : ∃ r, Q r ∧ ∀ w6 w7 w8, tr_L g (d + 15) m_law 2917 [some (.ref 0), some (.ref 1000), some (.ref 1099), some (.ref 1109), some (.ref 1110), some (.int (Int32.ofNat i)), w6, w7, w8] [] h r := by
  obtain ⟨hL, s1, s2, c, P, S, y, l, t, B, ci, mi, w⟩ := s
  have q : cQ h c (cn c) := ⟨ci.1, w.1.1⟩
  have i1 : ∀ j, Int32.ofNat i + Int32.ofNat j = Int32.ofNat (i + j) := fun j => ii_a i j
  have wB := w.2.2.2.1
  cases S with
  | none =>
    have r1 := op_rest0 (g := g) (d := d + 1) hL ci
    obtain ⟨md, p⟩ := mid_w (A := .inr 5) hL hh_M_rf (by omega) (by omega) ci mi
    have x1 := wr_restoreSnapshot (d := d + 13) hL r1 (fun E hE => ax_5 hE)
    obtain ⟨h2, m2, r2⟩ := mo_rest0 (g := g) (d := d + 2) x1.2 md.2.2.2
    have e2 := end_w s1 s2 md r2.2 m2.1 m2.2.2 (lw_k w)
    have i7 := m2.2.1
    have r3 := sg_X9_thrown_0 (g := g) (d := d + 14) r2.2 rfl
    obtain ⟨r, hQ, kr⟩ := kk h2 e2
    refine ⟨r, hQ, fun w6 w7 w8 => ?_⟩
    rcases cmp_w (f := (fun _ => 1)) (fun E hE => by rcases ax_5 hE with rfl <;> decide) p m2.1 (by decide) with e | ⟨e, p2⟩
    · exact sg_law_2917 hL (d := d + 14)   x1  r2 r3 (fun _ => sg_law_2941 r2.2 (fun _ => sg_law_2958 r2.2 (kr _ _ _)) (fun q => absurd q e)) (fun q => absurd i7 q)
    · exact sg_law_2917 hL (d := d + 14)   x1  r2 r3 (fun _ => sg_law_2941 r2.2 (fun q => absurd e q) (fun _ => sg_law_2946 r2.2 p2 (fun _ => sg_law_2958 r2.2 (kr _ _ _)) (fun q => absurd lg_self q))) (fun q => absurd i7 q)
  | some e0 =>
    have w0 := w.2.2.1 e0 rfl
    obtain ⟨h1, M1, r1, c1⟩ := op_rest (g := g) (d := d + 1) hL ci w0.1.2.2.1
    have L1 := ro_L r1.2
    obtain ⟨md, p⟩ := mid_w (A := .inl (ct_i e0 0)) L1 M1 (by omega) (by omega) c1 mi
    have x1 := wr_restoreSnapshot (d := d + 13) hL r1 (fun E hE => ax_no hE)
    obtain ⟨h2, m2, r2⟩ := mo_rest (g := g) (d := d + 2) x1.2 md.2.2.2
    have w2 : lw e0 [] (some e0) y t B (k + 1) := ⟨w0, fun e he => (by cases he), w.2.2.1, by omega, w.2.2.2.2⟩
    have e2 := end_w s1 s2 md r2.2 m2.1 m2.2.2 w2
    have i7 := m2.2.1
    have r3 := sg_X9_thrown_0 (g := g) (d := d + 14) r2.2 rfl
    obtain ⟨r, hQ, kr⟩ := kk h2 e2
    refine ⟨r, hQ, fun w6 w7 w8 => ?_⟩
    rcases cmp_w (f := (fun _ => 1)) (fun E hE => by rcases ax_no hE with rfl <;> decide) p m2.1 (by decide) with e | ⟨e, p2⟩
    · exact sg_law_2917 hL (d := d + 14)   x1  r2 r3 (fun _ => sg_law_2941 r2.2 (fun _ => sg_law_2958 r2.2 (kr _ _ _)) (fun q => absurd q e)) (fun q => absurd i7 q)
    · exact sg_law_2917 hL (d := d + 14)   x1  r2 r3 (fun _ => sg_law_2941 r2.2 (fun q => absurd e q) (fun _ => sg_law_2946 r2.2 p2 (fun _ => sg_law_2958 r2.2 (kr _ _ _)) (fun q => absurd lg_self q))) (fun q => absurd i7 q)
theorem lc_meanHeard (hg : ev_cat1 g.2 = true) (s : lwS a b k h) (hk : k < 900) (hi : i + 4 < g.1.length) (hz : g.1.length < 2147483648) (kk : ∀ h', lwS a b (k + 1) h' → ∃ r, Q r ∧ ∀ w6 w7 w8, tr_L g (d + 15) m_law 28 [some (.ref 0), some (.ref 1000), some (.ref 1099), some (.ref 1109), some (.ref 1110), some (.int (Int32.ofNat i + 5)), w6, w7, w8] [] h' r) : ∃ r, Q r ∧ ∀ w6 w7 w8, tr_L g (d + 15) m_law 2270 [some (.ref 0), some (.ref 1000), some (.ref 1099), some (.ref 1109), some (.ref 1110), some (.int (Int32.ofNat i)), w6, w7, w8] [] h r := by
  obtain ⟨hL, s1, s2, c, P, S, y, l, t, B, ci, mi, w⟩ := s
  have q : cQ h c (cn c) := ⟨ci.1, w.1.1⟩
  have i1 : ∀ j, Int32.ofNat i + Int32.ofNat j = Int32.ofNat (i + j) := fun j => ii_a i j
  have wB := w.2.2.2.1
  have m0 : MI h c P S y l t := mi
  by_cases e : ct_i c 0 = 0
  · have x1 := sx_L_meanHeard_0_3_4 (h1 := h) (v0 := 0) hL (op_mean0 (g := g) (d := d + 13) hL q e) rfl
    have md := mid_x ci mi
    obtain ⟨h2, m2, r2⟩ := mo_mean0 (g := g) (d := d + 13) x1.2 (MI_n md.2.2.2 w.1.1) e
    have e2 := end_q s1 s2 md r2.2 (mU_T m2) w
    have i7 := m2.2.1
    have r3 := sg_X9_thrown_0 (g := g) (d := d + 14) r2.2 rfl
    obtain ⟨r, hQ, kr⟩ := kk h2 e2
    refine ⟨r, hQ, fun w6 w7 w8 => ?_⟩
    exact sg_law_2270 hL (d := d + 14) x1 r2 r3 (fun _ => sg_law_2295 r2.2 (fun _ => sg_law_2332 r2.2 (kr _ _ _)) (fun q => absurd q (by decide))) (fun q => absurd i7 q)
  · have x1 := sg_L_meanHeard_0 hL (op_mean (g := g) (d := d + 13) hL q e) rfl
    have p := wr_v2 (v := .double (q_d (ct_i c 5) (ct_i c 0))) hL
    have md := mid_2 (x := .inr (101, (hh_v h 110).set 0 (.double (q_d (ct_i c 5) (ct_i c 0))))) ci mi
    obtain ⟨h2, m2, r2⟩ := mo_mean (g := g) (d := d + 13) x1.2 (MI_n md.2.2.2 w.1.1) e
    have e2 := end_q s1 s2 md r2.2 (mU_T m2) w
    have i7 := m2.2.1
    have p2 := (congrArg (fun v => v[0]?) (hh_F_v m2.1 (k := 110) (by decide))).trans p
    have r3 := sg_X9_thrown_0 (g := g) (d := d + 14) r2.2 rfl
    obtain ⟨r, hQ, kr⟩ := kk h2 e2
    refine ⟨r, hQ, fun w6 w7 w8 => ?_⟩
    exact sg_law_2270 hL (d := d + 14) x1 r2 r3 (fun _ => sg_law_2295 r2.2 (fun q => absurd rfl q) (fun _ => sg_law_2300 r2.2 p2 (fun _ => sg_law_2332 r2.2 (kr _ _ _)) (fun q => absurd (q_d_c e) q))) (fun q => absurd i7 q)
theorem lc_hungShare (hg : ev_cat1 g.2 = true) (s : lwS a b k h) (hk : k < 900) (hi : i + 4 < g.1.length) (hz : g.1.length < 2147483648) (kk : ∀ h', lwS a b (k + 1) h' → ∃ r, Q r ∧ ∀ w6 w7 w8, tr_L g (d + 15) m_law 28 [some (.ref 0), some (.ref 1000), some (.ref 1099), some (.ref 1109), some (.ref 1110), some (.int (Int32.ofNat i + 5)), w6, w7, w8] [] h' r) : ∃ r, Q r ∧ ∀ w6 w7 w8, tr_L g (d + 15) m_law 2335 [some (.ref 0), some (.ref 1000), some (.ref 1099), some (.ref 1109), some (.ref 1110), some (.int (Int32.ofNat i)), w6, w7, w8] [] h r := by
  obtain ⟨hL, s1, s2, c, P, S, y, l, t, B, ci, mi, w⟩ := s
  have q : cQ h c (cn c) := ⟨ci.1, w.1.1⟩
  have i1 : ∀ j, Int32.ofNat i + Int32.ofNat j = Int32.ofNat (i + j) := fun j => ii_a i j
  have wB := w.2.2.2.1
  have m0 : MI h c P S y l t := mi
  by_cases e : ct_i c 2 = 0
  · have x1 := sx_L_hungShare_0_3_4 (h1 := h) (v0 := 0) hL (op_share0 (g := g) (d := d + 13) hL q e) rfl
    have md := mid_x ci mi
    obtain ⟨h2, m2, r2⟩ := mo_share0 (g := g) (d := d + 13) x1.2 (MI_n md.2.2.2 w.1.1) e
    have e2 := end_q s1 s2 md r2.2 (mU_T m2) w
    have i7 := m2.2.1
    have r3 := sg_X9_thrown_0 (g := g) (d := d + 14) r2.2 rfl
    obtain ⟨r, hQ, kr⟩ := kk h2 e2
    refine ⟨r, hQ, fun w6 w7 w8 => ?_⟩
    exact sg_law_2335 hL (d := d + 14) x1 r2 r3 (fun _ => sg_law_2360 r2.2 (fun _ => sg_law_2398 r2.2 (kr _ _ _)) (fun q => absurd q (by decide))) (fun q => absurd i7 q)
  · have x1 := sg_L_hungShare_0 hL (op_share (g := g) (d := d + 13) hL q e) (q_fd_n e) rfl
    have p := wr_v2 (v := .double (FP.f2d (q_f (ct_i c 3) (ct_i c 2)))) hL
    have md := mid_2 (x := .inr (101, (hh_v h 110).set 0 (.double (FP.f2d (q_f (ct_i c 3) (ct_i c 2)))))) ci mi
    obtain ⟨h2, m2, r2⟩ := mo_share (g := g) (d := d + 13) x1.2 (MI_n md.2.2.2 w.1.1) e
    have e2 := end_q s1 s2 md r2.2 (mU_T m2) w
    have i7 := m2.2.1
    have p2 := (congrArg (fun v => v[0]?) (hh_F_v m2.1 (k := 110) (by decide))).trans p
    have r3 := sg_X9_thrown_0 (g := g) (d := d + 14) r2.2 rfl
    obtain ⟨r, hQ, kr⟩ := kk h2 e2
    refine ⟨r, hQ, fun w6 w7 w8 => ?_⟩
    exact sg_law_2335 hL (d := d + 14) x1 r2 r3 (fun _ => sg_law_2360 r2.2 (fun q => absurd rfl q) (fun _ => sg_law_2365 r2.2 p2 (q_fd_n e) (fun _ => sg_law_2398 r2.2 (kr _ _ _)) (fun q => absurd (q_fd_c e) q))) (fun q => absurd i7 q)
end
