/-! THE MODEL: numbers told -/
section
variable {g : tr_g} {d : Nat} {h h' : ev_AH} {c : CT} {n B : Nat} {P : List CT} {S : Option CT} {y : YS} {l t : List Int32}
theorem mo_num0 (hL : hh_L h) (q : mQ h c n) : mT h (hh_si h 99 8 7 0) 0 ∧ (∀ j, (hh_a (hh_si h 99 8 7 0) 100).getD j 0 = (hh_a h 100).getD j 0) := ⟨mT_set hL, fun j => by rw [hh_a_si (by decide)]⟩
theorem mo_catCount (hL : hh_L h) (q : mQ h c n) : ∃ h', mT h h' 0 ∧ tr_L g d m_X9_catCount 0 [some (.ref 1099)] [] h (.inl (some (.int (ct_i c 0))), h') := ⟨_, mT_set hL, sg_X9_catCount_0 hL (j0 := 1) rfl (by omega) (by rw [hh_a_si (by decide), q.1.2.1.2.1])⟩
theorem mo_method (hL : hh_L h) (q : mQ h c n) : ∃ h', mT h h' 0 ∧ tr_L g d m_X9_method 0 [some (.ref 1099)] [] h (.inl (some (.int (ct_i c 1))), h') := ⟨_, mT_set hL, sg_X9_method_0 hL (j0 := 0) rfl (by omega) (tr_chc _) (by rw [hh_a_si (by decide), q.1.2.1.1, tr_nch q.2.2.2.1.2.2.1])⟩
theorem mo_deliberations (hL : hh_L h) (q : mQ h c n) : ∃ h', mT h h' 0 ∧ tr_L g d m_X9_deliberations 0 [some (.ref 1099)] [] h (.inl (some (.int (ct_i c 2))), h') := ⟨_, mT_set hL, sg_X9_deliberations_0 hL (j0 := 2) rfl (by omega) (by rw [hh_a_si (by decide), q.1.2.1.2.2.1])⟩
theorem mo_hungCount (hL : hh_L h) (q : mQ h c n) : ∃ h', mT h h' 0 ∧ tr_L g d m_X9_hungCount 0 [some (.ref 1099)] [] h (.inl (some (.int (ct_i c 3))), h') := ⟨_, mT_set hL, sg_X9_hungCount_0 hL (j0 := 3) rfl (by omega) (by rw [hh_a_si (by decide), q.1.2.1.2.2.2.1])⟩
theorem mo_retrials (hL : hh_L h) (q : mQ h c n) : ∃ h', mT h h' 0 ∧ tr_L g d m_X9_retrials 0 [some (.ref 1099)] [] h (.inl (some (.int (ct_i c 4))), h') := ⟨_, mT_set hL, sg_X9_retrials_0 hL (j0 := 4) rfl (by omega) (by rw [hh_a_si (by decide), q.1.2.1.2.2.2.2.1])⟩
theorem mo_testimonies (hL : hh_L h) (q : mQ h c n) : ∃ h', mT h h' 0 ∧ tr_L g d m_X9_testimonies 0 [some (.ref 1099)] [] h (.inl (some (.int (ct_i c 5))), h') := ⟨_, mT_set hL, sg_X9_testimonies_0 hL (j0 := 5) rfl (by omega) (by rw [hh_a_si (by decide), q.1.2.1.2.2.2.2.2.1])⟩
theorem mo_hasCause (hL : hh_L h) (q : mQ h c n) : ∃ h', mT h h' 0 ∧ tr_L g (d + 12) m_X9_hasCause 0 [some (.ref 1099)] [] h (.inl (some (.int (ct_may c))), h') := by
  have m1 := mT_set (x := 0) hL
  have L1 := ht99_7 (sl := 7) (x := 0) hL (by omega)
  exact ⟨_, m1, sg_X9_hasCause_0 hL (d := d + 11) (sp_caused L1 (mQ_T m1 q)) ct_may01 rfl⟩
theorem mo_verdict {x : Int32} (hL : hh_L h) (q : mQ h c n) (w : cw c n B) (hB : B < 100000) : ∃ h', mT h h' (ans (an_verdict c x) (fun _ => 1)).2 ∧ tr_L g (d + 12) m_X9_verdictAt 0 [some (.ref 1099), some (.int x)] [] h (.inl (some (.int (ans (an_verdict c x) (fun _ => 1)).1)), h') := by
  obtain ⟨m, u, b1, b2, b3, b4⟩ := w.2.2.2.2.2.2.2.1
  have e8 : (hh_a h 100).getD 8 0 = Int32.ofNat (if m < 10 then m else 10) := by
    rw [q.1.2.1.2.2.2.2.2.2.2.2, b3]
    by_cases hm : m < 10
    · rw [if_pos hm, if_pos (show Int32.ofNat m < 10 from (ii_lt (b := 10) (by omega) (by omega)).mpr hm)]
    · rw [if_neg hm, if_neg (show ¬ Int32.ofNat m < 10 from fun t => hm ((ii_lt (b := 10) (by omega) (by omega)).mp t))]
      rfl
  have r := sa_X9_isIn (g := g) (d := d + 11) (x0 := x) (x1 := 0) (x2 := Int32.ofNat (if m < 10 then m else 10) - 1) hL
  rw [ix_in (by split <;> omega)] at r
  have bad : idx (if m < 10 then m else 10) x = none → ∃ h', mT h h' 1 ∧ tr_L g (d + 12) m_X9_verdictAt 0 [some (.ref 1099), some (.int x)] [] h (.inl (some (.int 0)), h') := fun e => by
    rw [e] at r
    have r1 := sp_thr1 (g := g) (d := d + 11) (x := 1) hL
    exact ⟨_, mT_set hL, sg_X9_verdictAt_0 hL (d := d + 11) (j0 := 8) rfl (by omega) (by rw [e8]; exact r) (fun t => absurd rfl t) (fun _ => sg_X9_verdictAt_18 hL (d := d + 11) r1 (fun t => absurd t (by decide)) (fun _ => sg_X9_verdictAt_30 r1.2 rfl))⟩
  unfold an_verdict
  rcases idx_c (m := 10) (by omega) x with ⟨k, hk, e3, e4⟩ | ⟨e3, e4⟩
  · rw [e4]
    simp only
    by_cases hkm : k < m
    · have hlt : x < ct_i c 2 := by rw [e3, b3]; exact (ii_lt (by omega) (by omega)).mpr hkm
      rw [if_pos hlt]
      have hi : idx (if m < 10 then m else 10) x = some k := by
        rw [e3]
        refine idx_k (by split <;> omega) ?_
        split <;> omega
      rw [hi] at r
      have r1 := sp_thr0 (g := g) (d := d + 11) (x := 1) hL
      have m1 := mT_set (x := 0) hL
      have e0 : (9 : Int32) + x = Int32.ofNat (9 + k) := by rw [e3, show (9 : Int32) = Int32.ofNat 9 from rfl, ii_a]
      refine ⟨_, m1, sg_X9_verdictAt_0 hL (d := d + 11) (j0 := 8) rfl (by omega) (by rw [e8]; exact r) (fun _ => sg_X9_verdictAt_22 hL (d := d + 11) r1 (fun _ => sg_X9_verdictAt_34 r1.2 (j0 := 9 + k) e0 (by omega) (tr_chc _) ?_) (fun t => absurd rfl t)) (fun t => bI1 t)⟩
      rw [hh_a_si (by decide), q.1.2.2.1 k hk, tr_nch (gD_ch q.2.2.2.1.2.1 k)]
      rfl
    · have hlt : ¬ x < ct_i c 2 := by rw [e3, b3]; exact fun t => hkm ((ii_lt (by omega) (by omega)).mp t)
      rw [if_neg hlt]
      refine bad ?_
      rcases idx_c (m := if m < 10 then m else 10) (by split <;> omega) x with ⟨j, hj, f3, f4⟩ | ⟨f3, _⟩
      · rw [e3] at f3
        have : j < 10 := by split at hj <;> omega
        have := (ii_eq (by omega) (by omega)).mp f3
        exfalso
        split at hj <;> omega
      · exact f3
  · rw [e3]
    refine bad ?_
    rcases idx_c (m := if m < 10 then m else 10) (by split <;> omega) x with ⟨j, hj, f3, f4⟩ | ⟨f3, _⟩
    · exact absurd f3 (e4 j (by split at hj <;> omega))
    · exact f3
theorem mo_consistent (hL : hh_L h) (q : mQ h c n) : ∃ h', mT h h' 0 ∧ tr_L g (d + 12) m_X9_isConsistent 0 [some (.ref 1099), none, none] [] h (.inl (some (.int (if ct_heard c n = ct_i c 5 then 1 else 0))), h') := by
  have h7 := q.2.2.1
  have m1 := mT_set (x := 0) hL
  have L1 := ht99_7 (sl := 7) (x := 0) hL (by omega)
  have q1 := mQ_T m1 q
  have en := m_n q1
  have e5 : (hh_a (hh_si h 99 8 7 0) 100).getD 5 0 = ct_i c 5 := q1.1.2.1.2.2.2.2.2.1
  refine ⟨_, m1, sg_X9_isConsistent_0 hL ?_⟩
  have loop : ∀ m k, k + m = n → tr_L g (d + 12) m_X9_isConsistent 9 [some (.ref 1099), some (.int (mm_sum (fun k => (ct_he c).getD k 0) k)), some (.int (Int32.ofNat k))] [] (hh_si h 99 8 7 0) (.inl (some (.int (if ct_heard c n = ct_i c 5 then 1 else 0))), hh_si h 99 8 7 0) := by
    intro m
    induction m with
    | zero =>
      intro k hk
      have : k = n := by omega
      subst this
      refine sg_X9_isConsistent_9 L1 (j0 := 1) rfl (by omega) (fun _ => sg_X9_isConsistent_34 L1 (j0 := 5) rfl (by omega) (fun t => ?_) (fun t => ?_)) (fun t => by rw [en] at t; exact lp_end t)
      · rw [e5] at t
        rw [if_neg (show ¬ ct_heard c k = ct_i c 5 from t)]
        exact sg_X9_isConsistent_48 L1 rfl
      · rw [e5] at t
        rw [if_pos (show ct_heard c k = ct_i c 5 from t)]
        exact sg_X9_isConsistent_44 L1 rfl
    | succ m ih =>
      intro k hk
      have hkn : k < n := by omega
      have r1 := sp_of (g := g) (d := d + 11) (k := k) (w := 1) L1 (by omega) (by omega)
      rw [(q1.1.2.2.2.2 k hkn).2.1] at r1
      refine sg_X9_isConsistent_9 L1 (j0 := 1) rfl (by omega) (fun t => by rw [en] at t; exact lp_no hkn (by omega) t) (fun _ => sg_X9_isConsistent_19 L1 (d := d + 11) r1 ?_)
      rw [ii_s]
      exact ih (k + 1) (by omega)
  exact loop n 0 (by omega)
/-! what is told of rejections -/
theorem mo_synOff (hL : hh_L h) (w : MI h c P S y l t) (hy : y.2.2.2 = -1 ∨ 0 ≤ y.2.2.2) : ∃ h', mT h h' (ans (an_fld y.2.2.2 (-1) y.2.2.2) (fun _ => 1)).2 ∧ tr_L g (d + 12) m_X9_syntaxErrorOffset 0 [some (.ref 1099)] [] h (.inl (some (.int (ans (an_fld y.2.2.2 (-1) y.2.2.2) (fun _ => 1)).1)), h') := by
  have e8 := w.2.2.2.1.2.2.2
  unfold an_fld
  by_cases h1 : y.2.2.2 = -1
  · rw [if_pos h1]
    have r1 := sp_thr1 (g := g) (d := d + 11) (x := 1) hL
    exact ⟨_, mT_set hL, sg_X9_syntaxErrorOffset_0 hL (fun t => by rw [e8, h1] at t; exact absurd t (by decide)) (fun _ => sg_X9_syntaxErrorOffset_8 hL (d := d + 11) r1 (fun t => absurd t (by decide)) (fun _ => sg_X9_syntaxErrorOffset_20 r1.2 rfl))⟩
  · rw [if_neg h1]
    have r1 := sp_thr0 (g := g) (d := d + 11) (x := 1) hL
    have m1 := mT_set (x := 0) hL
    have h0 := hy.resolve_left h1
    exact ⟨_, m1, sg_X9_syntaxErrorOffset_0 hL (fun _ => sg_X9_syntaxErrorOffset_12 hL (d := d + 11) r1 (fun _ => sg_X9_syntaxErrorOffset_24 r1.2 (by rw [m1.2.2 8 (by omega), e8]; rfl)) (fun t => absurd rfl t)) (fun t => by rw [e8] at t; exact absurd h0 (Int32.not_le.mpr t))⟩
theorem mo_rejWhy (hL : hh_L h) (w : MI h c P S y l t) : ∃ h', mT h h' (ans (an_fld y.1 0 y.1) (fun _ => 1)).2 ∧ tr_L g (d + 12) m_X9_rejectionReason 0 [some (.ref 1099)] [] h (.inl (some (.int (ans (an_fld y.1 0 y.1) (fun _ => 1)).1)), h') := by
  have e9 := w.2.2.2.1.1
  unfold an_fld
  by_cases h1 : y.1 = 0
  · rw [if_pos h1]
    have r1 := sp_thr1 (g := g) (d := d + 11) (x := 1) hL
    exact ⟨_, mT_set hL, sg_X9_rejectionReason_0 hL (fun t => absurd (by rw [e9, h1]) t) (fun _ => sg_X9_rejectionReason_8 hL (d := d + 11) r1 (fun t => absurd t (by decide)) (fun _ => sg_X9_rejectionReason_20 r1.2 rfl))⟩
  · rw [if_neg h1]
    have r1 := sp_thr0 (g := g) (d := d + 11) (x := 1) hL
    have m1 := mT_set (x := 0) hL
    exact ⟨_, m1, sg_X9_rejectionReason_0 hL (fun _ => sg_X9_rejectionReason_12 hL (d := d + 11) r1 (fun _ => sg_X9_rejectionReason_24 r1.2 (by rw [m1.2.2 9 (by omega), e9]; rfl)) (fun t => absurd rfl t)) (fun t => absurd (by rw [← e9]; exact t) h1)⟩
theorem mo_rejDet (hL : hh_L h) (w : MI h c P S y l t) : ∃ h', mT h h' (ans (an_fld y.1 0 y.2.1) (fun _ => 1)).2 ∧ tr_L g (d + 12) m_X9_rejectionDetail 0 [some (.ref 1099)] [] h (.inl (some (.int (ans (an_fld y.1 0 y.2.1) (fun _ => 1)).1)), h') := by
  have e9 := w.2.2.2.1.1
  have e10 := w.2.2.2.1.2.1
  unfold an_fld
  by_cases h1 : y.1 = 0
  · rw [if_pos h1]
    have r1 := sp_thr1 (g := g) (d := d + 11) (x := 1) hL
    exact ⟨_, mT_set hL, sg_X9_rejectionDetail_0 hL (fun t => absurd (by rw [e9, h1]) t) (fun _ => sg_X9_rejectionDetail_8 hL (d := d + 11) r1 (fun t => absurd t (by decide)) (fun _ => sg_X9_rejectionDetail_20 r1.2 rfl))⟩
  · rw [if_neg h1]
    have r1 := sp_thr0 (g := g) (d := d + 11) (x := 1) hL
    have m1 := mT_set (x := 0) hL
    exact ⟨_, m1, sg_X9_rejectionDetail_0 hL (fun _ => sg_X9_rejectionDetail_12 hL (d := d + 11) r1 (fun _ => sg_X9_rejectionDetail_24 r1.2 (by rw [m1.2.2 10 (by omega), e10]; rfl)) (fun t => absurd rfl t)) (fun t => absurd (by rw [← e9]; exact t) h1)⟩
theorem mo_cause (hL : hh_L h) (w : MI h c P S y l t) : ∃ h', mT h h' (ans (if y.1 = 6 then .inl y.2.2.1 else .inr 3) (fun _ => 1)).2 ∧ tr_L g (d + 12) m_X9_causeReason 0 [some (.ref 1099)] [] h (.inl (some (.int (ans (if y.1 = 6 then .inl y.2.2.1 else .inr 3) (fun _ => 1)).1)), h') := by
  have e9 := w.2.2.2.1.1
  have e11 := w.2.2.2.1.2.2.1
  by_cases h1 : y.1 = 6
  · rw [if_pos h1]
    have r1 := sp_thr0 (g := g) (d := d + 11) (x := 1) hL
    have m1 := mT_set (x := 0) hL
    exact ⟨_, m1, sg_X9_causeReason_0 hL (fun _ => sg_X9_causeReason_14 hL (d := d + 11) r1 (fun _ => sg_X9_causeReason_26 r1.2 (by rw [m1.2.2 11 (by omega), e11 h1]; rfl)) (fun t => absurd rfl t)) (fun t => absurd (by rw [e9, h1]) t)⟩
  · rw [if_neg h1]
    have r1 := sp_thr1 (g := g) (d := d + 11) (x := 1) hL
    exact ⟨_, mT_set hL, sg_X9_causeReason_0 hL (fun t => absurd (by rw [← e9]; exact t) h1) (fun _ => sg_X9_causeReason_10 hL (d := d + 11) r1 (fun t => absurd t (by decide)) (fun _ => sg_X9_causeReason_22 r1.2 rfl))⟩
/-- the output -/
theorem mo_outAt {x : Int32} (hL : hh_L h) (w : MI h c P S y l t) (hl : ∀ z ∈ l, sb_c z) : ∃ h', mT h h' (ans (an_outAt l x) (fun _ => 1)).2 ∧ tr_L g (d + 12) m_X9_outputAt 0 [some (.ref 1099), some (.int x)] [] h (.inl (some (.int (ans (an_outAt l x) (fun _ => 1)).1)), h') := by
  obtain ⟨e22, l30, el⟩ := w.2.2.2.2.1
  have r := sa_X9_isIn (g := g) (d := d + 11) (x0 := x) (x1 := 0) (x2 := Int32.ofNat l.length - 1) hL
  rw [ix_in (by omega)] at r
  unfold an_outAt
  rcases idx_c (m := l.length) (by omega) x with ⟨k, hk, e3, e4⟩ | ⟨e3, e4⟩
  · rw [e4] at r ⊢
    have r1 := sp_thr0 (g := g) (d := d + 11) (x := 1) hL
    have m1 := mT_set (x := 0) hL
    refine ⟨_, m1, sg_X9_outputAt_0 hL (d := d + 11) (by rw [e22]; exact r) (fun _ => sg_X9_outputAt_19 hL (d := d + 11) r1 (fun _ => sg_X9_outputAt_31 r1.2 (j0 := k) e3 (by omega) (tr_chc _) ?_) (fun t => absurd rfl t)) (fun t => bI1 t)⟩
    rw [hh_a_si (by decide), el k hk, tr_nch (sb_ch (sb_memD hl hk))]
    rfl
  · rw [e3] at r ⊢
    have r1 := sp_thr1 (g := g) (d := d + 11) (x := 1) hL
    exact ⟨_, mT_set hL, sg_X9_outputAt_0 hL (d := d + 11) (by rw [e22]; exact r) (fun t => absurd rfl t) (fun _ => sg_X9_outputAt_15 hL (d := d + 11) r1 (fun t => absurd t (by decide)) (fun _ => sg_X9_outputAt_27 r1.2 rfl))⟩
end
