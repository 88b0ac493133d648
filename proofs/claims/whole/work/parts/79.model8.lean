/-! THE MODEL: winner by points, dominance as calls -/
section
variable {g : tr_g} {d : Nat} {h h' : ev_AH} {c : CT} {n : Nat}
theorem mo_pointsWinner (hL : hh_L h) (q : mQ h c n) : ∃ h', mT h h' (ans (an_win ct_byPts c n) (fun _ => 1)).2 ∧ tr_L g (d + 12) m_X9_pointsWinner 0 [some (.ref 1099)] [] h (.inl (some (.int (ans (an_win ct_byPts c n) (fun _ => 1)).1)), h') := by
  have h7 := q.2.2.1
  have e1 := m_n q
  unfold an_win
  by_cases hn : n = 0
  · rw [if_pos hn]
    have r1 := sp_thr1 (g := g) (d := d + 11) (x := 1) hL
    exact ⟨_, mT_set hL, sg_X9_pointsWinner_0 hL (d := d + 12) (j0 := 1) rfl (by omega) (fun t => absurd (by rw [e1, hn]; rfl) t) (fun _ => sg_X9_pointsWinner_10 hL (d := d + 11) r1 (fun t => absurd t (by decide)) (fun _ => sg_X9_pointsWinner_22 r1.2 rfl))⟩
  · rw [if_neg hn]
    have r1 := sp_thr0 (g := g) (d := d + 11) (x := 1) hL
    have m1 := mT_set (x := 0) hL
    have r2 := sp_byPtsM (g := g) (d := d + 8) r1.2 (mQ_T m1 q)
    exact ⟨_, m1, sg_X9_pointsWinner_0 hL (d := d + 12) (j0 := 1) rfl (by omega) (fun _ => sg_X9_pointsWinner_14 hL (d := d + 11) r1 (fun _ => sg_X9_pointsWinner_26 r1.2 (d := d + 11) r2 (tr_chc _) rfl) (fun t => absurd rfl t)) (fun t => absurd ((ii_eq (b := 0) (by omega) (by omega)).mp (by rw [e1] at t; exact t)) hn)⟩
theorem mo_dominant {x : Int32} (hL : hh_L h) (q : mQ h c n) : ∃ h', mT h h' (ans (an_dominant c n x) (fun _ => 1)).2 ∧ tr_L g (d + 12) m_X9_isDominant 0 [some (.ref 1099), some (.int x)] [] h (.inl (some (.int (ans (an_dominant c n x) (fun _ => 1)).1)), h') := by
  have r := sa_X9_isOption (g := g) (d := d + 10) (x0 := x) hL
  rw [ix_opt] at r
  unfold an_dominant
  rcases ox_c x with ⟨o, ho, e5, e6⟩ | ⟨e5, e6⟩
  · rw [e6] at r ⊢
    have r1 := sp_thr0 (g := g) (d := d + 11) (x := 1) hL
    have m1 := mT_set (x := 0) hL
    have r2 := sp_domM (g := g) (d := d + 8) r1.2 (mQ_T m1 q) ho
    have ei : x - 97 = Int32.ofNat o := by rw [e5, ii_idx ho]
    refine ⟨_, m1, sg_X9_isDominant_0 hL (d := d + 11) r (fun _ => sg_X9_isDominant_12 hL (d := d + 11) r1 (fun t => absurd rfl t) (fun _ => sg_X9_isDominant_20 r1.2 (d := d + 11) (by rw [ei]; exact r2) (fun t => ?_) (fun t => ?_))) (fun t => bI1 t)⟩
    · refine sg_X9_isDominant_35 r1.2 ?_
      show (Sum.inl (some (Value.int (if ct_nd c n o < 4 then 0 else 1))), _) = _
      rw [t]
    · refine sg_X9_isDominant_31 r1.2 ?_
      show (Sum.inl (some (Value.int (if ct_nd c n o < 4 then 0 else 1))), _) = _
      by_cases hc : ct_nd c n o < 4
      · rw [if_pos hc] at t; exact absurd rfl t
      · rw [if_neg hc]
  · rw [e5] at r ⊢
    have r1 := sp_thr1 (g := g) (d := d + 11) (x := 1) hL
    exact ⟨_, mT_set hL, sg_X9_isDominant_0 hL (d := d + 11) r (fun t => absurd rfl t) (fun _ => sg_X9_isDominant_8 hL (d := d + 11) r1 (fun _ => sg_X9_isDominant_35 r1.2 rfl) (fun t => absurd t (by decide)))⟩
end
