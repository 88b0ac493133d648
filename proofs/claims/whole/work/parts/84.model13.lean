/-! THE MODEL: first votes, rounds as calls -/
theorem vo_first {c : CT} {n o : Nat} (hP : ct_perm c n) : ct_vo c n 15 o = ct_first c n (Int32.ofNat o) := by
  refine mm_sum_congr (fun k hk => ?_)
  have : ct_fp c k 15 = 0 := by
    obtain ⟨z, hz, ez⟩ := ct_perm_lt hP hk (show 0 < 4 by omega)
    refine mm_find_at (by omega) ?_ (fun j hj => absurd hj (by omega))
    rw [ez, ct_has_o hz]
    have : ∀ z, z < 4 → (15 : Nat).testBit z = true := by decide
    exact this z hz
  rw [this]
section
variable {g : tr_g} {d : Nat} {h h' : ev_AH} {c : CT} {n : Nat}
theorem mo_firstVotes {x : Int32} (hL : hh_L h) (q : mQ h c n) : ∃ h', mT h h' (ans (an_firstVotes c n x) (fun _ => 1)).2 ∧ tr_L g (d + 12) m_X9_firstVotes 0 [some (.ref 1099), some (.int x)] [] h (.inl (some (.int (ans (an_firstVotes c n x) (fun _ => 1)).1)), h') := by
  have r := sa_X9_isOption (g := g) (d := d + 10) (x0 := x) hL
  rw [ix_opt] at r
  unfold an_firstVotes
  rcases ox_c x with ⟨o, ho, e5, e6⟩ | ⟨e5, e6⟩
  · rw [e6] at r ⊢
    have r1 := sp_thr0 (g := g) (d := d + 11) (x := 1) hL
    have m1 := mT_set (x := 0) hL
    have r2 := sp_votesM (g := g) (d := d + 10) (m := 15) r1.2 (mQ_T m1 q) ho (by omega) (by omega)
    rw [vo_first q.2.2.2.2.2] at r2
    have ei : x - 97 = Int32.ofNat o := by rw [e5, ii_idx ho]
    exact ⟨_, m1, sg_X9_firstVotes_0 hL (d := d + 11) r (fun _ => sg_X9_firstVotes_12 hL (d := d + 11) r1 (fun _ => sg_X9_firstVotes_24 r1.2 (d := d + 11) (by rw [ei]; exact r2) rfl) (fun t => absurd rfl t)) (fun t => bI1 t)⟩
  · rw [e5] at r ⊢
    have r1 := sp_thr1 (g := g) (d := d + 11) (x := 1) hL
    exact ⟨_, mT_set hL, sg_X9_firstVotes_0 hL (d := d + 11) r (fun t => absurd rfl t) (fun _ => sg_X9_firstVotes_8 hL (d := d + 11) r1 (fun t => absurd t (by decide)) (fun _ => sg_X9_firstVotes_20 r1.2 rfl))⟩
/-- thrown is x; the numbers of answer, ray and rounds may change, no other -/
def mY (h h' : ev_AH) (x : Int32) : Prop := hh_F [99] h h' ∧ hh_i h' 99 7 = x ∧ ∀ sl, sl ≠ 7 → (sl < 14 ∨ 19 < sl) → hh_i h' 99 sl = hh_i h 99 sl
theorem mY_T {x : Int32} (a : mT h h' x) : mY h h' x := ⟨a.1, a.2.1, fun sl h1 _ => a.2.2 sl h1⟩
theorem mY_V {x : Int32} (a : mV h h' x) : mY h h' x := ⟨a.1, a.2.1, fun sl h1 h2 => a.2.2 sl h1 (by omega)⟩
theorem mY_TB {h1 h2 h3 : ev_AH} {x : Int32} (a : mY h1 h2 x) (b : mB h2 h3) : mY h1 h3 x := ⟨hh_F_tr a.1 b.1, by rw [b.2 7 (by omega)]; exact a.2.1, fun sl h1 h2 => (b.2 sl (by omega)).trans (a.2.2 sl h1 h2)⟩
theorem mo_roundsWinner (hL : hh_L h) (q : mQ h c n) : ∃ h', mY h h' (ans (an_win ct_vrW c n) (fun _ => 1)).2 ∧ tr_L g (d + 12) m_X9_roundsWinner 0 [some (.ref 1099)] [] h (.inl (some (.int (ans (an_win ct_vrW c n) (fun _ => 1)).1)), h') := by
  have h7 := q.2.2.1
  have e1 := m_n q
  unfold an_win
  by_cases hn : n = 0
  · rw [if_pos hn]
    have r1 := sp_thr1 (g := g) (d := d + 11) (x := 1) hL
    exact ⟨_, mY_T (mT_set hL), sg_X9_roundsWinner_0 hL (d := d + 12) (j0 := 1) rfl (by omega) (fun t => absurd (by rw [e1, hn]; rfl) t) (fun _ => sg_X9_roundsWinner_10 hL (d := d + 11) r1 (fun t => absurd t (by decide)) (fun _ => sg_X9_roundsWinner_22 r1.2 rfl))⟩
  · rw [if_neg hn]
    have r1 := sp_thr0 (g := g) (d := d + 11) (x := 1) hL
    have m1 := mT_set (x := 0) hL
    obtain ⟨h2, r2, B2, _⟩ := sp_byRounds (g := g) (d := d + 8) r1.2 (mQ_T m1 q) (by omega)
    exact ⟨_, mY_TB (mY_T m1) B2, sg_X9_roundsWinner_0 hL (d := d + 12) (j0 := 1) rfl (by omega) (fun _ => sg_X9_roundsWinner_14 hL (d := d + 11) r1 (fun _ => sg_X9_roundsWinner_26 r1.2 (d := d + 11) r2 (tr_chc _) rfl) (fun t => absurd rfl t)) (fun t => absurd ((ii_eq (b := 0) (by omega) (by omega)).mp (by rw [e1] at t; exact t)) hn)⟩
theorem mo_rounds (hL : hh_L h) (q : mQ h c n) : ∃ h', mY h h' (ans (an_rounds c n) (fun _ => 1)).2 ∧ tr_L g (d + 12) m_X9_rounds 0 [some (.ref 1099)] [] h (.inl (some (.int (ans (an_rounds c n) (fun _ => 1)).1)), h') := by
  have h7 := q.2.2.1
  have e1 := m_n q
  unfold an_rounds
  by_cases hn : n = 0
  · rw [if_pos hn]
    have r1 := sp_thr1 (g := g) (d := d + 11) (x := 1) hL
    exact ⟨_, mY_T (mT_set hL), sg_X9_rounds_0 hL (d := d + 12) (j0 := 1) rfl (by omega) (fun t => absurd (by rw [e1, hn]; rfl) t) (fun _ => sg_X9_rounds_10 hL (d := d + 11) r1 (fun t => absurd t (by decide)) (fun _ => sg_X9_rounds_22 r1.2 rfl))⟩
  · rw [if_neg hn]
    have r1 := sp_thr0 (g := g) (d := d + 11) (x := 1) hL
    have m1 := mT_set (x := 0) hL
    obtain ⟨h2, r2, B2, i2⟩ := sp_byRounds (g := g) (d := d + 8) r1.2 (mQ_T m1 q) (by omega)
    have Y2 := mY_TB (mY_T m1) B2
    have j : ∀ sl v, hh_i (hh_si h2 99 8 14 v) 99 sl = if 14 = sl then v else hh_i h2 99 sl := fun sl v => hh_i_sis r2.2 ht99 (by decide)
    refine ⟨hh_si h2 99 8 14 (Int32.ofNat (ct_vr c n 4 15 1).1), ⟨hh_F_tr Y2.1 (hh_F_si (by decide)), by rw [j, if_neg (by decide)]; exact Y2.2.1, fun sl h1 h2 => by rw [j, if_neg (by omega)]; exact Y2.2.2 sl h1 h2⟩, sg_X9_rounds_0 hL (d := d + 12) (j0 := 1) rfl (by omega) (fun _ => sg_X9_rounds_14 hL (d := d + 11) r1 (fun _ => sg_X9_rounds_24 r1.2 (d := d + 11) r2 (by rw [j, if_neg (by decide), i2]; rfl)) (fun t => absurd rfl t)) (fun t => absurd ((ii_eq (b := 0) (by omega) (by omega)).mp (by rw [e1] at t; exact t)) hn)⟩
end
