/-! THE FACE: testimonies, methods, verdicts, undo, snapshots, input -/
theorem ct_vr_lt {c : CT} {n : Nat} : ∀ f m r, (ct_vr c n f m r).1 < 4
  | 0, _, _ => by unfold ct_vr; omega
  | f + 1, m, r => by
    unfold ct_vr
    split
    · assumption
    · split
      · exact ct_vr_lt f _ _
      · exact Nat.zero_lt_succ _
section
variable {g : tr_g} {d : Nat} {h h' : ev_AH} {c : CT} {n : Nat} {P : List CT} {S : Option CT} {y : YS} {l t : List Int32}
/-- the court is kept; which cells changed -/
theorem sp_keepF (hL : hh_L h) (w : CI h c P S y l t) (ok : ct_ok c) : ∃ h' ks, tr_L g (d + 3) m_X3_keep 0 [some (.ref 1015), some (.ref 1001)] [] h (.inl none, h') ∧ hh_F ks h h' ∧ (∀ k ∈ ks, 15 ≤ k ∧ k < 80) ∧ CI h' c (hi_push P c) S y l t := by
  obtain ⟨o, hr⟩ := w.2.1
  have hlt : (o + P.length) % 9 < 9 := Nat.mod_lt _ (by decide)
  obtain ⟨h', o', r1, r2, r3⟩ := sp_keep (g := g) (d := d) hL w.1 ok hr
  exact ⟨h', _, r1, r2, kS_r hlt, CI_P r2 (kS_r hlt) r3 w⟩
theorem ry_cat_lt {r : Option (Nat ⊕ Nat)} (h : ry_cat c n r ≠ -1) : ∃ k, k < n ∧ ry_cat c n r = Int32.ofNat k := by
  cases r with
  | none => exact absurd rfl h
  | some z =>
    cases z with
    | inr e => exact absurd rfl h
    | inl q =>
      have e : ry_cat c n (some (.inl q)) = ii_o (ct_cat c n (Int32.ofNat q)) n := rfl
      rw [e] at h ⊢
      by_cases hlt : ct_cat c n (Int32.ofNat q) < n
      · exact ⟨_, hlt, by rw [ii_o, if_pos hlt]⟩
      · rw [ii_o, if_neg hlt] at h
        exact absurd rfl h
def do_test (c : CT) (P : List CT) (y : YS) (n : Nat) (x a : Int32) : (Int32 ⊕ Nat) × CT × List CT × YS := match idx 24 x with
  | none => (.inr 1, c, P, y)
  | some p => match ox a with
    | none => (.inr 1, c, P, y)
    | some o => if ry_cat c n (ct_ry c p).1 = -1 then (.inr 2, c, P, (3, ry_ex (ct_ry c p).1, y.2.2)) else (.inl (ry_cat c n (ct_ry c p).1), ct_hear c (ry_cat c n (ct_ry c p).1).toNatClampNeg (Int32.ofNat o), hi_push P c, y)
theorem op_test {x a : Int32} (hL : hh_L h) (w : CI h c P S y l t) (q : cQ h c n) : ∃ h', hh_M 0 0 h h' ∧ tr_L g (d + 12) m_X8_testify 0 [some (.ref 1000), some (.int x), some (.int a)] [] h (ro (do_test c P y n x a).1 h') ∧ CI h' (do_test c P y n x a).2.1 (do_test c P y n x a).2.2.1 S (do_test c P y n x a).2.2.2 l t := by
  have r := rq_port (g := g) (d := d + 10) (x := x) hL
  have s := rq_opt (g := g) (d := d + 10) (x := a) hL
  have h7 := q.2.2.1
  unfold do_test
  rcases idx_c (m := 24) (by omega) x with ⟨p, hp, e3, e4⟩ | ⟨e3, e4⟩
  · simp only [e4]
    rcases ox_c a with ⟨o, ho, e5, e6⟩ | ⟨e5, e6⟩
    · simp only [e6]
      obtain ⟨h1, r1, L1, F1, z0, z1, z2, z3⟩ := sp_fol (g := g) (d := d) hL q hp
      have w1 := CI_W (hh_F_w F1 (by decide)) w
      have M1 : hh_M 0 0 h h1 := hh_M_F F1 (by decide)
      by_cases hx : ry_cat c n (ct_ry c p).1 = -1
      · simp only [if_pos hx]
        obtain ⟨h2, s2, F2, w2⟩ := sp_rejc (g := g) (d := d + 11) (x1 := 3) (x2 := ry_ex (ct_ry c p).1) L1 w1
        exact ⟨h2, hh_M_tr M1 (hh_M_F F2 (by decide)), sg_X8_testify_0 hL (d := d + 11) (r.2 p e4) (s.2 o e6) (by rw [e3]; exact r1) (fun z => by rw [z1] at z; exact absurd hx z) (fun _ => sg_X8_testify_31 L1 (d := d + 11) (by rw [z0]; exact s2) rfl), w2⟩
      · simp only [if_neg hx]
        obtain ⟨k, hk, ek⟩ := ry_cat_lt hx
        obtain ⟨h2, ks, s2, F2, K2, w2⟩ := sp_keepF (g := g) (d := d + 8) L1 w1 q.2.2.2.1
        obtain ⟨h3, s3, F3, c3⟩ := sp_hear (g := g) (d := d + 9) (k := k) (o := Int32.ofNat o) s2.2 w2.1 (by omega)
        have e80 : hh_i h2 80 1 = Int32.ofNat k := by rw [hh_F_i F2 (fun hm => by have := K2 _ hm; omega), z1, ek]
        have e81 : hh_i h3 80 1 = Int32.ofNat k := by rw [hh_F_i F3 (by decide), e80]
        have M2 : hh_M 0 0 h1 h2 := hh_M_F F2 (fun j hj => by have := K2 j hj; omega)
        rw [ek, ii_cn (by omega)]
        exact ⟨h3, hh_M_tr M1 (hh_M_tr M2 (hh_M_F F3 kC99)), sg_X8_testify_0 hL (d := d + 11) (r.2 p e4) (s.2 o e6) (by rw [e3]; exact r1) (fun _ => sg_X8_testify_53 L1 (d := d + 11) s2 (by rw [e5]; exact sp_idxOf s2.2 ho) (by rw [e80]; exact s3) (by rw [e81]; rfl)) (fun z => by rw [z1] at z; exact absurd z hx), CI_c F3 c3 w2⟩
    · simp only [e5]
      exact ⟨h, hh_M_rf, sx_X8_testify_0_5 (h2 := h) hL (c_0 := r.2 p e4) (cx := s.1 e5) (hr := rfl), w⟩
  · simp only [e3]
    exact ⟨h, hh_M_rf, sx_X8_testify_0_1 (h1 := h) hL (cx := r.1 e3) (hr := rfl), w⟩
def do_meth (c : CT) (P : List CT) (a : Int32) : (Int32 ⊕ Nat) × CT × List CT := if fa_X8_isMethod a = 0 then (.inr 1, c, P) else (.inl (ct_i c 1), cc_in c 1 a, hi_push P c)
theorem op_meth {a : Int32} (hL : hh_L h) (w : CI h c P S y l t) (q : cQ h c n) (ha : tr_ch a) : ∃ h', hh_M 0 0 h h' ∧ tr_L g (d + 12) m_X8_setMethod 0 [some (.ref 1000), some (.int a), none] [] h (ro (do_meth c P a).1 h') ∧ CI h' (do_meth c P a).2.1 (do_meth c P a).2.2 S y l t := by
  have r1 := sa_X8_isMethod (g := g) (d := d + 11) (x0 := a) hL
  unfold do_meth
  by_cases h3 : fa_X8_isMethod a = 0
  · simp only [if_pos h3]
    exact ⟨h, hh_M_rf, sg_X8_setMethod_0 hL (d := d + 11) r1 (fun z => absurd h3 z) (fun _ => sg_X8_setMethod_7 hL rfl), w⟩
  · simp only [if_neg h3]
    obtain ⟨h1, s1, M1, w1⟩ := sp_keepc (g := g) (d := d + 8) hL w q.2.2.2.1
    have e7 : hh_i h1 1 7 = ct_i c 1 := cq_i (CI_q w1 q) (k := 1) (by omega)
    have F2 : hh_F kC h1 (hh_si h1 1 1 7 a) := hh_F_si (by decide)
    have c2 : cC (hh_si h1 1 1 7 a) 1 = cc_in c 1 a := by rw [cC_si (j := 1) s1.2 (by decide), w1.1]
    exact ⟨_, hh_M_tr M1 (hh_M_F F2 kC99), sg_X8_setMethod_0 hL (d := d + 11) r1 (fun _ => sg_X8_setMethod_18 hL (d := d + 11) s1 ha (by rw [e7]; exact q.2.2.2.1.2.2.1) (by rw [e7]; rfl)) (fun z => absurd z h3), CI_c F2 c2 w1⟩
/-! a vote -/
def ct_who (c : CT) (n : Nat) : Nat := if ct_i c 1 = 114 then ct_vrW c n else if ct_i c 1 = 115 then ct_bySt c n else ct_byPts c n
theorem ct_who_lt : ct_who c n < 4 := by
  unfold ct_who
  split
  · exact ct_vr_lt _ _ _
  · split
    · exact Nat.lt_succ_of_le (mm_find_le _ _)
    · exact Nat.lt_succ_of_le (mm_best_le _ _)
def ct_verd (c : CT) (n : Nat) : Int32 := if ct_nd c n (ct_who c n) < 4 then 45 else fa_X8_letterOf (Int32.ofNat (ct_who c n))
def ct_vote (c : CT) (n : Nat) : CT := ct_conc c (ct_verd c n)
theorem sp_hold (hL : hh_L h) (w : CI h c P S y l t) (q : cQ h c n) (h1 : 1 ≤ n) : ∃ h', hh_M 0 0 h h' ∧ tr_L g (d + 7) m_X8_holdVote 0 [some (.ref 1000), none] [] h (.inl none, h') ∧ CI h' (ct_vote c n) P S y l t := by
  have e7 : hh_i h 1 7 = ct_i c 1 := cq_i q (k := 1) (by omega)
  have h7 := q.2.2.1
  have ok := q.2.2.2.1
  have tail : ∀ (h0 : ev_AH) (r : ev_O × ev_AH), hh_F kW h h0 → hh_L h0 → ∃ h', hh_M 0 0 h0 h' ∧ tr_L g (d + 7) m_X8_holdVote 66 [some (.ref 1000), some (.int (Int32.ofNat (ct_who c n)))] [] h0 (.inl none, h') ∧ CI h' (ct_vote c n) P S y l t := by
    intro h0 _ F0 L0
    have w0 := CI_W F0 w
    have q0 := CI_q w0 q
    obtain ⟨h1, r1, F1⟩ := sp_dominates (g := g) (d := d + 3) L0 q0.1 q0.2.1 h7 q0.2.2.2.2.2 (ct_who_lt (c := c) (n := n))
    have w1 := CI_W (hh_F_w F1 (by decide)) w0
    unfold ct_vote ct_verd
    by_cases hd : ct_nd c n (ct_who c n) < 4
    · rw [if_pos hd] at r1 ⊢
      obtain ⟨h2, r2, F2, c2⟩ := sp_conclude (g := g) (d := d + 5) (v := 45) r1.2 w1.1 ⟨by decide, by decide⟩ ok.2.1
      exact ⟨h2, hh_M_tr (hh_M_F F1 (by decide)) (hh_M_F F2 kC99), sg_X8_holdVote_66 L0 (d := d + 6) r1 (fun _ => sg_X8_holdVote_92 r1.2 (d := d + 6) r2 rfl) (fun z => absurd rfl z), CI_c F2 c2 w1⟩
    · rw [if_neg hd] at r1 ⊢
      obtain ⟨h2, r2, F2, c2⟩ := sp_conclude (g := g) (d := d + 5) (v := fa_X8_letterOf (Int32.ofNat (ct_who c n))) r1.2 w1.1 (tr_chc _) ok.2.1
      exact ⟨h2, hh_M_tr (hh_M_F F1 (by decide)) (hh_M_F F2 kC99), sg_X8_holdVote_66 L0 (d := d + 6) r1 (fun z => absurd z (by decide)) (fun _ => sg_X8_holdVote_85 r1.2 (d := d + 6) (sa_X8_letterOf r1.2) r2 rfl), CI_c F2 c2 w1⟩
  by_cases hr : ct_i c 1 = 114
  · obtain ⟨h0, r0, F0, _⟩ := sp_voteInRounds (g := g) (d := d + 3) hL q.1 q.2.1 h1 h7 q.2.2.2.2.2
    obtain ⟨h2, M2, r2, w2⟩ := tail h0 (.inl none, h0) (hh_F_w F0 (by decide)) r0.2
    have ew : ct_who c n = (ct_vr c n 4 15 1).1 := by rw [ct_who, if_pos hr]; rfl
    exact ⟨h2, hh_M_tr (hh_M_F F0 (by decide)) M2, sg_X8_holdVote_0 hL (fun z => absurd (by rw [e7]; exact hr) z) (fun _ => sg_X8_holdVote_12 hL (d := d + 6) r0 (by rw [← ew]; exact r2)), w2⟩
  · by_cases hs : ct_i c 1 = 115
    · obtain ⟨h0, r0, F0⟩ := sp_strongest (g := g) (d := d + 2) hL q.1 q.2.1 h7 q.2.2.2.2.2
      obtain ⟨h2, M2, r2, w2⟩ := tail h0 (.inl none, h0) (hh_F_w F0 (by decide)) r0.2
      have ew : ct_who c n = ct_bySt c n := by rw [ct_who, if_neg hr, if_pos hs]
      exact ⟨h2, hh_M_tr (hh_M_F F0 (by decide)) M2, sg_X8_holdVote_0 hL (fun _ => sg_X8_holdVote_27 hL (fun z => absurd (by rw [e7]; exact hs) z) (fun _ => sg_X8_holdVote_39 hL (d := d + 6) r0 (by rw [← ew]; exact r2))) (fun z => absurd (by rw [e7] at z; exact z) hr), w2⟩
    · have r0 := sp_mostPoints (g := g) (d := d + 3) hL q.1 q.2.1 h7
      obtain ⟨h2, M2, r2, w2⟩ := tail h (.inl none, h) hh_F_rf hL
      have ew : ct_who c n = ct_byPts c n := by rw [ct_who, if_neg hr, if_neg hs]
      exact ⟨h2, M2, sg_X8_holdVote_0 hL (fun _ => sg_X8_holdVote_27 hL (fun _ => sg_X8_holdVote_54 hL (d := d + 6) r0 (by rw [← ew]; exact r2)) (fun z => absurd (by rw [e7] at z; exact z) hs)) (fun z => absurd (by rw [e7] at z; exact z) hr), w2⟩
theorem ct_vote_ok (ok : ct_ok c) : ∀ z ∈ ct_ve (ct_vote c n), tr_ch z := by
  have e : ct_ve (ct_vote c n) = ct_shift (ct_ve c) (ct_verd c n) := by
    unfold ct_vote ct_conc
    split <;> rfl
  rw [e]
  intro z hz
  rcases List.mem_cons.mp (List.mem_of_mem_take hz) with rfl | hz
  · unfold ct_verd
    split
    · exact ⟨by decide, by decide⟩
    · exact tr_chc _
  · exact ok.2.1 z hz
def do_delib (c : CT) (P : List CT) (y : YS) (n : Nat) : (Int32 ⊕ Nat) × CT × List CT × YS := if n = 0 then (.inr 2, c, P, (4, ct_mir c, y.2.2)) else (.inl ((ct_ve (ct_vote c n)).getD 0 0), ct_vote c n, hi_push P c, y)
theorem op_delib (hL : hh_L h) (w : CI h c P S y l t) (q : cQ h c n) : ∃ h', hh_M 0 0 h h' ∧ tr_L g (d + 12) m_X8_deliberate 0 [some (.ref 1000)] [] h (ro (do_delib c P y n).1 h') ∧ CI h' (do_delib c P y n).2.1 (do_delib c P y n).2.2.1 S (do_delib c P y n).2.2.2 l t := by
  have e6 : hh_i h 1 6 = Int32.ofNat n := by rw [← q.2.1]; exact cq_i q (k := 0) (by omega)
  have h7 := q.2.2.1
  unfold do_delib
  by_cases hn : n = 0
  · simp only [if_pos hn]
    have r1 := sp_countMirrors (g := g) (d := d + 11) hL q.1
    obtain ⟨h2, s2, F2, w2⟩ := sp_rejc (g := g) (d := d + 11) (x1 := 4) (x2 := ct_mir c) hL w
    exact ⟨h2, hh_M_F F2 (by decide), sg_X8_deliberate_0 hL (fun z => absurd (by rw [e6, hn]; rfl) z) (fun _ => sg_X8_deliberate_10 hL (d := d + 11) r1 s2 rfl), w2⟩
  · simp only [if_neg hn]
    obtain ⟨h1, s1, M1, w1⟩ := sp_keepc (g := g) (d := d + 8) hL w q.2.2.2.1
    obtain ⟨h2, M2, s2, w2⟩ := sp_hold (g := g) (d := d + 4) s1.2 w1 (CI_q w1 q) (by omega)
    have e0 : hh_a h2 7 = ct_ve (ct_vote c n) := by rw [← w2.1]; rfl
    have ok2 := ct_vote_ok (n := n) q.2.2.2.1
    have r3 : tr_L g (d + 11) m_X8_at_ 0 [some (.ref 1007), some (.int 0)] [] h2 (.inl (some (.int ((ct_ve (ct_vote c n)).getD 0 0))), h2) := by
      rw [← e0]
      exact sp_atcL (a := 7) (k := 0) s2.2 rfl (by omega) (by omega) (by rw [e0]; exact ok2)
    exact ⟨h2, hh_M_tr M1 M2, sg_X8_deliberate_0 hL (fun _ => sg_X8_deliberate_33 hL (d := d + 11) s1 s2 r3 (gD_ch ok2 0) rfl) (fun z => absurd ((ii_eq (b := 0) (by omega) (by omega)).mp (by rw [e6] at z; exact z)) hn), w2⟩
def do_retry (c : CT) (P : List CT) (y : YS) (n : Nat) : (Int32 ⊕ Nat) × CT × List CT × YS := if ct_may c = 0 then (.inr 2, c, P, (5, ct_i c 2, y.2.2)) else (.inl (ct_chgd c n), ct_again c n, hi_push P c, y)
theorem op_retry (hL : hh_L h) (w : CI h c P S y l t) (q : cQ h c n) : ∃ h', hh_M 0 0 h h' ∧ tr_L g (d + 12) m_X8_retry 0 [some (.ref 1000)] [] h (ro (do_retry c P y n).1 h') ∧ CI h' (do_retry c P y n).2.1 (do_retry c P y n).2.2.1 S (do_retry c P y n).2.2.2 l t := by
  have e8 : hh_i h 1 8 = ct_i c 2 := cq_i q (k := 2) (by omega)
  have h7 := q.2.2.1
  have r1 := sp_mayRetry (g := g) (d := d + 10) hL q.1 q.2.2.2.1.2.1
  unfold do_retry
  by_cases hn : ct_may c = 0
  · simp only [if_pos hn]
    obtain ⟨h2, s2, F2, w2⟩ := sp_rejc (g := g) (d := d + 11) (x1 := 5) (x2 := ct_i c 2) hL w
    exact ⟨h2, hh_M_F F2 (by decide), sg_X8_retry_0 hL (d := d + 11) r1 (fun z => absurd hn z) (fun _ => sg_X8_retry_10 hL (d := d + 11) (by rw [e8]; exact s2) rfl), w2⟩
  · simp only [if_neg hn]
    obtain ⟨h1, s1, M1, w1⟩ := sp_keepc (g := g) (d := d + 8) hL w q.2.2.2.1
    obtain ⟨h2, s2, F2, c2⟩ := sp_startAgain (g := g) (d := d + 8) s1.2 w1.1 q.2.1 h7
    exact ⟨h2, hh_M_tr M1 (hh_M_F F2 kC99), sg_X8_retry_0 hL (d := d + 11) r1 (fun _ => sg_X8_retry_33 hL (d := d + 11) s1 s2 rfl) (fun z => absurd z hn), CI_c F2 c2 w1⟩
/-! undo, snapshots -/
theorem op_undo0 (hL : hh_L h) (w : CI h c [] S y l t) : tr_L g (d + 12) m_X8_undo 0 [some (.ref 1000)] [] h (ro (.inr 5) h) := by
  obtain ⟨o, hr⟩ := w.2.1
  exact sg_X8_undo_0 hL (fun z => absurd hr.2.2.2.1 z) (fun _ => sg_X8_undo_10 hL rfl)
theorem op_undo {e : CT} (hL : hh_L h) (w : CI h c (P ++ [e]) S y l t) (ok : ct_ok e) : ∃ h', hh_M 0 0 h h' ∧ tr_L g (d + 12) m_X8_undo 0 [some (.ref 1000)] [] h (ro (.inl (Int32.ofNat P.length)) h') ∧ CI h' e P S y l t := by
  obtain ⟨o, hr⟩ := w.2.1
  have h8 := hr.2.1
  rw [List.length_append, List.length_singleton] at h8
  obtain ⟨h', r1, F, r2, c2⟩ := sp_stepBack (g := g) (d := d + 8) hL ok hr
  have F1 := F
  have w' : CI h' e P S y l t := by
    obtain ⟨a1, _, ⟨a3, a4⟩, ⟨y1, y2, y3, y4⟩, a5, p, k, m, e1, e2, e3, a6, a7⟩ := w
    have nk : ∀ j, (j = 0 ∨ (8 ≤ j ∧ j < 15) ∨ 16 ≤ j) → j ∉ 15 :: kC := fun j hj hm => by simp at hm; omega
    refine ⟨c2, ⟨o, r2⟩, ⟨by rw [hh_F_i F (nk _ (by omega))]; exact a3, fun e he => by rw [cC_F F (fun j hj => nk _ (by omega))]; exact a4 e he⟩, ⟨?_, ?_, ?_, ?_⟩, sbo_F F (nk _ (by omega)) (nk _ (by omega)) (by decide) a5, p, k, m, e1, e2, e3, xs_F F (nk _ (by omega)) (nk _ (by omega)) (nk _ (by omega)) (by decide) a6, a7⟩
    all_goals rw [hh_F_i F (nk _ (by omega))]; assumption
  refine ⟨h', hh_M_F F (by decide), sg_X8_undo_0 hL (fun _ => sg_X8_undo_21 hL (d := d + 11) r1 (by rw [r2.2.2.2.1]; rfl)) (fun z => ?_), w'⟩
  rw [hr.2.2.2.1, List.length_append, List.length_singleton] at z
  exact absurd ((ii_eq (b := 0) (by omega) (by omega)).mp z) (by omega)
theorem op_save (hL : hh_L h) (w : CI h c P S y l t) (ok : ct_ok c) : ∃ h', hh_M 0 0 h h' ∧ tr_L g (d + 12) m_X8_saveSnapshot 0 [some (.ref 1000)] [] h (.inl (some (.int (ct_i c 0))), h') ∧ CI h' c P (some c) y l t := by
  obtain ⟨h1, r1, F1, c1⟩ := sp_copyFrom (g := g) (d := d + 10) hL is_court8 is_court1 (by omega) w.1 ok
  have L2 := hh_L_si (sl := 11) (x := 1) r1.2 ht0 rfl
  have F2 : hh_F [0] h1 (hh_si h1 0 0 11 1) := hh_F_si (by decide)
  obtain ⟨a1, ⟨o, a2⟩, ⟨a3, a4⟩, ⟨y1, y2, y3, y4⟩, a5, p, k, m, e1, e2, e3, a6, a7⟩ := w
  have nk : ∀ j, ((1 ≤ j ∧ j < 8) ∨ 15 ≤ j) → j ∉ [0, 8, 9, 10, 11, 12, 13, 14] := fun j hj hm => by simp at hm; omega
  have F : hh_F [0, 8, 9, 10, 11, 12, 13, 14] h (hh_si h1 0 0 11 1) := hh_F_tr (hh_F_w F1 (by decide)) (hh_F_w F2 (by decide))
  have c8 : cC (hh_si h1 0 0 11 1) 8 = c := by rw [cC_F F2 (fun j hj => by simp)]; exact c1
  have cc1 : cC (hh_si h1 0 0 11 1) 1 = c := by rw [cC_F F (fun j hj => nk _ (by omega))]; exact a1
  have ei : ∀ j, 11 ≠ j → hh_i (hh_si h1 0 0 11 1) 0 j = hh_i h 0 j := fun j hj => by rw [hh_i_sis r1.2 ht0 (by decide), if_neg hj, hh_F_i F1 (by decide)]
  have e0 : hh_i (hh_si h1 0 0 11 1) 1 6 = ct_i c 0 := by rw [← cc1]; rfl
  exact ⟨_, hh_M_F F (by decide), sg_X8_saveSnapshot_0 hL (d := d + 11) r1 (by rw [e0]), cc1, ⟨o, hi_R_F F (fun j h1 h2 => nk j (by omega)) a2⟩, ⟨by rw [hh_i_sis r1.2 ht0 (by decide), if_pos rfl]; rfl, fun e he => by injection he with he; rw [← he]; exact c8⟩, ⟨by rw [ei _ (by decide)]; exact y1, by rw [ei _ (by decide)]; exact y2, by rw [ei _ (by decide)]; exact y3, by rw [ei _ (by decide)]; exact y4⟩, sbo_F F (nk _ (by omega)) (nk _ (by omega)) (by decide) a5, p, k, m, e1, e2, e3, xs_F F (nk _ (by omega)) (nk _ (by omega)) (nk _ (by omega)) (by decide) a6, a7⟩
theorem op_rest0 (hL : hh_L h) (w : CI h c P none y l t) : tr_L g (d + 12) m_X8_restoreSnapshot 0 [some (.ref 1000)] [] h (ro (.inr 5) h) :=
  sg_X8_restoreSnapshot_0 hL (fun z => absurd w.2.2.1.1 z) (fun _ => sg_X8_restoreSnapshot_7 hL rfl)
theorem op_rest {e : CT} (hL : hh_L h) (w : CI h c P (some e) y l t) (ok : ct_ok e) : ∃ h', hh_M 0 0 h h' ∧ tr_L g (d + 12) m_X8_restoreSnapshot 0 [some (.ref 1000)] [] h (ro (.inl (ct_i e 0)) h') ∧ CI h' e [] (some e) y l t := by
  obtain ⟨a1, ⟨o, a2⟩, ⟨a3, a4⟩, ⟨y1, y2, y3, y4⟩, a5, p, k, m, e1, e2, e3, a6, a7⟩ := w
  obtain ⟨h1, r1, F1, c1⟩ := sp_copyFrom (g := g) (d := d + 10) hL is_court1 is_court8 (by omega) (a4 e rfl) ok
  have L2 := hh_L_si (sl := 2) (x := 0) r1.2 ht15 rfl
  have F2 : hh_F [15] h1 (hh_si h1 15 2 2 0) := hh_F_si (by decide)
  have nk : ∀ j, (j = 0 ∨ (8 ≤ j ∧ j < 15) ∨ 16 ≤ j) → j ∉ [1, 2, 3, 4, 5, 6, 7, 15] := fun j hj hm => by simp at hm; omega
  have F : hh_F [1, 2, 3, 4, 5, 6, 7, 15] h (hh_si h1 15 2 2 0) := hh_F_tr (hh_F_w F1 (by decide)) (hh_F_w F2 (by decide))
  have cc1 : cC (hh_si h1 15 2 2 0) 1 = e := by rw [cC_F F2 (fun j hj => by simp; omega)]; exact c1
  have e0 : hh_i (hh_si h1 15 2 2 0) 1 6 = ct_i e 0 := by rw [← cc1]; rfl
  have n11 : hh_i h 0 11 ≠ 0 := by rw [a3]; exact (by decide : (1 : Int32) ≠ 0)
  refine ⟨_, hh_M_F F (by decide), sg_X8_restoreSnapshot_0 hL (fun _ => sg_X8_restoreSnapshot_18 hL (d := d + 11) r1 (by rw [e0]; rfl)) (fun z => absurd z n11), cc1, ⟨o, a2.1, Nat.zero_le _, ?_, ?_, fun i c hi => by cases hi⟩, ⟨by rw [hh_F_i F (nk _ (by omega))]; exact a3, fun e he => by rw [cC_F F (fun j hj => nk _ (by omega))]; exact a4 e he⟩, ⟨?_, ?_, ?_, ?_⟩, sbo_F F (nk _ (by omega)) (nk _ (by omega)) (by decide) a5, p, k, m, e1, e2, e3, xs_F F (nk _ (by omega)) (nk _ (by omega)) (nk _ (by omega)) (by decide) a6, a7⟩
  · rw [hh_i_sis r1.2 ht15 (by decide), if_neg (by decide), hh_F_i F1 (by decide)]; exact a2.2.2.1
  · rw [hh_i_sis r1.2 ht15 (by decide), if_pos rfl]; rfl
  all_goals rw [hh_F_i F (nk _ (by omega))]; assumption
/-! the input -/
def do_app (t : List Int32) (x : Int32) : (Int32 ⊕ Nat) × List Int32 := if x < 32 ∨ 126 < x then (.inr 1, t) else if t.length < 60 then (.inl (Int32.ofNat (t.length + 1)), t ++ [x]) else (.inr 5, t)
theorem op_app {x : Int32} (hL : hh_L h) (w : CI h c P S y l t) : ∃ h', hh_M 1 100 h h' ∧ tr_L g (d + 12) m_X8_appendInput 0 [some (.ref 1000), some (.int x)] [] h (ro (do_app t x).1 h') ∧ CI h' c P S y l (do_app t x).2 := by
  unfold do_app
  by_cases h1 : x < 32
  · rw [if_pos (Or.inl h1)]
    exact ⟨h, hh_M_w hh_M_rf (by omega) (by omega), sg_X8_appendInput_0 hL (fun _ => sg_X8_appendInput_12 hL rfl) (fun z => absurd h1 (Int32.not_lt.mpr z)), w⟩
  · by_cases h2 : 126 < x
    · rw [if_pos (Or.inr h2)]
      exact ⟨h, hh_M_w hh_M_rf (by omega) (by omega), sg_X8_appendInput_0 hL (fun z => absurd z h1) (fun _ => sg_X8_appendInput_6 hL (fun z => absurd h2 (Int32.not_lt.mpr z)) (fun _ => sg_X8_appendInput_12 hL rfl)), w⟩
    · rw [if_neg (fun z => z.elim h1 h2)]
      obtain ⟨p, k, m, e1, e2, e3, a6, a7⟩ := w.2.2.2.2.2
      have r1 := sb_len_t (g := g) (d := d + 10) hL a6.1
      have pre : ∀ r, tr_L g (d + 12) m_X8_appendInput 23 [some (.ref 1000), some (.int x)] [] h r → tr_L g (d + 12) m_X8_appendInput 0 [some (.ref 1000), some (.int x)] [] h r := fun r z => sg_X8_appendInput_0 hL (fun z => absurd z h1) (fun _ => sg_X8_appendInput_6 hL (fun _ => z) (fun z => absurd z h2))
      have hlb : t.length < 1000 := by
        obtain ⟨_, _, _, b, _, _, _, s5, s6, _⟩ := a6.1
        omega
      by_cases hlt : t.length < 60
      · rw [if_pos hlt]
        have hx : sb_c x := by
          have h3 := Int32.not_lt.mp h1
          obtain ⟨j, hj, rfl⟩ := ii_of (Int32.le_trans (by decide : (0 : Int32) ≤ 32) h3)
          have := (ii_le (b := 126) (by omega) (by omega)).mp (Int32.not_lt.mp h2)
          exact ⟨j, by omega, rfl⟩
        obtain ⟨h2, s2, G2, b2⟩ := sb_appT (g := g) (d := d + 7) hL hx a6.1 (by omega)
        have r2 := sb_len_t (g := g) (d := d + 10) s2.2 b2
        rw [List.length_append, List.length_singleton] at r2
        have nk : ∀ j, (j < 94 ∨ 96 ≤ j) → j ∉ [94, 95] := fun j hj hm => by simp at hm; omega
        have w2 : CI h2 c P S y l (t ++ [x]) := by
          obtain ⟨a1, ⟨o, a2⟩, ⟨a3, a4⟩, ⟨y1, y2, y3, y4⟩, a5, _⟩ := w
          have ci : ∀ a, a + 6 < 94 → cC h2 a = cC h a := fun a ha => by
            simp only [cC, hh_G_a G2 (nk _ (Or.inl (show a + 1 < 94 by omega))) (show a + 1 < 99 by omega), hh_G_a G2 (nk _ (Or.inl (show a + 2 < 94 by omega))) (show a + 2 < 99 by omega), hh_G_a G2 (nk _ (Or.inl (show a + 3 < 94 by omega))) (show a + 3 < 99 by omega), hh_G_a G2 (nk _ (Or.inl (show a + 4 < 94 by omega))) (show a + 4 < 99 by omega), hh_G_a G2 (nk _ (Or.inl (show a + 5 < 94 by omega))) (show a + 5 < 99 by omega), hh_G_a G2 (nk _ (Or.inl (show a + 6 < 94 by omega))) (show a + 6 < 99 by omega), hh_G_i G2 (nk _ (Or.inl (show a < 94 by omega))) (show a < 99 by omega)]
          have ii : ∀ a sl, a < 94 → hh_i h2 a sl = hh_i h a sl := fun a sl ha => hh_G_i G2 (nk _ (Or.inl ha)) (by omega)
          have so : sbo h2 l := by
            obtain ⟨⟨o1, o2, cc, bb, o3, o4, o5, o6⟩, o7⟩ := a5
            have vv : hh_v h2 96 = hh_v h 96 := hh_G_v G2 (nk _ (by omega)) (by omega)
            have e97 : cc = 97 := by simpa using o3.symm.trans o7
            subst e97
            exact ⟨⟨by rw [sb_iv vv]; exact o1, by rw [sb_iv vv]; exact o2, 97, bb, by rw [vv]; exact o3, by rw [G2.2.2.2.1 97 (by omega) (nk _ (by omega))]; exact o4, o5, o6⟩, by rw [vv]; exact o7⟩
          obtain ⟨b0, b1, b3, b4, b5, b6, b7⟩ := a6
          refine ⟨by rw [ci 1 (by omega)]; exact a1, ⟨o, a2.1, a2.2.1, by rw [ii _ _ (by omega)]; exact a2.2.2.1, by rw [ii _ _ (by omega)]; exact a2.2.2.2.1, fun i e hi => ?_⟩, ⟨by rw [ii _ _ (by omega)]; exact a3, fun e he => by rw [ci 8 (by omega)]; exact a4 e he⟩, ⟨by rw [ii _ _ (by omega)]; exact y1, by rw [ii _ _ (by omega)]; exact y2, by rw [ii _ _ (by omega)]; exact y3, by rw [ii _ _ (by omega)]; exact y4⟩, so, p, k, m, e1, e2, e3, ⟨b2, by rw [ii _ _ (by omega)]; exact b1, by rw [ii _ _ (by omega)]; exact b3, by rw [ii _ _ (by omega)]; exact b4, by rw [ii _ _ (by omega)]; exact b5, by rw [ii _ _ (by omega)]; exact b6, by rw [ii _ _ (by omega)]; exact b7⟩, a7⟩
          rw [ci _ (by omega)]
          exact a2.2.2.2.2 i e hi
        exact ⟨h2, hh_M_G G2, pre _ (sg_X8_appendInput_23 hL (d := d + 11) r1 (fun _ => sg_X8_appendInput_49 hL (d := d + 11) (c0 := 94) s2 r2 rfl) (fun z => absurd ((ii_le (a := 60) (by omega) (by omega)).mp z) (by omega))), w2⟩
      · rw [if_neg hlt]
        exact ⟨h, hh_M_w hh_M_rf (by omega) (by omega), pre _ (sg_X8_appendInput_23 hL (d := d + 11) r1 (fun z => absurd ((ii_lt (b := 60) (by omega) (by omega)).mp z) hlt) (fun _ => sg_X8_appendInput_38 hL rfl)), w⟩
end
