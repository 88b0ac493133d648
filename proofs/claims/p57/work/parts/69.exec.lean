/-! EXECUTE: one command -/
def cmd1 (c : CT) (n : Nat) (m : Cmd) : Int32 × CT :=
  if m.1 = 0 then (if fa_X8_isCell (Int32.ofNat m.2.1) = 0 then (-1, c) else if fa_X8_areThreeOptions m.2.2.1 m.2.2.2.1 m.2.2.2.2 = 0 then (-1, c) else if n = 7 then (1, c) else if ct_cat c n (Int32.ofNat m.2.1) < n then (2, c) else (0, ct_seat c n m.2.1 (m.2.2.1 - 97) (m.2.2.2.1 - 97) (m.2.2.2.2 - 97)))
  else if m.1 = 1 then (if fa_X8_isCell (Int32.ofNat m.2.1) = 0 then (-1, c) else if ct_cat c n (Int32.ofNat m.2.1) < n then (2, c) else (0, ct_chg c m.2.1 m.2.2.1))
  else if m.1 = 2 then (if fa_X8_isPort (Int32.ofNat m.2.1) = 0 then (-1, c) else if ry_cat c n (ct_ry c m.2.1).1 = -1 then (3, c) else (0, ct_hear c (ry_cat c n (ct_ry c m.2.1).1).toNatClampNeg (m.2.2.1 - 97)))
  else if m.1 = 3 then (0, cc_in c 1 m.2.2.1)
  else if m.1 = 4 then (if n = 0 then (4, c) else (0, ct_vote c n))
  else if ct_may c = 0 then (5, c) else (0, ct_again c n)
/-- what commands may change -/
abbrev kX : List Nat := kC ++ kW ++ [93]
theorem pb_p {α β : Type} {Q : β → Prop} {m : Nat × Option α} {f : α → Nat → Nat × Option β} {x : β} (h : (pb m f).2 = some x) (hf : ∀ a p, (f a p).2 = some x → Q x) : Q x := by
  obtain ⟨m1, m2⟩ := m
  cases m2 with
  | none => cases h
  | some a => exact hf a m1 h
theorem rd_x {p : Nat} {x c : Cmd} {Q : Cmd → Prop} (h : (p, some c).2 = some x) (hq : Q c) : Q x := by
  injection h with h
  rw [← h]
  exact hq
theorem rdC_N {t : List Int32} {p : Nat} {N : Nat} (h : (tn t p).2 = some N) : N < 100 := by
  unfold tn at h
  split at h
  · cases h
  · rename_i a e1
    have := (dig_ne e1).2.2
    split at h
    · injection h with h; omega
    · rename_i b e2
      have := (dig_ne e2).2.2
      injection h with h; omega
theorem rdC_kind {t : List Int32} {p : Nat} {x : Cmd} (h : (rdC t p).2 = some x) : x.1 ≤ 5 := by
  unfold rdC at h
  split at h
  · exact pb_p (Q := fun x => x.1 ≤ 5) h (fun a r h => pb_p (Q := fun x => x.1 ≤ 5) h (fun a r h => pb_p (Q := fun x => x.1 ≤ 5) h (fun a r h => pb_p (Q := fun x => x.1 ≤ 5) h (fun a r h => rd_x (Q := fun x => x.1 ≤ 5) h (by omega)))))
  · split at h
    · refine pb_p (Q := fun x => x.1 ≤ 5) h (fun a r h => ?_)
      unfold rdM at h
      split at h
      · exact pb_p (Q := fun x => x.1 ≤ 5) h (fun a r h => pb_p (Q := fun x => x.1 ≤ 5) h (fun a r h => rd_x (Q := fun x => x.1 ≤ 5) h (by omega)))
      · exact pb_p (Q := fun x => x.1 ≤ 5) h (fun a r h => pb_p (Q := fun x => x.1 ≤ 5) h (fun a r h => pb_p (Q := fun x => x.1 ≤ 5) h (fun a r h => pb_p (Q := fun x => x.1 ≤ 5) h (fun a r h => rd_x (Q := fun x => x.1 ≤ 5) h (by omega)))))
    · split at h
      · exact pb_p (Q := fun x => x.1 ≤ 5) h (fun a r h => pb_p (Q := fun x => x.1 ≤ 5) h (fun a r h => pb_p (Q := fun x => x.1 ≤ 5) h (fun a r h => pb_p (Q := fun x => x.1 ≤ 5) h (fun a r h => rd_x (Q := fun x => x.1 ≤ 5) h (by omega)))))
      · split at h
        · exact pb_p (Q := fun x => x.1 ≤ 5) h (fun a r h => rd_x (Q := fun x => x.1 ≤ 5) h (by omega))
        · exact pb_p (Q := fun x => x.1 ≤ 5) h (fun a r h => rd_x (Q := fun x => x.1 ≤ 5) h (by omega))
section
variable {g : tr_g} {d : Nat} {h h' : ev_AH} {c : CT} {n : Nat} {P : List CT} {S : Option CT} {y : YS} {l t : List Int32}
theorem kC_X : ∀ k ∈ kC, k ∈ kX := by decide
theorem kW_X : ∀ k ∈ kW, k ∈ kX := by decide
theorem xs_X {ks : List Nat} {p : Nat} {k n a b e : Int32} (hF : hh_F ks h h') (hk : ∀ j ∈ ks, j ∈ kC ++ kW) (x : xs h t p k n a b e) : xs h' t p k n a b e :=
  xs_F hF (fun hm => absurd (hk _ hm) (by decide)) (fun hm => absurd (hk _ hm) (by decide)) (fun hm => absurd (hk _ hm) (by decide)) (fun j hj => by have := hk j hj; simp at this; omega) x
/-- as sp_hold, by frames -/
theorem sp_holdF (hL : hh_L h) (w : CI h c P S y l t) (q : cQ h c n) (h1 : 1 ≤ n) : ∃ h', hh_F (kC ++ kW) h h' ∧ tr_L g (d + 7) m_X8_holdVote 0 [some (.ref 1000), none] [] h (.inl none, h') ∧ CI h' (ct_vote c n) P S y l t := by
  have e7 : hh_i h 1 7 = ct_i c 1 := cq_i q (k := 1) (by omega)
  have h7 := q.2.2.1
  have ok := q.2.2.2.1
  have wW : ∀ {a b : ev_AH} {ks : List Nat}, hh_F ks a b → (∀ k ∈ ks, k ∈ kC ++ kW) → hh_F (kC ++ kW) a b := fun f hk => hh_F_w f hk
  have tail : ∀ (h0 : ev_AH), hh_F kW h h0 → hh_L h0 → ∃ h', hh_F (kC ++ kW) h0 h' ∧ tr_L g (d + 7) m_X8_holdVote 66 [some (.ref 1000), some (.int (Int32.ofNat (ct_who c n)))] [] h0 (.inl none, h') ∧ CI h' (ct_vote c n) P S y l t := by
    intro h0 F0 L0
    have w0 := CI_W F0 w
    have q0 := CI_q w0 q
    obtain ⟨h1, r1, F1⟩ := sp_dominates (g := g) (d := d + 3) L0 q0.1 q0.2.1 h7 q0.2.2.2.2.2 (ct_who_lt (c := c) (n := n))
    have w1 := CI_W (hh_F_w F1 (by decide)) w0
    unfold ct_vote ct_verd
    by_cases hd : ct_nd c n (ct_who c n) < 4
    · rw [if_pos hd] at r1 ⊢
      obtain ⟨h2, r2, F2, c2⟩ := sp_conclude (g := g) (d := d + 5) (v := 45) r1.2 w1.1 ⟨by decide, by decide⟩ ok.2.1
      exact ⟨h2, hh_F_tr (wW F1 (by decide)) (wW F2 (by decide)), sg_X8_holdVote_66 L0 (d := d + 6) r1 (fun _ => sg_X8_holdVote_92 r1.2 (d := d + 6) r2 rfl) (fun z => absurd rfl z), CI_c F2 c2 w1⟩
    · rw [if_neg hd] at r1 ⊢
      obtain ⟨h2, r2, F2, c2⟩ := sp_conclude (g := g) (d := d + 5) (v := fa_X8_letterOf (Int32.ofNat (ct_who c n))) r1.2 w1.1 (tr_chc _) ok.2.1
      exact ⟨h2, hh_F_tr (wW F1 (by decide)) (wW F2 (by decide)), sg_X8_holdVote_66 L0 (d := d + 6) r1 (fun z => absurd z (by decide)) (fun _ => sg_X8_holdVote_85 r1.2 (d := d + 6) (sa_X8_letterOf r1.2) r2 rfl), CI_c F2 c2 w1⟩
  by_cases hr : ct_i c 1 = 114
  · obtain ⟨h0, r0, F0, _⟩ := sp_voteInRounds (g := g) (d := d + 3) hL q.1 q.2.1 h1 h7 q.2.2.2.2.2
    obtain ⟨h2, M2, r2, w2⟩ := tail h0 (hh_F_w F0 (by decide)) r0.2
    have ew : ct_who c n = (ct_vr c n 4 15 1).1 := by rw [ct_who, if_pos hr]; rfl
    exact ⟨h2, hh_F_tr (wW F0 (by decide)) M2, sg_X8_holdVote_0 hL (fun z => absurd (by rw [e7]; exact hr) z) (fun _ => sg_X8_holdVote_12 hL (d := d + 6) r0 (by rw [← ew]; exact r2)), w2⟩
  · by_cases hs : ct_i c 1 = 115
    · obtain ⟨h0, r0, F0⟩ := sp_strongest (g := g) (d := d + 2) hL q.1 q.2.1 h7 q.2.2.2.2.2
      obtain ⟨h2, M2, r2, w2⟩ := tail h0 (hh_F_w F0 (by decide)) r0.2
      have ew : ct_who c n = ct_bySt c n := by rw [ct_who, if_neg hr, if_pos hs]
      exact ⟨h2, hh_F_tr (wW F0 (by decide)) M2, sg_X8_holdVote_0 hL (fun _ => sg_X8_holdVote_27 hL (fun z => absurd (by rw [e7]; exact hs) z) (fun _ => sg_X8_holdVote_39 hL (d := d + 6) r0 (by rw [← ew]; exact r2))) (fun z => absurd (by rw [e7] at z; exact z) hr), w2⟩
    · have r0 := sp_mostPoints (g := g) (d := d + 3) hL q.1 q.2.1 h7
      obtain ⟨h2, M2, r2, w2⟩ := tail h hh_F_rf hL
      have ew : ct_who c n = ct_byPts c n := by rw [ct_who, if_neg hr, if_neg hs]
      exact ⟨h2, M2, sg_X8_holdVote_0 hL (fun _ => sg_X8_holdVote_27 hL (fun _ => sg_X8_holdVote_54 hL (d := d + 6) r0 (by rw [← ew]; exact r2)) (fun z => absurd (by rw [e7] at z; exact z) hs)) (fun z => absurd (by rw [e7] at z; exact z) hr), w2⟩
theorem fa_cellN {N : Nat} (h : fa_X8_isCell (Int32.ofNat N) ≠ 0) (hN : N < 100) : N < 35 := by
  rcases fa_cell (x := Int32.ofNat N) with ⟨k, hk, e, _⟩ | ⟨_, e⟩
  · have := (ii_eq (by omega) (by omega)).mp e
    omega
  · exact absurd e h
theorem fa_portN {N : Nat} (h : fa_X8_isPort (Int32.ofNat N) ≠ 0) (hN : N < 100) : N < 24 := by
  rcases fa_port (x := Int32.ofNat N) with ⟨k, hk, e, _⟩ | ⟨_, e⟩
  · have := (ii_eq (by omega) (by omega)).mp e
    omega
  · exact absurd e h
theorem sp_runCat {p N : Nat} {k a b e : Int32} (hL : hh_L h) (w : CI h c P S y l t) (q : cQ h c n) (x : xs h t p k (Int32.ofNat N) a b e) (hN : N < 100) : ∃ h', hh_F (kC ++ kW) h h' ∧ tr_L g (d + 9) m_X8_runCat 0 [some (.ref 1000), none] [] h (.inl (some (.int (cmd1 c n (0, N, a, b, e)).1)), h') ∧ CI h' (cmd1 c n (0, N, a, b, e)).2 P S y l t := by
  have h7 := q.2.2.1
  obtain ⟨x0, x1, x2, x3, x4, x5, x6⟩ := x
  have r1 := sa_X8_isCell (g := g) (d := d + 8) (x0 := Int32.ofNat N) hL
  unfold cmd1
  simp only [if_true]
  by_cases hc : fa_X8_isCell (Int32.ofNat N) = 0
  · simp only [if_pos hc]
    exact ⟨h, hh_F_rf, sg_X8_runCat_0 hL (d := d + 8) (by rw [x3]; exact r1) (fun _ => sg_X8_runCat_40 hL rfl) (fun z => absurd hc z), w⟩
  · simp only [if_neg hc]
    have hN35 := fa_cellN hc hN
    have r2 := sa_X8_areThreeOptions (g := g) (d := d + 7) (x0 := a) (x1 := b) (x2 := e) hL
    have pre : ∀ r, tr_L g (d + 9) m_X8_runCat 13 [some (.ref 1000), none] [] h r → tr_L g (d + 9) m_X8_runCat 0 [some (.ref 1000), none] [] h r := fun r z => sg_X8_runCat_0 hL (d := d + 8) (by rw [x3]; exact r1) (fun z => absurd z hc) (fun _ => z)
    by_cases h3 : fa_X8_areThreeOptions a b e = 0
    · simp only [if_pos h3]
      exact ⟨h, hh_F_rf, pre _ (sg_X8_runCat_13 hL (d := d + 8) (by rw [x4, x5, x6]; exact r2) (fun z => absurd h3 z) (fun _ => sg_X8_runCat_40 hL rfl)), w⟩
    · simp only [if_neg h3]
      have r3 := sp_reasonCat (g := g) (d := d + 5) (x := Int32.ofNat N) hL q.1 q.2.1 h7
      have pre2 : ∀ r, tr_L g (d + 9) m_X8_runCat 42 [some (.ref 1000), none] [] h r → tr_L g (d + 9) m_X8_runCat 0 [some (.ref 1000), none] [] h r := fun r z => pre _ (sg_X8_runCat_13 hL (d := d + 8) (by rw [x4, x5, x6]; exact r2) (fun _ => z) (fun z => absurd z h3))
      by_cases hn : n = 7
      · simp only [if_pos hn]
        rw [if_pos hn] at r3
        exact ⟨h, hh_F_rf, pre2 _ (sg_X8_runCat_42 hL (d := d + 8) (by rw [x3]; exact r3) (fun _ => sg_X8_runCat_96 hL rfl) (fun z => absurd z (by decide))), w⟩
      · simp only [if_neg hn]
        rw [if_neg hn] at r3
        by_cases hcc : ct_cat c n (Int32.ofNat N) < n
        · simp only [if_pos hcc]
          rw [if_pos hcc] at r3
          exact ⟨h, hh_F_rf, pre2 _ (sg_X8_runCat_42 hL (d := d + 8) (by rw [x3]; exact r3) (fun _ => sg_X8_runCat_96 hL rfl) (fun z => absurd z (by decide))), w⟩
        · simp only [if_neg hcc]
          rw [if_neg hcc] at r3
          obtain ⟨h2, s2, F2, c2⟩ := sp_seat (g := g) (d := d + 6) (x := a) (y := b) (z := e) hL w.1 q.2.1 h7 (show N < 1000 by omega)
          exact ⟨h2, hh_F_w F2 (by decide), pre2 _ (sg_X8_runCat_42 hL (d := d + 8) (by rw [x3]; exact r3) (fun z => absurd rfl z) (fun _ => sg_X8_runCat_61 hL (d := d + 8) (by rw [x3, x4, x5, x6]; exact s2) rfl)), CI_c F2 c2 w⟩
theorem sp_runMir {p N : Nat} {k a b e : Int32} (hL : hh_L h) (w : CI h c P S y l t) (q : cQ h c n) (x : xs h t p k (Int32.ofNat N) a b e) (ha : tr_ch a) (hN : N < 100) (u v : Int32) : ∃ h', hh_F (kC ++ kW) h h' ∧ tr_L g (d + 9) m_X8_runMirror 0 [some (.ref 1000), none] [] h (.inl (some (.int (cmd1 c n (1, N, a, u, v)).1)), h') ∧ CI h' (cmd1 c n (1, N, a, u, v)).2 P S y l t := by
  have h7 := q.2.2.1
  obtain ⟨x0, x1, x2, x3, x4, x5, x6⟩ := x
  have r1 := sa_X8_isCell (g := g) (d := d + 8) (x0 := Int32.ofNat N) hL
  unfold cmd1
  simp only [show ¬ (1 : Nat) = 0 by decide, if_false, if_true]
  by_cases hc : fa_X8_isCell (Int32.ofNat N) = 0
  · simp only [if_pos hc]
    exact ⟨h, hh_F_rf, sg_X8_runMirror_0 hL (d := d + 8) (by rw [x3]; exact r1) (fun z => absurd hc z) (fun _ => sg_X8_runMirror_13 hL rfl), w⟩
  · simp only [if_neg hc]
    have hN35 := fa_cellN hc hN
    have r3 := sp_reasonMirror (g := g) (d := d + 6) (x := Int32.ofNat N) hL q.1 q.2.1 h7
    have pre : ∀ r, tr_L g (d + 9) m_X8_runMirror 15 [some (.ref 1000), none] [] h r → tr_L g (d + 9) m_X8_runMirror 0 [some (.ref 1000), none] [] h r := fun r z => sg_X8_runMirror_0 hL (d := d + 8) (by rw [x3]; exact r1) (fun _ => z) (fun z => absurd z hc)
    by_cases hcc : ct_cat c n (Int32.ofNat N) < n
    · simp only [if_pos hcc]
      rw [if_pos hcc] at r3
      exact ⟨h, hh_F_rf, pre _ (sg_X8_runMirror_15 hL (d := d + 8) (by rw [x3]; exact r3) (fun _ => sg_X8_runMirror_55 hL rfl) (fun z => absurd z (by decide))), w⟩
    · simp only [if_neg hcc]
      rw [if_neg hcc] at r3
      obtain ⟨h2, s2, F2, c2⟩ := sp_change (g := g) (d := d + 7) (x := a) hL w.1 (show N < 1000 by omega) ha q.2.2.2.1.1
      exact ⟨h2, hh_F_w F2 (by decide), pre _ (sg_X8_runMirror_15 hL (d := d + 8) (by rw [x3]; exact r3) (fun z => absurd rfl z) (fun _ => sg_X8_runMirror_34 hL (d := d + 8) (by rw [x3, x4]; exact s2) rfl)), CI_c F2 c2 w⟩
theorem sp_runSay {p N : Nat} {k a b e : Int32} (hL : hh_L h) (w : CI h c P S y l t) (q : cQ h c n) (x : xs h t p k (Int32.ofNat N) a b e) (hN : N < 100) (u v : Int32) : ∃ h', hh_F (kC ++ kW) h h' ∧ tr_L g (d + 9) m_X8_runSay 0 [some (.ref 1000)] [] h (.inl (some (.int (cmd1 c n (2, N, a, u, v)).1)), h') ∧ CI h' (cmd1 c n (2, N, a, u, v)).2 P S y l t := by
  have h7 := q.2.2.1
  have xx := x
  obtain ⟨x0, x1, x2, x3, x4, x5, x6⟩ := x
  have r1 := sa_X8_isPort (g := g) (d := d + 8) (x0 := Int32.ofNat N) hL
  unfold cmd1
  simp only [show ¬ (2 : Nat) = 0 by decide, show ¬ (2 : Nat) = 1 by decide, if_false, if_true]
  by_cases hc : fa_X8_isPort (Int32.ofNat N) = 0
  · simp only [if_pos hc]
    exact ⟨h, hh_F_rf, sg_X8_runSay_0 hL (d := d + 8) (by rw [x3]; exact r1) (fun z => absurd hc z) (fun _ => sg_X8_runSay_13 hL rfl), w⟩
  · simp only [if_neg hc]
    have hp24 := fa_portN hc hN
    have pre : ∀ r, tr_L g (d + 9) m_X8_runSay 15 [some (.ref 1000)] [] h r → tr_L g (d + 9) m_X8_runSay 0 [some (.ref 1000)] [] h r := fun r z => sg_X8_runSay_0 hL (d := d + 8) (by rw [x3]; exact r1) (fun _ => z) (fun z => absurd z hc)
    obtain ⟨h1, s1, L1, F1, z0, z1, z2, z3⟩ := sp_follow (g := g) (d := d + 6) hL q.1 q.2.1 h7 q.2.2.2.1.1 hp24
    have w1 := CI_W (hh_F_w F1 (by decide)) w
    by_cases hx : ry_cat c n (ct_ry c N).1 = -1
    · simp only [if_pos hx]
      exact ⟨h1, hh_F_w F1 (by decide), pre _ (sg_X8_runSay_15 hL (d := d + 8) (by rw [x3]; exact s1) (fun z => by rw [z1] at z; exact absurd hx z) (fun _ => sg_X8_runSay_44 L1 rfl)), w1⟩
    · simp only [if_neg hx]
      obtain ⟨kk, hk, ek⟩ := ry_cat_lt hx
      obtain ⟨h3, s3, F3, c3⟩ := sp_hear (g := g) (d := d + 6) (k := kk) (o := a - 97) L1 w1.1 (by omega)
      have e4 : hh_i h1 93 4 = a := by rw [hh_F_i F1 (by decide)]; exact x4
      have s4 := sa_X8_indexOf (g := g) (d := d + 8) (x0 := a) L1
      rw [ek, ii_cn (by omega)]
      exact ⟨h3, hh_F_tr (hh_F_w F1 (by decide)) (hh_F_w F3 (by decide)), pre _ (sg_X8_runSay_15 hL (d := d + 8) (by rw [x3]; exact s1) (fun _ => sg_X8_runSay_46 L1 (d := d + 8) (by rw [e4]; exact s4) (by rw [z1, ek]; exact s3) rfl) (fun z => by rw [z1] at z; exact absurd z hx)), CI_c F3 c3 w1⟩
end
