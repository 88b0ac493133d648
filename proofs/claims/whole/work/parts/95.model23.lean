/-! THE MODEL: a vote in the making -/
def mBF (h h' : ev_AH) : Prop := hh_F [99, 105] h h' ∧ ∀ sl, sl ≠ 19 → hh_i h' 99 sl = hh_i h 99 sl
theorem mO_BF {h h1 h2 : ev_AH} {o : Int32 × Int32 × Int32 × CT} (m : mBF h h1) (b : mO h1 h2 o) : mO h h2 o := ⟨hh_F_tr (hh_F_w m.1 (by decide)) b.1, fun sl h1 h2 => (b.2.1 sl h1 h2).trans (m.2 sl (by omega)), b.2.2.1, b.2.2.2.1, b.2.2.2.2.1, fun e => by rw [b.2.2.2.2.2.1 e, hh_F_a m.1 (by decide)], b.2.2.2.2.2.2⟩
def om_vote (c : CT) (n : Nat) : Int32 × Int32 × Int32 × CT := if n = 0 then (1, 4, ct_mir c, c) else (0, 0, 0, ct_vote c n)
def sV (l : List Int32) (b : Int32) : List Int32 := (((l.set 3 (l.getD 3 0 + b)).set 2 ((l.set 3 (l.getD 3 0 + b)).getD 2 0 + 1)).set 6 1).set 7 0
theorem sV_get {l : List Int32} {b : Int32} (hl : l.length = 124) (z : Nat) : (sV l b).getD z 0 = if 7 = z then 0 else if 6 = z then 1 else if 2 = z then l.getD 2 0 + 1 else if 3 = z then l.getD 3 0 + b else l.getD z 0 := by
  unfold sV
  rw [gs (by simp; omega), gs (by simp; omega), gs (by simp; omega), gs (by omega), gs (by omega), if_neg (show ¬ 3 = 2 by omega)]
section
variable {g : tr_g} {d : Nat} {h h' : ev_AH} {c : CT} {n B : Nat}
theorem sp_winner (hL : hh_L h) (q : mQ h c n) (w : cw c n B) (hS : ex_S c n) (h1 : 1 ≤ n) : ∃ h', tr_L g (d + 5) m_X9_winner 0 [some (.ref 1099)] [] h (.inl (some (.int (Int32.ofNat (ct_who c n)))), h') ∧ mBF h h' := by
  have e0 := q.1.2.1.1
  unfold ct_who
  rcases w.2.2.2.2.2.2.2.2 with e | e | e
  · rw [e, if_neg (by decide), if_neg (by decide)]
    have r := sp_byPtsM (g := g) (d := d + 1) hL q
    exact ⟨h, sg_X9_winner_0 hL (j0 := 0) rfl (by omega) (fun t => absurd (by rw [e0, e]) t) (fun _ => sg_X9_winner_11 hL (d := d + 4) r rfl), hh_F_rf, fun _ _ => rfl⟩
  · rw [e, if_pos rfl]
    obtain ⟨h2, r2, B2, _⟩ := sp_byRounds (g := g) (d := d + 1) hL q h1
    exact ⟨h2, sg_X9_winner_0 hL (j0 := 0) rfl (by omega) (fun _ => sg_X9_winner_18 hL (j0 := 0) rfl (by omega) (fun t => absurd (by rw [e0, e]) t) (fun _ => sg_X9_winner_29 hL (d := d + 4) r2 rfl)) (fun t => by rw [e0, e] at t; exact absurd t (by decide)), hh_F_w B2.1 (by decide), B2.2⟩
  · rw [e, if_neg (by decide), if_pos rfl]
    obtain ⟨h2, r2, F2⟩ := sp_bySt (g := g) (d := d) hL q hS
    exact ⟨h2, sg_X9_winner_0 hL (j0 := 0) rfl (by omega) (fun _ => sg_X9_winner_18 hL (j0 := 0) rfl (by omega) (fun _ => sg_X9_winner_36 hL (d := d + 4) r2 rfl) (fun t => by rw [e0, e] at t; exact absurd t (by decide))) (fun t => by rw [e0, e] at t; exact absurd t (by decide)), hh_F_w F2 (by decide), fun sl _ => hh_F_i F2 (by decide)⟩
theorem verd_ch : tr_ch (ct_verd c n) := by
  unfold ct_verd
  split
  · exact ⟨by decide, by decide⟩
  · exact tr_chc _
theorem sp_votesAll (hL : hh_L h) (q : mQ h c n) (w : cw c n B) (hB : B < 100000) (hS : ex_S c n) (h12 : hh_i h 99 12 = 0) (h70 : hh_i h 99 7 = 0) : ∃ h', tr_L g (d + 6) m_X9_votesAll 0 [some (.ref 1099), none, none, none] [] h (.inl (some (.int (if n = 0 then 0 else ct_verd c n))), h') ∧ mO h h' (om_vote c n) := by
  have h7 := q.2.2.1
  have e1 := m_n q
  have rm := sp_mirM (g := g) (d := d + 5) hL q w.2.2.1
  unfold om_vote
  by_cases hn : n = 0
  · rw [if_pos hn, if_pos hn]
    have r1 := sp_rej1 (g := g) (d := d + 4) (x1 := 4) (x2 := ct_mir c) (x3 := 1) hL
    exact ⟨_, sg_X9_votesAll_0 hL (j0 := 1) rfl (by omega) (fun t => absurd (by rw [e1, hn]; rfl) t) (fun _ => sg_X9_votesAll_10 hL (d := d + 5) rm r1 (fun t => absurd t (by decide)) (fun _ => sg_X9_votesAll_27 r1.2 rfl)), mO_rej hL (mRc_n q)⟩
  · rw [if_neg hn, if_neg hn]
    have r1 := sp_rej0 (g := g) (d := d + 4) (x1 := 4) (x2 := ct_mir c) (x3 := 1) hL
    have m1 := mT_set (x := 0) hL
    have q1 := mQ_T m1 q
    obtain ⟨H, r2, W2⟩ := sp_winner (g := g) (d := d) r1.2 q1 w hS (by omega)
    have q2 := mQ_F W2.1 (by decide) q1
    have L2 := r2.2
    have r3 := tr_mono (show d + 3 ≤ d + 5 by omega) (sp_domM (g := g) (d := d) (o := ct_who c n) L2 q2 ct_who_lt)
    have ok0 : ∀ {h9 : ev_AH} {o9 : Int32 × Int32 × Int32 × CT}, mO H h9 o9 → mO h h9 o9 := fun b => mO_T m1 (mO_BF W2 b)
    have e7 : hh_i H 99 7 = 0 := by rw [W2.2 7 (by omega)]; exact m1.2.1
    have e12 : hh_i H 99 12 = 0 := by rw [W2.2 12 (by omega), m1.2.2 12 (by omega)]; exact h12
    have ls : (hh_a H 100).length = 124 := q2.1.1
    have ea := hs_a L2
    have es : ∀ l l', hh_sa (hh_sa H 100 0 l) 100 0 l' = hh_sa H 100 0 l' := fun l l' => hs_s l l'
    have eH := hs_id L2
    -- from the count of hung ones on
    have go : ∃ l, l.length = 124 ∧ (∀ z, l.getD z 0 = sConc (hh_a H 100) (ct_verd c n) z) ∧ ∀ w1 : Option Value, tr_L g (d + 6) m_X9_votesAll 101 [some (.ref 1099), w1, some (.int (ct_verd c n)), some (.int 9)] [] (hh_sa H 100 0 (sV (hh_a H 100) (if ct_verd c n = 45 then 1 else 0))) (.inl (some (.int (ct_verd c n))), hh_sa H 100 0 l) := by
      have lv : (sV (hh_a H 100) (if ct_verd c n = 45 then 1 else 0)).length = 124 := by simp [sV]; exact ls
      have gv := sV_get (b := if ct_verd c n = 45 then 1 else 0) ls
      generalize hv : sV (hh_a H 100) (if ct_verd c n = 45 then 1 else 0) = l1 at lv gv
      -- the shift
      have loop : ∀ k, k ≤ 9 → ∀ l : List Int32, l.length = 124 → (∀ z, l.getD z 0 = if 9 + k < z ∧ z ≤ 18 then l1.getD (z - 1) 0 else l1.getD z 0) → ∃ l', l'.length = 124 ∧ (∀ z, l'.getD z 0 = if 9 < z ∧ z ≤ 18 then l1.getD (z - 1) 0 else l1.getD z 0) ∧ ∀ w1 res, (∀ w3, tr_L g (d + 6) m_X9_votesAll 131 [some (.ref 1099), w1, some (.int (ct_verd c n)), w3] [] (hh_sa H 100 0 l') res) → tr_L g (d + 6) m_X9_votesAll 101 [some (.ref 1099), w1, some (.int (ct_verd c n)), some (.int (Int32.ofNat k))] [] (hh_sa H 100 0 l) res := by
        intro k
        induction k with
        | zero =>
          intro _ l hl hg
          have LL := hs_L L2 hl
          exact ⟨l, hl, hg, fun w1 res kk => sg_X9_votesAll_101 LL (fun _ => kk _) (fun t => absurd t (by decide))⟩
        | succ k ih =>
          intro hk l hl hg
          have LL := hs_L L2 hl
          obtain ⟨l', s1, s2, s3⟩ := ih (by omega) (l.set (9 + (k + 1)) (l.getD (9 + k) 0)) (by rw [List.length_set]; exact hl) (fun z => by
            rw [gs (by omega), hg, hg, if_neg (show ¬ (9 + (k + 1) < 9 + k ∧ 9 + k ≤ 18) by omega)]
            by_cases e : 9 + (k + 1) = z
            · rw [if_pos e, if_pos (by omega)]
              congr 1
              omega
            · rw [if_neg e]
              by_cases e2 : 9 + (k + 1) < z ∧ z ≤ 18
              · rw [if_pos e2, if_pos (by omega)]
              · rw [if_neg e2, if_neg (by omega)])
          refine ⟨l', s1, s2, fun w1 res kk => sg_X9_votesAll_101 LL (fun t => absurd ((ii_le (b := 0) (by omega) (by omega)).mp t) (by omega)) (fun _ => sg_X9_votesAll_105 LL (j0 := 9 + k) (j1 := 9 + (k + 1)) ?_ (by omega) ?_ (by omega) ?_)⟩
          · rw [show (9 : Int32) = Int32.ofNat 9 from rfl, ii_a, show (1 : Int32) = Int32.ofNat 1 from rfl, ii_u _ _ (by omega)]
            rfl
          · rw [show (9 : Int32) = Int32.ofNat 9 from rfl, ii_a]
          · rw [ea, es]
            have em : Int32.ofNat (k + 1) + (-1) = Int32.ofNat k := by
              rw [← ii_s, Int32.add_assoc]
              simp
            rw [em]
            exact s3 w1 res kk
      obtain ⟨l2, t1, t2, t3⟩ := loop 9 (by omega) l1 lv (fun z => by rw [if_neg (by omega)])
      have L3 := hs_L L2 t1
      have g8 : (l2.set 9 (ct_verd c n)).getD 8 0 = (hh_a H 100).getD 8 0 := by
        rw [gs (by omega), if_neg (by omega), t2, if_neg (by omega), gv, if_neg (by omega), if_neg (by omega), if_neg (by omega), if_neg (by omega)]
      have gl : ∀ x : Int32, x = (if (hh_a H 100).getD 8 0 < 10 then (hh_a H 100).getD 8 0 + 1 else (hh_a H 100).getD 8 0) → ∀ z, ((l2.set 9 (ct_verd c n)).set 8 x).getD z 0 = sConc (hh_a H 100) (ct_verd c n) z := fun x hx z => by
        rw [gs (by simp; omega), gs (by omega), t2, gv, gv]
        unfold sConc
        by_cases z8 : z = 8
        · rw [if_pos z8.symm, if_pos z8, hx]
        · rw [if_neg (fun e => z8 e.symm), if_neg z8]
          by_cases z9 : z = 9
          · rw [if_pos z9.symm, if_pos z9]
          · rw [if_neg (fun e => z9 e.symm), if_neg z9]
            by_cases zz : 10 ≤ z ∧ z ≤ 18
            · rw [if_pos (by omega), if_pos zz, if_neg (by omega), if_neg (by omega), if_neg (by omega), if_neg (by omega)]
            · rw [if_neg (by omega), if_neg zz]
              by_cases z7 : z = 7
              · rw [if_pos z7.symm, if_pos z7]
              · rw [if_neg (fun e => z7 e.symm), if_neg z7]
                by_cases z6 : z = 6
                · rw [if_pos z6.symm, if_pos z6]
                · rw [if_neg (fun e => z6 e.symm), if_neg z6]
                  by_cases z2 : z = 2
                  · rw [if_pos z2.symm, if_pos z2]
                  · rw [if_neg (fun e => z2 e.symm), if_neg z2]
                    by_cases z3 : z = 3
                    · rw [if_pos z3.symm, if_pos z3]
                    · rw [if_neg (fun e => z3 e.symm), if_neg z3]
      have L4 := hs_L (l := l2.set 9 (ct_verd c n)) L2 (by simp; exact t1)
      by_cases h10 : (hh_a H 100).getD 8 0 < 10
      · refine ⟨_, by simp; exact t1, gl _ (by rw [if_pos h10]), fun w1 => t3 w1 _ (fun w3 => sg_X9_votesAll_131 L3 (j0 := 9) (j1 := 8) (j2 := 8) rfl (by omega) rfl (by omega) rfl (by omega) (fun t => ?_) (fun t => ?_))⟩
        · rw [ea, es, ea, g8] at t
          exact absurd h10 (Int32.not_lt.mpr t)
        · simp only [ea, es]
          refine sg_X9_votesAll_159 L4 (j0 := 8) rfl (by omega) ?_
          simp only [ea, es]
          rw [g8]
      · refine ⟨_, by simp; exact t1, gl _ (by rw [if_neg h10]), fun w1 => t3 w1 _ (fun w3 => sg_X9_votesAll_131 L3 (j0 := 9) (j1 := 8) (j2 := 8) rfl (by omega) rfl (by omega) rfl (by omega) (fun t => ?_) (fun t => ?_))⟩
        · simp only [ea, es]
          refine sg_X9_votesAll_163 L4 (j0 := 8) rfl (by omega) ?_
          simp only [ea, es]
          rw [g8, Int32.add_zero]
        · rw [ea, es, ea, g8] at t
          exact absurd t h10
    obtain ⟨l, g1, g2, g3⟩ := go
    have w' := cw_conc w (verd_ch (c := c) (n := n))
    have mm := mR_conc w.2.1 h7 q2.1 (by obtain ⟨m, u, b1, b2, b3, b4⟩ := w.2.2.2.2.2.2.2.1; exact ⟨m, by omega, b3⟩) g1 g2
    refine ⟨_, sg_X9_votesAll_0 hL (j0 := 1) rfl (by omega) (fun _ => sg_X9_votesAll_14 hL (d := d + 5) rm r1 (fun _ => sg_X9_votesAll_29 r1.2 (d := d + 5) r2 r3 (fun t => ?_) (fun t => ?_)) (fun t => absurd rfl t)) (fun t => absurd ((ii_eq (b := 0) (by omega) (by omega)).mp (by rw [e1] at t; exact t)) hn), ok0 (mO_ok L2 e7 e12 (mRc_of mm w'.1.1 h7))⟩
    · have ev : ct_verd c n = 45 := by
        unfold ct_verd
        split at t
        · rename_i hd
          rw [if_pos hd]
        · exact absurd t (by decide)
      rw [ev, if_pos rfl] at g3
      rw [ev]
      refine sg_X9_votesAll_49 L2 (j0 := 3) rfl rfl (by omega) (fun t => absurd rfl t) (fun _ => sg_X9_votesAll_65 L2 (j0 := 3) (j1 := 2) (j2 := 2) (j3 := 6) (j4 := 7) rfl (by omega) rfl (by omega) rfl (by omega) rfl (by omega) rfl (by omega) ?_)
      simp only [ea, es]
      exact g3 _
    · have ev : ct_verd c n = 97 + Int32.ofNat (ct_who c n) := by
        unfold ct_verd
        split at t
        · exact absurd rfl t
        · rename_i hd
          rw [if_neg hd, fa_let _ ct_who_lt, show (97 : Int32) = Int32.ofNat 97 from rfl, ii_a]
      have nv : ct_verd c n ≠ 45 := by
        rw [ev]
        have : ∀ o, o < 4 → (97 : Int32) + Int32.ofNat o ≠ 45 := by decide +kernel
        exact this _ ct_who_lt
      rw [if_neg nv] at g3
      rw [ev] at g3 nv ⊢
      refine sg_X9_votesAll_42 L2 (j0 := 3) rfl (by omega) (fun _ => sg_X9_votesAll_69 L2 (j0 := 3) (j1 := 2) (j2 := 2) (j3 := 6) (j4 := 7) rfl (by omega) rfl (by omega) rfl (by omega) rfl (by omega) rfl (by omega) ?_) (fun t => absurd t nv)
      simp only [ea, es]
      exact g3 _
end
