/-! THE LAW: questions; all is well; laid by a program (wip/p57/gen/gen9r.py) -/
section
variable {g : tr_g} {d : Nat} {h h1 : ev_AH} {c : CT} {n B : Nat} {P : List CT} {S : Option CT}
theorem st_cn (s : st h c P S B) : cQ h c (cn c) ∧ cv c (cn c) B := by
  obtain ⟨hL, y, l, n, w, q, p1, p2⟩ := s
  have q' := cv_n q
  exact ⟨⟨w.1, q'.1.1⟩, q'⟩
theorem st_W (s : st h c P S B) (F : hh_F kW h h1) (hL1 : hh_L h1) : st h1 c P S B := by
  obtain ⟨hL, y, l, n, w, z⟩ := s
  exact ⟨hL1, y, l, n, CI_W F w, z⟩
theorem st_ro {A : Int32 ⊕ Nat} (s : st h c P S B) : st (ro A h).2 c P S B := by
  obtain ⟨hL, y, l, n, w, z⟩ := s
  cases A with
  | inl v => exact ⟨hL, y, l, n, w, z⟩
  | inr E => exact ⟨hL, y, l, n, CI_x w, z⟩
theorem qy_rayEnd {x : Int32} (s : st h c P S B) : ∃ h2, tr_L g (d + 13) m_L_rayEnd 0 [some (.ref 1000), some (.int x), none] [] h (.inl (some (.int (wv (an_rayEnd c x) cd_rayEnd))), h2) ∧ hh_M 1 6 h h2 ∧ st h2 c P S B := by
  have q := (st_cn s).1
  obtain ⟨h1, F, r⟩ := op_rayEnd (g := g) (d := d) (x := x) s.1 q
  exact ⟨_, wr_rayEnd s.1 r (fun E => ax_rayEnd), ro_M (hh_M_F F kW99), st_ro (st_W s F (ro_L r.2))⟩
theorem qy_rayCat {x : Int32} (s : st h c P S B) : ∃ h2, tr_L g (d + 13) m_L_rayCat 0 [some (.ref 1000), some (.int x), none] [] h (.inl (some (.int (wv (an_rayCat c (cn c) x) cd_rayCat))), h2) ∧ hh_M 1 6 h h2 ∧ st h2 c P S B := by
  have q := (st_cn s).1
  obtain ⟨h1, F, r⟩ := op_rayCat (g := g) (d := d) (x := x) s.1 q
  exact ⟨_, wr_rayCat s.1 r (fun E => ax_rayCat), ro_M (hh_M_F F kW99), st_ro (st_W s F (ro_L r.2))⟩
theorem qy_rayEndByJoining {x : Int32} (s : st h c P S B) : ∃ h2, tr_L g (d + 13) m_L_rayEndByJoining 0 [some (.ref 1000), some (.int x), none] [] h (.inl (some (.int (wv (an_rayJoin c x) cd_rayEndByJoining))), h2) ∧ hh_M 1 6 h h2 ∧ st h2 c P S B := by
  have q := (st_cn s).1
  obtain ⟨h1, F, r⟩ := op_rayJoin (g := g) (d := d) (x := x) s.1 q
  exact ⟨_, wr_rayEndByJoining s.1 r (fun E => ax_rayJoin), ro_M (hh_M_F F kW99), st_ro (st_W s F (ro_L r.2))⟩
theorem qy_leastEffort {x y : Int32} (s : st h c P S B) : ∃ h2, tr_L g (d + 13) m_L_leastEffort 0 [some (.ref 1000), some (.int x), some (.int y), none] [] h (.inl (some (.int (wv (an_effort ef_Q c (cn c) x y) cd_leastEffort))), h2) ∧ hh_M 1 6 h h2 ∧ st h2 c P S B := by
  have q := (st_cn s).1
  obtain ⟨h1, F, r⟩ := op_effortQ (g := g) (d := d) (x := x) (y := y) s.1 q
  exact ⟨_, wr_leastEffort s.1 r (fun E => ax_effort), ro_M (hh_M_F F kW99), st_ro (st_W s F (ro_L r.2))⟩
theorem qy_leastEffortByRounds {x y : Int32} (s : st h c P S B) : ∃ h2, tr_L g (d + 13) m_L_leastEffortByRounds 0 [some (.ref 1000), some (.int x), some (.int y), none] [] h (.inl (some (.int (wv (an_effort ef_L c (cn c) x y) cd_leastEffortByRounds))), h2) ∧ hh_M 1 6 h h2 ∧ st h2 c P S B := by
  have q := (st_cn s).1
  obtain ⟨h1, F, r⟩ := op_effortL (g := g) (d := d) (x := x) (y := y) s.1 q
  exact ⟨_, wr_leastEffortByRounds s.1 r (fun E => ax_effort), ro_M (hh_M_F F kW99), st_ro (st_W s F (ro_L r.2))⟩
theorem qy_portByLength {x : Int32} (s : st h c P S B) : ∃ h2, tr_L g (d + 13) m_L_portByLength 0 [some (.ref 1000), some (.int x), none] [] h (.inl (some (.int (wv (an_portBy c x) cd_portByLength))), h2) ∧ hh_M 1 6 h h2 ∧ st h2 c P S B := by
  have q := (st_cn s).1
  obtain ⟨h1, F, r⟩ := op_portBy (g := g) (d := d) (x := x) s.1 q
  exact ⟨_, wr_portByLength s.1 r (fun E => ax_portBy), ro_M (hh_M_F F kW99), st_ro (st_W s F (ro_L r.2))⟩
theorem qy_catByHeard {x : Int32} (s : st h c P S B) : ∃ h2, tr_L g (d + 13) m_L_catByHeard 0 [some (.ref 1000), some (.int x), none] [] h (.inl (some (.int (wv (an_catBy c (cn c) x) cd_catByHeard))), h2) ∧ hh_M 1 6 h h2 ∧ st h2 c P S B := by
  have q := (st_cn s).1
  have r := op_catBy (g := g) (d := d) (x := x) s.1 q
  exact ⟨_, wr_catByHeard s.1 r (fun E => ax_catBy), ro_M hh_M_rf, st_ro s⟩
theorem qy_strengthWinner (s : st h c P S B) : ∃ h2, tr_L g (d + 13) m_L_winner 0 [some (.ref 1000), some (.int 115), none] [] h (.inl (some (.int (wv (an_win ct_bySt c (cn c)) cd_winner))), h2) ∧ hh_M 1 6 h h2 ∧ st h2 c P S B := by
  have q := (st_cn s).1
  obtain ⟨h1, F, r⟩ := op_strengthWinner (g := g) (d := d) s.1 q
  exact ⟨_, wr_strengthWinner s.1 r (fun E => ax_win), ro_M (hh_M_F F kW99), st_ro (st_W s F (ro_L r.2))⟩
theorem qy_roundsWinner (s : st h c P S B) : ∃ h2, tr_L g (d + 13) m_L_winner 0 [some (.ref 1000), some (.int 114), none] [] h (.inl (some (.int (wv (an_win ct_vrW c (cn c)) cd_winner))), h2) ∧ hh_M 1 6 h h2 ∧ st h2 c P S B := by
  have q := (st_cn s).1
  obtain ⟨h1, F, r⟩ := op_roundsWinner (g := g) (d := d) s.1 q
  exact ⟨_, wr_roundsWinner s.1 r (fun E => ax_win), ro_M (hh_M_F F kW99), st_ro (st_W s F (ro_L r.2))⟩
theorem qy_rayLength {x : Int32} {v : Int32} (e : an_rayLength c x = .inl v) (s : st h c P S B) : ∃ h2, tr_L g (d + 12) m_X8_rayLength 0 [some (.ref 1000), some (.int x)] [] h (.inl (some (.int v)), h2) ∧ hh_M 0 0 h h2 ∧ st h2 c P S B := by
  have q := (st_cn s).1
  obtain ⟨h1, F, r⟩ := op_rayLength (g := g) (d := d) (x := x) s.1 q
  rw [e] at r
  exact ⟨h1, r, hh_M_F F kW99, st_W s F r.2⟩
theorem qy_rayBounces {x : Int32} {v : Int32} (e : an_rayBounces c x = .inl v) (s : st h c P S B) : ∃ h2, tr_L g (d + 12) m_X8_rayBounces 0 [some (.ref 1000), some (.int x)] [] h (.inl (some (.int v)), h2) ∧ hh_M 0 0 h h2 ∧ st h2 c P S B := by
  have q := (st_cn s).1
  obtain ⟨h1, F, r⟩ := op_rayBounces (g := g) (d := d) (x := x) s.1 q
  rw [e] at r
  exact ⟨h1, r, hh_M_F F kW99, st_W s F r.2⟩
theorem qy_strengthOf {x y : Int32} {v : Int32} (e : an_strength c (cn c) x y = .inl v) (s : st h c P S B) : ∃ h2, tr_L g (d + 12) m_X8_strengthOf 0 [some (.ref 1000), some (.int x), some (.int y)] [] h (.inl (some (.int v)), h2) ∧ hh_M 0 0 h h2 ∧ st h2 c P S B := by
  have q := (st_cn s).1
  obtain ⟨h1, F, r⟩ := op_strength (g := g) (d := d) (x := x) (y := y) s.1 q
  rw [e] at r
  exact ⟨h1, r, hh_M_F F kW99, st_W s F r.2⟩
theorem qy_strengthByTrying {x y : Int32} {v : Int32} (e : an_tried c (cn c) x y = .inl v) (s : st h c P S B) : ∃ h2, tr_L g (d + 12) m_X8_strengthByTrying 0 [some (.ref 1000), some (.int x), some (.int y)] [] h (.inl (some (.int v)), h2) ∧ hh_M 0 0 h h2 ∧ st h2 c P S B := by
  have q := (st_cn s).1
  obtain ⟨h1, F, r⟩ := op_tried (g := g) (d := d) (x := x) (y := y) s.1 q
  rw [e] at r
  exact ⟨h1, r, hh_M_F F kW99, st_W s F r.2⟩
theorem qy_prefer {x y : Int32} {v : Int32} (e : an_prefer c (cn c) x y = .inl v) (s : st h c P S B) : ∃ h2, tr_L g (d + 12) m_X8_prefer 0 [some (.ref 1000), some (.int x), some (.int y)] [] h (.inl (some (.int v)), h2) ∧ hh_M 0 0 h h2 ∧ st h2 c P S B := by
  have q := (st_cn s).1
  obtain ⟨h1, F, r⟩ := op_prefer (g := g) (d := d) (x := x) (y := y) s.1 q
  rw [e] at r
  exact ⟨h1, r, hh_M_F F kW99, st_W s F r.2⟩
theorem qy_isDominant {x : Int32} {v : Int32} (e : an_dominant c (cn c) x = .inl v) (s : st h c P S B) : ∃ h2, tr_L g (d + 12) m_X8_isDominant 0 [some (.ref 1000), some (.int x)] [] h (.inl (some (.int v)), h2) ∧ hh_M 0 0 h h2 ∧ st h2 c P S B := by
  have q := (st_cn s).1
  obtain ⟨h1, F, r⟩ := op_dominant (g := g) (d := d) (x := x) s.1 q
  rw [e] at r
  exact ⟨h1, r, hh_M_F F kW99, st_W s F r.2⟩
theorem sp_likes {a b : Nat} (s : st h c P S B) (ha : a < 4) (hb : b < 4) : tr_L g (d + 13) m_L_likes 0 [some (.ref 1000), some (.int (Int32.ofNat (97 + a))), some (.int (Int32.ofNat (97 + b))), none, none] [] h (.inl (some (.int (ct_lk c (cn c) a b))), h) := by
  obtain ⟨q, -⟩ := st_cn s
  have h7 := q.2.2.1
  have rc := op_catCount (g := g) (d := d + 12) s.1 q
  rw [q.2.1] at rc
  have key : ∀ j k, k + j = cn c → tr_L g (d + 13) m_L_likes 5 [some (.ref 1000), some (.int (Int32.ofNat (97 + a))), some (.int (Int32.ofNat (97 + b))), some (.int (ct_lk c k a b)), some (.int (Int32.ofNat k))] [] h (.inl (some (.int (ct_lk c (cn c) a b))), h) := by
    intro j
    induction j with
    | zero =>
      intro k hk
      have e : k = cn c := by omega
      rw [e]
      exact sg_L_likes_5 s.1 (c_0 := rc) (fun _ => sg_L_likes_45 s.1 rfl) (fun t => absurd t Int32.lt_irrefl)
    | succ j ih =>
      intro k hk
      have r1 := op_placeOf (g := g) (d := d) (x := Int32.ofNat k) (y := Int32.ofNat (97 + a)) s.1 q
      rw [e_placeOf h7 (by omega) ha] at r1
      have r2 := op_placeOf (g := g) (d := d) (x := Int32.ofNat k) (y := Int32.ofNat (97 + b)) s.1 q
      rw [e_placeOf h7 (by omega) hb] at r2
      have l1 := ct_pl_le (c := c) (k := k) (x := Int32.ofNat a)
      have l2 := ct_pl_le (c := c) (k := k) (x := Int32.ofNat b)
      have nx := ih (k + 1) (by omega)
      have e1 : ct_lk c (k + 1) a b = ct_lk c k a b + (if ct_pl c k (Int32.ofNat a) < ct_pl c k (Int32.ofNat b) then 1 else 0) := rfl
      rw [e1] at nx
      refine sg_L_likes_5 s.1 (c_0 := rc) (fun t => absurd ((ii_le (by omega) (by omega)).mp t) (by omega)) (fun _ => ?_)
      by_cases hlt : ct_pl c k (Int32.ofNat a) < ct_pl c k (Int32.ofNat b)
      · rw [if_pos hlt] at nx
        exact sg_L_likes_14 s.1 (c_0 := r1) (c_1 := r2) (fun t => absurd ((ii_le (by omega) (by omega)).mp t) (by omega)) (fun _ => sg_L_likes_32 s.1 (by rw [ii_s]; exact nx))
      · rw [if_neg hlt] at nx
        exact sg_L_likes_14 s.1 (c_0 := r1) (c_1 := r2) (fun _ => sg_L_likes_36 s.1 (by rw [ii_s]; exact nx)) (fun t => absurd ((ii_lt (by omega) (by omega)).mp t) (by omega))
  exact sg_L_likes_0 s.1 (key (cn c) 0 (by omega))
/-! the cats are well -/
def iw_acc (r : List Nat) : Nat → Int32
  | 0 => 0
  | j + 1 => iw_acc r j ||| (1 <<< ((fa_X8_letterOf (Int32.ofNat (r.getD j 0)) - 97) &&& 31))
theorem iw_15 : ∀ r ∈ PERMS, iw_acc r 4 = 15 := by decide +kernel
theorem iw_opt (s : st h c P S B) {x1 : Int32} {k : Nat} {w6 w7 : Option Value} (hk : k < cn c) {r : List Nat} (hr : r ∈ PERMS) (e : ∀ p, p < 4 → ct_opt c k p = Int32.ofNat (r.getD p 0)) {R : ev_O × ev_AH} (z : tr_L g (d + 14) m_L_isWell 68 [some (.ref 1000), some (.int x1), some (.int (Int32.ofNat (cn c))), some (.int (Int32.ofNat k)), some (.int 15), some (.int 4), w6, w7] [] h R) : tr_L g (d + 14) m_L_isWell 20 [some (.ref 1000), some (.int x1), some (.int (Int32.ofNat (cn c))), some (.int (Int32.ofNat k)), some (.int 0), some (.int 0), w6, w7] [] h R := by
  obtain ⟨q, -⟩ := st_cn s
  have h7 := q.2.2.1
  have key : ∀ j p, p + j = 4 → tr_L g (d + 14) m_L_isWell 20 [some (.ref 1000), some (.int x1), some (.int (Int32.ofNat (cn c))), some (.int (Int32.ofNat k)), some (.int (iw_acc r p)), some (.int (Int32.ofNat p)), w6, w7] [] h R := by
    intro j
    induction j with
    | zero =>
      intro p hp
      have e4 : p = 4 := by omega
      subst e4
      rw [iw_15 r hr]
      exact sg_L_isWell_20 s.1 (fun _ => z) (fun t => absurd t (by decide))
    | succ j ih =>
      intro p hp
      have r1 := op_optionAt (g := g) (d := d + 1) (x := Int32.ofNat k) (y := Int32.ofNat p) s.1 q
      rw [e_optionAt h7 hk (by omega), e p (by omega)] at r1
      have ho := PERMS_lt r hr p (by omega)
      have r2 := op_placeOf (g := g) (d := d + 1) (x := Int32.ofNat k) (y := fa_X8_letterOf (Int32.ofNat (r.getD p 0))) s.1 q
      have ep := opt_pl q.2.2.2.2.2 hk (show p < 4 by omega)
      rw [e p (by omega)] at ep
      rw [fa_let _ ho, e_placeOf h7 hk ho, ep, ← fa_let _ ho] at r2
      have nx := ih (p + 1) (by omega)
      refine sg_L_isWell_20 s.1 (fun t => absurd ((ii_le (a := 4) (by omega) (by omega)).mp t) (by omega)) (fun _ => ?_)
      exact sg_L_isWell_26 s.1 (c_0 := r1) (c_1 := r1) (c_2 := r2) (fun _ => sg_L_isWell_62 s.1 (by rw [ii_s]; exact nx)) (fun t => absurd rfl t)
  exact key 4 0 (by omega)
theorem iw_cats (s : st h c P S B) : ∀ (j k : Nat) (w4 w5 w6 w7 : Option Value), k + j = cn c → ∃ a4 a5 a6 a7, ∀ R, tr_L g (d + 14) m_L_isWell 118 [some (.ref 1000), some (.int (ct_heard c (cn c))), some (.int (Int32.ofNat (cn c))), some (.int (Int32.ofNat (cn c))), a4, a5, a6, a7] [] h R → tr_L g (d + 14) m_L_isWell 9 [some (.ref 1000), some (.int (ct_heard c k)), some (.int (Int32.ofNat (cn c))), some (.int (Int32.ofNat k)), w4, w5, w6, w7] [] h R := by
  obtain ⟨q, qv⟩ := st_cn s
  have h7 := q.2.2.1
  intro j
  induction j with
  | zero =>
    intro k w4 w5 w6 w7 hk
    have e : k = cn c := by omega
    rw [e]
    exact ⟨w4, w5, w6, w7, fun R z => sg_L_isWell_9 s.1 (fun _ => z) (fun t => absurd t Int32.lt_irrefl)⟩
  | succ j ih =>
    intro k w4 w5 w6 w7 hk
    have hlt : k < cn c := by omega
    obtain ⟨r, hr, e⟩ := q.2.2.2.2.2 k hlt
    obtain ⟨a4, a5, a6, a7, z⟩ := ih (k + 1) (some (.int 15)) (some (.int 4)) w6 w7 (by omega)
    refine ⟨a4, a5, a6, a7, fun R y => ?_⟩
    refine sg_L_isWell_9 s.1 (fun t => absurd ((ii_le (by omega) (by omega)).mp t) (by omega)) (fun _ => sg_L_isWell_14 s.1 (iw_opt s hlt hr e ?_))
    have r0 := op_heardBy (g := g) (d := d + 1) (x := Int32.ofNat k) s.1 q
    rw [e_heardBy h7 hlt] at r0
    have r1 := op_cellOf (g := g) (d := d + 1) (x := Int32.ofNat k) s.1 q
    rw [e_cellOf h7 hlt] at r1
    obtain ⟨c1, c2⟩ := cell_q qv.1 hlt
    have c3 := cat_at qv.1 hlt
    have ec : an_catIn c (cn c) ((ct_ce c).getD k 0) = .inl (Int32.ofNat k) := by
      unfold an_catIn
      rw [c3, if_pos hlt, c2, idx_k (by omega) c1]
    have r2 := wr_catIn s.1 (op_catIn (g := g) (d := d) (x := (ct_ce c).getD k 0) s.1 q) (fun E => ax_catIn)
    rw [ec] at r2
    have r3 := op_contentOf (g := g) (d := d + 1) (x := (ct_ce c).getD k 0) s.1 q
    have e3 : an_contentOf c ((ct_ce c).getD k 0) = .inl 99 := by
      rw [c2, e_contentOf c1]
      exact congrArg Sum.inl (cell_99 qv.1 hlt)
    rw [e3] at r3
    refine sg_L_isWell_68 s.1 (c_0 := r0) (fun t => absurd rfl t) (fun _ => ?_)
    refine sg_L_isWell_83 s.1 (c_0 := r1) (c_1 := r2) (fun t => absurd rfl t) (fun _ => ?_)
    refine sg_L_isWell_96 s.1 (c_0 := r1) (c_1 := r3) (fun _ => ?_) (fun t => absurd rfl t)
    exact sg_L_isWell_112 s.1 (by rw [ii_s]; exact z R y)
/-! the rays are well -/
theorem wv_rayEnd {p : Nat} (hp : p < 24) : wv (an_rayEnd c (Int32.ofNat p)) cd_rayEnd = if ry_ex (ct_ry c p).1 = -1 then -900002 else ry_ex (ct_ry c p).1 := by
  unfold an_rayEnd
  rw [idx_k (by omega) hp]
  simp only
  split <;> rfl
theorem wv_rayCat {p : Nat} (hp : p < 24) : wv (an_rayCat c n (Int32.ofNat p)) cd_rayCat = if ry_cat c n (ct_ry c p).1 = -1 then -900002 else ry_cat c n (ct_ry c p).1 := by
  unfold an_rayCat
  rw [idx_k (by omega) hp]
  simp only
  split <;> rfl
theorem wv_rayJoin {p : Nat} (hp : p < 24) (A : ag_R c) : wv (an_rayJoin c (Int32.ofNat p)) cd_rayEndByJoining = if ry_ex (ct_ry c p).1 = -1 then -900002 else ry_ex (ct_ry c p).1 := by
  unfold an_rayJoin
  rw [idx_k (by omega) hp, ← (A p hp).1]
  simp only
  unfold ii_o
  by_cases hj : jo (ct_c c) p < 24
  · rw [if_pos hj, if_pos hj, if_neg (ii_ne1 (by omega))]
    rfl
  · rw [if_neg hj, if_neg hj, if_pos rfl]
    rfl
theorem wv_eff {p k : Nat} (hp : p < 24) (hk : k < n) (h7 : n ≤ 7) {f : CT → Nat → Nat → Nat} {cd : Nat → Int32} (h3 : cd 3 = -900003) : wv (an_effort f c n (Int32.ofNat p) (Int32.ofNat k)) cd = if f c p k = 1000 then -900003 else Int32.ofNat (f c p k) := by
  unfold an_effort
  rw [idx_k (by omega) hp]
  simp only
  rw [idx_k (by omega) hk]
  simp only
  split
  · exact h3
  · rfl
theorem ef_le {p k : Nat} : ef_Q c p k ≤ 1000 := ei_le _ _ _
theorem iw_eff {p : Nat} (hp : p < 24) {x1 K : Int32} (hK : ∀ k, k < cn c → (K = Int32.ofNat k ↔ ef_Q c p k = 0)) : ∀ (j k : Nat) (h : ev_AH) (w4 w7 : Option Value), k + j = cn c → st h c P S B → ∃ h2 w7', hh_M (2 * j) (12 * j) h h2 ∧ st h2 c P S B ∧ ∀ R, tr_L g (d + 14) m_L_isWell 317 [some (.ref 1000), some (.int x1), some (.int (Int32.ofNat (cn c))), some (.int (Int32.ofNat p)), w4, some (.int K), some (.int (Int32.ofNat (cn c))), w7'] [] h2 R → tr_L g (d + 14) m_L_isWell 245 [some (.ref 1000), some (.int x1), some (.int (Int32.ofNat (cn c))), some (.int (Int32.ofNat p)), w4, some (.int K), some (.int (Int32.ofNat k)), w7] [] h R := by
  intro j
  induction j with
  | zero =>
    intro k h w4 w7 hk s
    have e : k = cn c := by omega
    rw [e]
    exact ⟨h, w7, hh_M_rf, s, fun R z => sg_L_isWell_245 s.1 (fun _ => z) (fun t => absurd t Int32.lt_irrefl)⟩
  | succ j ih =>
    intro k h w4 w7 hk s
    have hlt : k < cn c := by omega
    obtain ⟨q, qv⟩ := st_cn s
    have h7 := q.2.2.1
    obtain ⟨h1, r1, M1, s1⟩ := qy_leastEffort (g := g) (d := d) (x := Int32.ofNat p) (y := Int32.ofNat k) s
    obtain ⟨h2, r2, M2, s2⟩ := qy_leastEffortByRounds (g := g) (d := d) (x := Int32.ofNat p) (y := Int32.ofNat k) s1
    rw [wv_eff hp hlt h7 rfl] at r1 r2
    rw [← agE_of qv.1.1 p hp k hlt] at r2
    obtain ⟨h3, w7', M3, s3, z⟩ := ih (k + 1) h2 w4 (some (.int (if ef_Q c p k = 1000 then -900003 else Int32.ofNat (ef_Q c p k)))) (by omega) s2
    refine ⟨h3, w7', hh_M_w (hh_M_tr M1 (hh_M_tr M2 M3)) (by omega) (by omega), s3, fun R y => ?_⟩
    refine sg_L_isWell_245 s.1 (fun t => absurd ((ii_le (by omega) (by omega)).mp t) (by omega)) (fun _ => ?_)
    refine sg_L_isWell_251 s.1 (c_0 := r1) (c_1 := r2) (fun t => absurd rfl t) (fun _ => ?_)
    have le := ef_le (c := c) (p := p) (k := k)
    have nx : tr_L g (d + 14) m_L_isWell 297 [some (.ref 1000), some (.int x1), some (.int (Int32.ofNat (cn c))), some (.int (Int32.ofNat p)), w4, some (.int K), some (.int (Int32.ofNat k)), some (.int (if ef_Q c p k = 1000 then -900003 else Int32.ofNat (ef_Q c p k)))] [] h2 R := by
      have last := sg_L_isWell_311 s2.1 (by rw [ii_s]; exact z R y)
      by_cases e : ef_Q c p k = 1000
      · rw [if_pos e] at last ⊢
        exact sg_L_isWell_297 s2.1 (fun t => absurd t (by decide)) (fun _ => sg_L_isWell_302 s2.1 (fun _ => last) (fun t => absurd rfl t))
      · rw [if_neg e] at last ⊢
        exact sg_L_isWell_297 s2.1 (fun _ => last) (fun t => absurd t (Int32.not_lt.mpr (ii_nn (by omega))))
    by_cases e0 : ef_Q c p k = 0
    · have eK := (hK k hlt).mpr e0
      refine sg_L_isWell_272 s2.1 (fun t => absurd eK t) (fun _ => ?_)
      exact sg_L_isWell_279 s2.1 (fun t => absurd (by rw [e0]; rfl) t) (fun _ => sg_L_isWell_289 s2.1 (fun t => absurd rfl t) (fun _ => nx))
    · have eK : K ≠ Int32.ofNat k := fun t => e0 ((hK k hlt).mp t)
      have ne : (if ef_Q c p k = 1000 then -900003 else Int32.ofNat (ef_Q c p k)) ≠ 0 := by
        split
        · decide
        · exact fun t => e0 ((ii_eq (b := 0) (by omega) (by omega)).mp t)
      refine sg_L_isWell_272 s2.1 (fun _ => ?_) (fun t => absurd t eK)
      exact sg_L_isWell_283 s2.1 (fun _ => sg_L_isWell_293 s2.1 (fun t => absurd rfl t) (fun _ => nx)) (fun t => absurd t ne)
theorem iw_port {p : Nat} (hp : p < 24) (s : st h c P S B) {x1 : Int32} {w4 w5 w6 w7 : Option Value} : ∃ h2 w4' w5' w6' w7', hh_M 18 108 h h2 ∧ st h2 c P S B ∧ ∀ R, tr_L g (d + 14) m_L_isWell 317 [some (.ref 1000), some (.int x1), some (.int (Int32.ofNat (cn c))), some (.int (Int32.ofNat p)), w4', w5', w6', w7'] [] h2 R → tr_L g (d + 14) m_L_isWell 126 [some (.ref 1000), some (.int x1), some (.int (Int32.ofNat (cn c))), some (.int (Int32.ofNat p)), w4, w5, w6, w7] [] h R := by
  obtain ⟨q, qv⟩ := st_cn s
  have h7 := q.2.2.1
  have cw' := qv.1.2.2.1
  obtain ⟨h1, r1, M1, s1⟩ := qy_rayEnd (g := g) (d := d) (x := Int32.ofNat p) s
  obtain ⟨h2, r2, M2, s2⟩ := qy_rayCat (g := g) (d := d) (x := Int32.ofNat p) s1
  obtain ⟨h3, r3, M3, s3⟩ := qy_rayEndByJoining (g := g) (d := d) (x := Int32.ofNat p) s2
  rw [wv_rayEnd hp] at r1
  rw [wv_rayCat hp] at r2
  rw [wv_rayJoin hp (agR_of cw' h7)] at r3
  rcases ry_or cw' h7 (R_end_of cw') hp with ⟨k, hk, c1, c2⟩ | ⟨e, he, c0, c1, c2⟩
  · have ek : Int32.ofNat k ≠ -1 := ii_ne1 (by omega)
    rw [c2, if_pos rfl] at r1 r3
    rw [c1, if_neg ek] at r2
    obtain ⟨h4, w7', M4, s4, z⟩ := iw_eff (g := g) (d := d) (P := P) (S := S) (B := B) (x1 := x1) (K := Int32.ofNat k) hp (fun j hj => by rw [eff_0 qv.1 hp hj, c1]) (cn c) 0 h3 (some (.int (-900002))) w7 (by omega) s3
    refine ⟨h4, some (.int (-900002)), some (.int (Int32.ofNat k)), some (.int (Int32.ofNat (cn c))), w7', hh_M_w (hh_M_tr M1 (hh_M_tr M2 (hh_M_tr M3 M4))) (by omega) (by omega), s4, fun R y => ?_⟩
    have nx := z R y
    refine sg_L_isWell_126 s.1 (c_0 := r1) (c_1 := r2) (c_2 := r3) (fun t => absurd rfl t) (fun _ => ?_)
    refine sg_L_isWell_150 s3.1 (fun _ => ?_) (fun t => absurd t (by decide))
    refine sg_L_isWell_159 s3.1 (fun t => absurd t (Int32.not_lt.mpr (ii_nn (by omega)))) (fun _ => ?_)
    refine sg_L_isWell_165 s3.1 (fun t => absurd t (by decide)) (fun _ => ?_)
    refine sg_L_isWell_173 s3.1 (fun _ => ?_) (fun t => absurd t (by decide))
    refine sg_L_isWell_216 s3.1 (fun t => absurd t (by decide)) (fun _ => ?_)
    refine sg_L_isWell_221 s3.1 (fun t => absurd rfl t) (fun _ => ?_)
    exact sg_L_isWell_228 s3.1 (fun _ => sg_L_isWell_242 s3.1 nx) (fun t => absurd t (Int32.not_lt.mpr (ii_nn (by omega))))
  · have ek : Int32.ofNat e ≠ -1 := ii_ne1 (by omega)
    obtain ⟨_, b2, b3⟩ := ray_back2 cw' hp c0
    rw [c2, if_neg ek] at r1 r3
    rw [c1, if_pos rfl] at r2
    obtain ⟨h4, r4, M4, s4⟩ := qy_rayEnd (g := g) (d := d) (x := Int32.ofNat e) s3
    have e4 : ry_ex (ct_ry c e).1 = Int32.ofNat p := by rw [b2]; rfl
    rw [wv_rayEnd he, e4, if_neg (ii_ne1 (by omega))] at r4
    have eL : ∀ p, p < 24 → an_rayLength c (Int32.ofNat p) = .inl (Int32.ofNat (ct_ry c p).2.1) := fun p hp => by unfold an_rayLength; rw [idx_k (by omega) hp]
    have eB : ∀ p, p < 24 → an_rayBounces c (Int32.ofNat p) = .inl (Int32.ofNat (ct_ry c p).2.2) := fun p hp => by unfold an_rayBounces; rw [idx_k (by omega) hp]
    obtain ⟨h5, r5, M5, s5⟩ := qy_rayLength (g := g) (d := d + 1) (eL e he) s4
    obtain ⟨h6, r6, M6, s6⟩ := qy_rayLength (g := g) (d := d + 1) (eL p hp) s5
    obtain ⟨h8, r8, M8, s8⟩ := qy_rayBounces (g := g) (d := d + 1) (eB e he) s6
    obtain ⟨h9, r9, M9, s9⟩ := qy_rayBounces (g := g) (d := d + 1) (eB p hp) s8
    obtain ⟨hz, w7', Mz, sz, z⟩ := iw_eff (g := g) (d := d) (P := P) (S := S) (B := B) (x1 := x1) (K := -900002) hp (fun j hj => by
      rw [eff_0 qv.1 hp hj, c1]
      constructor
      · intro t
        have : (0 : Int32) ≤ -900002 := by rw [t]; exact ii_nn (by omega)
        exact absurd this (by decide)
      · intro t
        exact absurd t.symm (ii_ne1 (by omega))) (cn c) 0 h9 (some (.int (Int32.ofNat e))) w7 (by omega) s9
    refine ⟨hz, some (.int (Int32.ofNat e)), some (.int (-900002)), some (.int (Int32.ofNat (cn c))), w7', hh_M_w (hh_M_tr M1 (hh_M_tr M2 (hh_M_tr M3 (hh_M_tr M4 (hh_M_tr M5 (hh_M_tr M6 (hh_M_tr M8 (hh_M_tr M9 Mz)))))))) (by omega) (by omega), sz, fun R y => ?_⟩
    have nx := z R y
    rw [b3] at r5 r8
    refine sg_L_isWell_126 s.1 (c_0 := r1) (c_1 := r2) (c_2 := r3) (fun t => absurd rfl t) (fun _ => ?_)
    refine sg_L_isWell_150 s3.1 (fun t => absurd t (Int32.not_lt.mpr (ii_nn (by omega)))) (fun _ => ?_)
    refine sg_L_isWell_155 s3.1 (fun _ => ?_) (fun t => absurd t (by decide))
    refine sg_L_isWell_169 s3.1 (fun t => absurd t (by decide)) (fun _ => ?_)
    refine sg_L_isWell_173 s3.1 (fun t => absurd t (Int32.not_lt.mpr (ii_nn (by omega)))) (fun _ => ?_)
    refine sg_L_isWell_178 s3.1 (c_0 := r4) (fun t => absurd rfl t) (fun _ => ?_)
    refine sg_L_isWell_188 s4.1 (c_0 := r5) (c_1 := r6) (fun t => absurd rfl t) (fun _ => ?_)
    refine sg_L_isWell_202 s6.1 (c_0 := r8) (c_1 := r9) (fun t => absurd rfl t) (fun _ => ?_)
    refine sg_L_isWell_216 s9.1 (fun _ => ?_) (fun t => absurd t (Int32.not_lt.mpr (ii_nn (by omega))))
    refine sg_L_isWell_228 s9.1 (fun t => absurd t (by decide)) (fun _ => ?_)
    exact sg_L_isWell_233 s9.1 (fun _ => sg_L_isWell_242 s9.1 nx) (fun t => absurd rfl t)
theorem iw_ports {x1 : Int32} : ∀ (j p : Nat) (h : ev_AH) (w4 w5 w6 w7 : Option Value), p + j = 24 → st h c P S B → ∃ h2 w4' w5' w6' w7', hh_M (18 * j) (108 * j) h h2 ∧ st h2 c P S B ∧ ∀ R, tr_L g (d + 14) m_L_isWell 323 [some (.ref 1000), some (.int x1), some (.int (Int32.ofNat (cn c))), some (.int 24), w4', w5', w6', w7'] [] h2 R → tr_L g (d + 14) m_L_isWell 120 [some (.ref 1000), some (.int x1), some (.int (Int32.ofNat (cn c))), some (.int (Int32.ofNat p)), w4, w5, w6, w7] [] h R := by
  intro j
  induction j with
  | zero =>
    intro p h w4 w5 w6 w7 hp s
    have e : p = 24 := by omega
    subst e
    exact ⟨h, w4, w5, w6, w7, hh_M_rf, s, fun R z => sg_L_isWell_120 s.1 (fun _ => z) (fun t => absurd t (by decide))⟩
  | succ j ih =>
    intro p h w4 w5 w6 w7 hp s
    obtain ⟨h1, a4, a5, a6, a7, M1, s1, z1⟩ := iw_port (g := g) (d := d) (show p < 24 by omega) s (x1 := x1) (w4 := w4) (w5 := w5) (w6 := w6) (w7 := w7)
    obtain ⟨h2, b4, b5, b6, b7, M2, s2, z2⟩ := ih (p + 1) h1 a4 a5 a6 a7 (by omega) s1
    refine ⟨h2, b4, b5, b6, b7, hh_M_w (hh_M_tr M1 M2) (by omega) (by omega), s2, fun R y => ?_⟩
    exact sg_L_isWell_120 s.1 (fun t => absurd ((ii_le (a := 24) (by omega) (by omega)).mp t) (by omega)) (fun _ => z1 R (sg_L_isWell_317 s1.1 (by rw [ii_s]; exact z2 R y)))
/-! the votes are well -/
theorem up_let : ∀ a, a < 4 → ((Int32.ofNat (97 + a) + 1).toUInt32 % 65536).toInt32 = Int32.ofNat (97 + (a + 1)) := by decide +kernel
theorem ox2_k {a b : Nat} (ha : a < 4) (hb : b < 4) (hab : a ≠ b) : ox2 (Int32.ofNat (97 + a)) (Int32.ofNat (97 + b)) = some (a, b) := by
  rcases ox2_c (Int32.ofNat (97 + a)) (Int32.ofNat (97 + b)) with ⟨a', b', ha', hb', hn, e1, e2, e3, _⟩ | ⟨_, e⟩
  · have h1 : 97 + a = 97 + a' := (ii_eq (by omega) (by omega)).mp e1
    have h2 : 97 + b = 97 + b' := (ii_eq (by omega) (by omega)).mp e2
    rw [e3, show a' = a by omega, show b' = b by omega]
  · have key : ∀ a, a < 4 → ∀ b, b < 4 → a ≠ b → fa_pairB (Int32.ofNat (97 + a)) (Int32.ofNat (97 + b)) = true := by decide +kernel
    rw [key a ha b hb hab] at e
    cases e
/-- dominant over the first k -/
def dm (c : CT) (n a : Nat) : Nat → Int32
  | 0 => 1
  | b + 1 => if a = b then dm c n a b else if 2 * ct_lk c n a b ≤ Int32.ofNat n then dm c n a b &&& 0 else dm c n a b &&& 1
theorem dm_spec {a : Nat} : ∀ k, (dm c n a k = 1 ∧ ∀ b, b < k → b ≠ a → ¬ 2 * ct_lk c n a b ≤ Int32.ofNat n) ∨ (dm c n a k = 0 ∧ ∃ b, b < k ∧ b ≠ a ∧ 2 * ct_lk c n a b ≤ Int32.ofNat n)
  | 0 => Or.inl ⟨rfl, fun b hb => absurd hb (by omega)⟩
  | k + 1 => by
    unfold dm
    have ih := dm_spec (a := a) k
    by_cases e : a = k
    · rw [if_pos e]
      rcases ih with ⟨i1, i2⟩ | ⟨i1, b, b1, b2⟩
      · exact Or.inl ⟨i1, fun b hb hne => i2 b (by omega) hne⟩
      · exact Or.inr ⟨i1, b, by omega, b2⟩
    · rw [if_neg e]
      by_cases hle : 2 * ct_lk c n a k ≤ Int32.ofNat n
      · rw [if_pos hle]
        exact Or.inr ⟨by simp, k, by omega, Ne.symm e, hle⟩
      · rw [if_neg hle]
        rcases ih with ⟨i1, i2⟩ | ⟨i1, b, b1, b2⟩
        · refine Or.inl ⟨by rw [i1]; decide, fun b hb hne => ?_⟩
          by_cases eb : b = k
          · rw [eb]; exact hle
          · exact i2 b (by omega) hne
        · exact Or.inr ⟨by rw [i1]; decide, b, by omega, b2⟩
theorem dm_4 {a : Nat} : dm c n a 4 = if ct_nd c n a < 4 then 0 else 1 := by
  have hs := mm_find_spec (fun b => decide (b ≠ a) && decide (2 * ct_lk c n a b ≤ Int32.ofNat n)) 4
  have hnd : ct_nd c n a = mm_find (fun b => decide (b ≠ a) && decide (2 * ct_lk c n a b ≤ Int32.ofNat n)) 4 := rfl
  rcases dm_spec (c := c) (n := n) (a := a) 4 with ⟨i1, i2⟩ | ⟨i1, b, b1, b2, b3⟩
  · rw [i1, if_neg]
    intro t
    rw [hnd] at t
    have h2 := hs.1 t
    rw [Bool.and_eq_true] at h2
    exact i2 _ t (of_decide_eq_true h2.1) (of_decide_eq_true h2.2)
  · rw [i1, if_pos]
    rw [hnd]
    refine Classical.byContradiction (fun t => ?_)
    have h2 := hs.2 b (by omega)
    rw [Bool.and_eq_false_iff] at h2
    rcases h2 with h2 | h2
    · exact of_decide_eq_false h2 b2
    · exact of_decide_eq_false h2 b3
theorem iw_pair {a : Nat} (ha : a < 4) {x1 : Int32} : ∀ (j b : Nat) (h : ev_AH) (w6 w7 : Option Value), b + j = 4 → st h c P S B → ∃ h2 w6' w7', hh_M 0 0 h h2 ∧ st h2 c P S B ∧ ∀ R, tr_L g (d + 14) m_L_isWell 454 [some (.ref 1000), some (.int x1), some (.int (Int32.ofNat (cn c))), some (.int (Int32.ofNat (97 + a))), some (.int (dm c (cn c) a 4)), some (.int (Int32.ofNat 101)), w6', w7'] [] h2 R → tr_L g (d + 14) m_L_isWell 339 [some (.ref 1000), some (.int x1), some (.int (Int32.ofNat (cn c))), some (.int (Int32.ofNat (97 + a))), some (.int (dm c (cn c) a b)), some (.int (Int32.ofNat (97 + b))), w6, w7] [] h R := by
  intro j
  induction j with
  | zero =>
    intro b h w6 w7 hb s
    have e : b = 4 := by omega
    subst e
    exact ⟨h, w6, w7, hh_M_rf, s, fun R z => sg_L_isWell_339 s.1 (fun _ => z) (fun t => absurd t (by decide))⟩
  | succ j ih =>
    intro b h w6 w7 hb s
    have hb4 : b < 4 := by omega
    obtain ⟨q, qv⟩ := st_cn s
    have h7 := q.2.2.1
    have go : ∀ (h0 : ev_AH) (hL : hh_L h0) (w6 w7 : Option Value) R, tr_L g (d + 14) m_L_isWell 346 [some (.ref 1000), some (.int x1), some (.int (Int32.ofNat (cn c))), some (.int (Int32.ofNat (97 + a))), some (.int (dm c (cn c) a b)), some (.int (Int32.ofNat (97 + b))), w6, w7] [] h0 R → tr_L g (d + 14) m_L_isWell 339 [some (.ref 1000), some (.int x1), some (.int (Int32.ofNat (cn c))), some (.int (Int32.ofNat (97 + a))), some (.int (dm c (cn c) a b)), some (.int (Int32.ofNat (97 + b))), w6, w7] [] h0 R := fun h0 hL w6 w7 R z => sg_L_isWell_339 hL (fun t => absurd ((ii_lt (a := 100) (by omega) (by omega)).mp t) (by omega)) (fun _ => z)
    by_cases hab : a = b
    · obtain ⟨h2, w6', w7', M2, s2, z2⟩ := ih (b + 1) h w6 w7 (by omega) s
      refine ⟨h2, w6', w7', M2, s2, fun R y => go h s.1 _ _ R ?_⟩
      refine sg_L_isWell_346 s.1 (fun _ => sg_L_isWell_444 s.1 ?_) (fun t => absurd (by rw [hab]) t)
      rw [up_let b hb4]
      have ed : dm c (cn c) a (b + 1) = dm c (cn c) a b := by
        show (if a = b then _ else _) = _
        rw [if_pos hab]
      have := z2 R y
      rw [ed] at this
      exact this
    · have r0 := sp_likes (g := g) (d := d) s ha hb4
      have e1 : an_strength c (cn c) (Int32.ofNat (97 + a)) (Int32.ofNat (97 + b)) = .inl (tI (ct_st c (cn c)) a b) := by unfold an_strength; rw [ox2_k ha hb4 hab]
      obtain ⟨h1, r1, M1, s1⟩ := qy_strengthOf (g := g) (d := d + 1) e1 s
      have e2 : an_prefer c (cn c) (Int32.ofNat (97 + a)) (Int32.ofNat (97 + b)) = .inl (ct_lk c (cn c) a b) := by unfold an_prefer; rw [ox2_k ha hb4 hab]
      obtain ⟨h2, r2, M2, s2⟩ := qy_prefer (g := g) (d := d + 1) e2 s1
      have e3 : an_prefer c (cn c) (Int32.ofNat (97 + b)) (Int32.ofNat (97 + a)) = .inl (ct_lk c (cn c) b a) := by unfold an_prefer; rw [ox2_k hb4 ha (Ne.symm hab)]
      obtain ⟨h3, r3, M3, s3⟩ := qy_prefer (g := g) (d := d + 1) e3 s2
      have e4 : an_tried c (cn c) (Int32.ofNat (97 + a)) (Int32.ofNat (97 + b)) = .inl (tI (ct_st c (cn c)) a b) := by
        unfold an_tried
        rw [ox2_k ha hb4 hab]
        exact congrArg Sum.inl (agS_of h7 a ha b hb4 hab).symm
      obtain ⟨h4, r4, M4, s4⟩ := qy_strengthByTrying (g := g) (d := d + 1) e4 s3
      obtain ⟨h5, w6', w7', M5, s5, z5⟩ := ih (b + 1) h4 (some (.int (ct_lk c (cn c) a b))) (some (.int (tI (ct_st c (cn c)) a b))) (by omega) s4
      refine ⟨h5, w6', w7', hh_M_w (hh_M_tr M1 (hh_M_tr M2 (hh_M_tr M3 (hh_M_tr M4 M5)))) (by omega) (by omega), s5, fun R y => go h s.1 _ _ R ?_⟩
      have sum := lk_sum qv.1.1.2.2.2.2 h7 ha hb4 hab
      have nx := z5 R y
      have tail : ∀ x4, tr_L g (d + 14) m_L_isWell 444 [some (.ref 1000), some (.int x1), some (.int (Int32.ofNat (cn c))), some (.int (Int32.ofNat (97 + a))), some (.int x4), some (.int (Int32.ofNat (97 + b))), some (.int (ct_lk c (cn c) a b)), some (.int (tI (ct_st c (cn c)) a b))] [] h4 R → tr_L g (d + 14) m_L_isWell 400 [some (.ref 1000), some (.int x1), some (.int (Int32.ofNat (cn c))), some (.int (Int32.ofNat (97 + a))), some (.int x4), some (.int (Int32.ofNat (97 + b))), some (.int (ct_lk c (cn c) a b)), some (.int (tI (ct_st c (cn c)) a b))] [] h2 R := fun x4 z => by
        refine sg_L_isWell_400 s2.1 (c_0 := r3) (fun t => absurd sum t) (fun _ => ?_)
        refine sg_L_isWell_414 s3.1 (c_0 := r4) (fun t => absurd rfl t) (fun _ => ?_)
        refine sg_L_isWell_426 s4.1 (fun _ => z) (fun t => ?_)
        have e5 : Int32.ofNat (cn c) - ct_lk c (cn c) a b = ct_lk c (cn c) b a := by rw [← sum, Int32.add_comm]; exact Int32.add_sub_cancel _ _
        rw [e5] at t
        exact sg_L_isWell_435 s4.1 (fun _ => z) (fun u => absurd (st_ge h7 ha hb4 t) (Int32.not_le.mpr u))
      refine sg_L_isWell_346 s.1 (fun t => absurd ((ii_eq (by omega) (by omega)).mp t) (by omega)) (fun _ => ?_)
      refine sg_L_isWell_352 s.1 (c_0 := r0) (c_1 := r1) (fun t => ?_) (fun t => ?_)
      · have ed : dm c (cn c) a (b + 1) = dm c (cn c) a b &&& 0 := by
          show (if a = b then _ else _) = _
          rw [if_neg hab, if_pos t]
        rw [ed] at nx
        exact sg_L_isWell_384 s1.1 (c_0 := r2) (fun u => absurd rfl u) (fun _ => tail _ (sg_L_isWell_444 s4.1 (by rw [up_let b hb4]; exact nx)))
      · have ed : dm c (cn c) a (b + 1) = dm c (cn c) a b &&& 1 := by
          show (if a = b then _ else _) = _
          rw [if_neg hab, if_neg (Int32.not_le.mpr t)]
        rw [ed] at nx
        exact sg_L_isWell_380 s1.1 (c_0 := r2) (fun u => absurd rfl u) (fun _ => tail _ (sg_L_isWell_444 s4.1 (by rw [up_let b hb4]; exact nx)))
theorem dom_lt {a b : Nat} (h7 : n ≤ 7) (hP : ct_perm c n) (ha : a < 4) (hb : b < 4) (hab : b ≠ a) (h : ¬ 2 * ct_lk c n a b ≤ Int32.ofNat n) : ct_lk c n b a < ct_lk c n a b ∧ n ≠ 0 := by
  obtain ⟨x, hx, ex⟩ := lk_nat (c := c) (n := n) (a := a) (b := b)
  obtain ⟨y, hy, ey⟩ := lk_nat (c := c) (n := n) (a := b) (b := a)
  have sum := lk_sum hP h7 ha hb (Ne.symm hab)
  rw [ex, ey, ii_a] at sum
  have sum := (ii_eq (by omega) (by omega)).mp sum
  rw [ex, show (2 : Int32) * Int32.ofNat x = Int32.ofNat (2 * x) from ii_m 2 x] at h
  have h := fun t => h ((ii_le (by omega) (by omega)).mpr t)
  have h : ¬ 2 * x ≤ n := h
  rw [ex, ey]
  exact ⟨(ii_lt (by omega) (by omega)).mpr (by omega), by omega⟩
theorem iw_votes {x1 : Int32} : ∀ (j a : Nat) (h : ev_AH) (w4 w5 w6 w7 : Option Value), a + j = 4 → st h c P S B → ∃ h2 w4' w5' w6' w7', hh_M j (6 * j) h h2 ∧ st h2 c P S B ∧ ∀ R, tr_L g (d + 14) m_L_isWell 489 [some (.ref 1000), some (.int x1), some (.int (Int32.ofNat (cn c))), some (.int (Int32.ofNat 101)), w4', w5', w6', w7'] [] h2 R → tr_L g (d + 14) m_L_isWell 326 [some (.ref 1000), some (.int x1), some (.int (Int32.ofNat (cn c))), some (.int (Int32.ofNat (97 + a))), w4, w5, w6, w7] [] h R := by
  intro j
  induction j with
  | zero =>
    intro a h w4 w5 w6 w7 ha s
    have e : a = 4 := by omega
    subst e
    exact ⟨h, w4, w5, w6, w7, hh_M_rf, s, fun R z => sg_L_isWell_326 s.1 (fun _ => z) (fun t => absurd t (by decide))⟩
  | succ j ih =>
    intro a h w4 w5 w6 w7 ha s
    have ha4 : a < 4 := by omega
    obtain ⟨q, qv⟩ := st_cn s
    have h7 := q.2.2.1
    obtain ⟨h1, a6, a7, M1, s1, z1⟩ := iw_pair (g := g) (d := d) (P := P) (S := S) (B := B) ha4 (x1 := x1) 4 0 h w6 w7 (by omega) s
    have e1 : an_dominant c (cn c) (Int32.ofNat (97 + a)) = .inl (dm c (cn c) a 4) := by
      unfold an_dominant
      rw [ox_k ha4, dm_4]
    obtain ⟨h2, r2, M2, s2⟩ := qy_isDominant (g := g) (d := d + 1) e1 s1
    obtain ⟨h3, r3, M3, s3⟩ := qy_strengthWinner (g := g) (d := d) s2
    have go : ∀ R, tr_L g (d + 14) m_L_isWell 454 [some (.ref 1000), some (.int x1), some (.int (Int32.ofNat (cn c))), some (.int (Int32.ofNat (97 + a))), some (.int (dm c (cn c) a 4)), some (.int (Int32.ofNat 101)), a6, a7] [] h1 R → tr_L g (d + 14) m_L_isWell 326 [some (.ref 1000), some (.int x1), some (.int (Int32.ofNat (cn c))), some (.int (Int32.ofNat (97 + a))), w4, w5, w6, w7] [] h R := fun R z => sg_L_isWell_326 s.1 (fun t => absurd ((ii_lt (a := 100) (by omega) (by omega)).mp t) (by omega)) (fun _ => sg_L_isWell_332 s.1 (z1 R z))
    rcases dm_spec (c := c) (n := cn c) (a := a) 4 with ⟨i1, i2⟩ | ⟨i1, _⟩
    · have ne0 : cn c ≠ 0 := by
        by_cases e : a = 0
        · exact (dom_lt h7 qv.1.1.2.2.2.2 ha4 (b := 1) (by omega) (by omega) (i2 1 (by omega) (by omega))).2
        · exact (dom_lt h7 qv.1.1.2.2.2.2 ha4 (b := 0) (by omega) (by omega) (i2 0 (by omega) (by omega))).2
      have ew : ct_bySt c (cn c) = a := dom_win h7 ha4 (fun b hb hne => (dom_lt h7 qv.1.1.2.2.2.2 ha4 hb hne (i2 b hb hne)).1)
      have e3 : wv (an_win ct_bySt c (cn c)) cd_winner = Int32.ofNat (97 + a) := by
        unfold an_win
        rw [if_neg ne0, ew]
        exact fa_let a ha4
      rw [e3] at r3
      obtain ⟨h4, b4, b5, b6, b7, M4, s4, z4⟩ := ih (a + 1) h3 (some (.int (dm c (cn c) a 4))) (some (.int (Int32.ofNat 101))) a6 a7 (by omega) s3
      refine ⟨h4, b4, b5, b6, b7, hh_M_w (hh_M_tr M1 (hh_M_tr M2 (hh_M_tr M3 M4))) (by omega) (by omega), s4, fun R y => go R ?_⟩
      refine sg_L_isWell_454 s1.1 (c_0 := r2) (fun t => absurd rfl t) (fun _ => ?_)
      refine sg_L_isWell_464 s2.1 (fun t => absurd (i1.symm.trans t) (by decide)) (fun _ => ?_)
      refine sg_L_isWell_469 s2.1 (c_0 := r3) (fun _ => ?_) (fun t => absurd rfl t)
      exact sg_L_isWell_481 s3.1 (by rw [up_let a ha4]; exact z4 R y)
    · obtain ⟨h4, b4, b5, b6, b7, M4, s4, z4⟩ := ih (a + 1) h2 (some (.int (dm c (cn c) a 4))) (some (.int (Int32.ofNat 101))) a6 a7 (by omega) s2
      refine ⟨h4, b4, b5, b6, b7, hh_M_w (hh_M_tr M1 (hh_M_tr M2 M4)) (by omega) (by omega), s4, fun R y => go R ?_⟩
      refine sg_L_isWell_454 s1.1 (c_0 := r2) (fun t => absurd rfl t) (fun _ => ?_)
      exact sg_L_isWell_464 s2.1 (fun _ => sg_L_isWell_481 s2.1 (by rw [up_let a ha4]; exact z4 R y)) (fun t => absurd i1 t)
/-- all is well -/
theorem sp_isWell (s : st h c P S B) : ∃ h2, tr_L g (d + 14) m_L_isWell 0 [some (.ref 1000), none, none, none, none, none, none, none] [] h (.inl (some (.int 1)), h2) ∧ hh_M 440 2640 h h2 ∧ st h2 c P S B := by
  obtain ⟨q, qv⟩ := st_cn s
  have h7 := q.2.2.1
  have rc := op_catCount (g := g) (d := d + 13) s.1 q
  rw [q.2.1] at rc
  obtain ⟨a4, a5, a6, a7, z0⟩ := iw_cats (g := g) (d := d) s (cn c) 0 none none none none (by omega)
  obtain ⟨h1, b4, b5, b6, b7, M1, s1, z1⟩ := iw_ports (g := g) (d := d) (P := P) (S := S) (B := B) (x1 := ct_heard c (cn c)) 24 0 h a4 a5 a6 a7 (by omega) s
  obtain ⟨h2, e4, e5, e6, e7, M2, s2, z2⟩ := iw_votes (g := g) (d := d) (P := P) (S := S) (B := B) (x1 := ct_heard c (cn c)) 4 0 h1 b4 b5 b6 b7 (by omega) s1
  obtain ⟨q2, -⟩ := st_cn s2
  have rt := op_testimonies (g := g) (d := d + 13) s2.1 q2
  obtain ⟨h3, F, r3⟩ := op_consistent (g := g) (d := d) s2.1 q2 (agR_of qv.1.2.2.1 h7) (agE_of qv.1.1) (agS_of h7)
  rw [if_pos qv.2] at r3
  refine ⟨h3, ?_, hh_M_w (hh_M_tr M1 (hh_M_tr M2 (hh_M_F F kW99))) (by omega) (by omega), st_W s2 F r3.2⟩
  refine sg_L_isWell_0 s.1 (c_0 := rc) (z0 _ (sg_L_isWell_118 s.1 (z1 _ (sg_L_isWell_323 s1.1 (z2 _ ?_)))))
  exact sg_L_isWell_489 s2.1 (c_0 := rt) (fun t => absurd qv.2 t) (fun _ => sg_L_isWell_497 s2.1 (c_0 := r3) (fun t => absurd t (by decide)) (fun _ => sg_L_isWell_504 r3.2 rfl))
end
