/-! THE MODEL: points, likes -/
section
variable {g : tr_g} {d : Nat} {h h' : ev_AH} {c : CT} {n : Nat}
theorem ct_pl_le {k : Nat} {x : Int32} : ct_pl c k x ≤ 3 := mm_find_le _ _
theorem sp_ptsM {o : Nat} (hL : hh_L h) (q : mQ h c n) (ho : o < 4) : tr_L g (d + 2) m_X9_points 0 [some (.ref 1099), some (.int (Int32.ofNat o)), none, none] [] h (.inl (some (.int (ct_pts c n (Int32.ofNat o)))), h) := by
  have h7 := q.2.2.1
  have e1 := m_n q
  have loop : ∀ (m k : Nat), k + m = n → tr_L g (d + 2) m_X9_points 4 [some (.ref 1099), some (.int (Int32.ofNat o)), some (.int (mm_sum (fun k => 3 - Int32.ofNat (ct_pl c k (Int32.ofNat o))) k)), some (.int (Int32.ofNat k))] [] h (.inl (some (.int (ct_pts c n (Int32.ofNat o)))), h) := by
    intro m
    induction m with
    | zero =>
      intro k hk
      have : k = n := by omega
      subst this
      exact sg_X9_points_4 hL (j0 := 1) rfl (by omega) (fun _ => sg_X9_points_31 hL rfl) (fun t => by rw [e1] at t; exact absurd ((ii_lt (by omega) (by omega)).mp t) (by omega))
    | succ m ih =>
      intro k hk
      have r1 := sp_placeM (g := g) (d := d) (k := k) (o := o) hL q (by omega) ho
      have z := ih (k + 1) (by omega)
      rw [mm_sum] at z
      exact sg_X9_points_4 hL (j0 := 1) rfl (by omega) (fun t => by rw [e1] at t; exact absurd ((ii_le (by omega) (by omega)).mp t) (by omega)) (fun _ => sg_X9_points_14 hL (d := d + 1) r1 (by rw [ii_s]; exact z))
  exact sg_X9_points_0 hL (loop n 0 (by omega))
theorem sp_likes {a b : Nat} (hL : hh_L h) (q : mQ h c n) (ha : a < 4) (hb : b < 4) : tr_L g (d + 2) m_X9_likes 0 [some (.ref 1099), some (.int (Int32.ofNat a)), some (.int (Int32.ofNat b)), none, none] [] h (.inl (some (.int (ct_lk c n a b))), h) := by
  have h7 := q.2.2.1
  have e1 := m_n q
  have loop : ∀ (m k : Nat), k + m = n → tr_L g (d + 2) m_X9_likes 5 [some (.ref 1099), some (.int (Int32.ofNat a)), some (.int (Int32.ofNat b)), some (.int (mm_sum (fun k => if ct_pl c k (Int32.ofNat a) < ct_pl c k (Int32.ofNat b) then 1 else 0) k)), some (.int (Int32.ofNat k))] [] h (.inl (some (.int (ct_lk c n a b))), h) := by
    intro m
    induction m with
    | zero =>
      intro k hk
      have : k = n := by omega
      subst this
      exact sg_X9_likes_5 hL (j0 := 1) rfl (by omega) (fun _ => sg_X9_likes_47 hL rfl) (fun t => by rw [e1] at t; exact absurd ((ii_lt (by omega) (by omega)).mp t) (by omega))
    | succ m ih =>
      intro k hk
      have r1 := sp_placeM (g := g) (d := d) (k := k) (o := a) hL q (by omega) ha
      have r2 := sp_placeM (g := g) (d := d) (k := k) (o := b) hL q (by omega) hb
      have z := ih (k + 1) (by omega)
      rw [mm_sum] at z
      have la := ct_pl_le (c := c) (k := k) (x := Int32.ofNat a)
      have lb := ct_pl_le (c := c) (k := k) (x := Int32.ofNat b)
      refine sg_X9_likes_5 hL (j0 := 1) rfl (by omega) (fun t => by rw [e1] at t; exact absurd ((ii_le (by omega) (by omega)).mp t) (by omega)) (fun _ => sg_X9_likes_16 hL (d := d + 1) r1 r2 (fun t => ?_) (fun t => ?_))
      · have := (ii_le (by omega) (by omega)).mp t
        rw [if_neg (by omega)] at z
        exact sg_X9_likes_38 hL (by rw [ii_s]; exact z)
      · have := (ii_lt (by omega) (by omega)).mp t
        rw [if_pos (by omega)] at z
        exact sg_X9_likes_34 hL (by rw [ii_s]; exact z)
  exact sg_X9_likes_0 hL (loop n 0 (by omega))
theorem mo_pointsOf {x : Int32} (hL : hh_L h) (q : mQ h c n) : ∃ h', mT h h' (ans (an_pointsOf c n x) (fun _ => 1)).2 ∧ tr_L g (d + 12) m_X9_pointsOf 0 [some (.ref 1099), some (.int x)] [] h (.inl (some (.int (ans (an_pointsOf c n x) (fun _ => 1)).1)), h') := by
  have r := sa_X9_isOption (g := g) (d := d + 10) (x0 := x) hL
  rw [ix_opt] at r
  unfold an_pointsOf
  rcases ox_c x with ⟨o, ho, e5, e6⟩ | ⟨e5, e6⟩
  · rw [e6] at r ⊢
    have r1 := sp_thr0 (g := g) (d := d + 11) (x := 1) hL
    have m1 := mT_set (x := 0) hL
    have r2 := sp_ptsM (g := g) (d := d + 9) r1.2 (mQ_T m1 q) ho
    have ei : x - 97 = Int32.ofNat o := by rw [e5, ii_idx ho]
    exact ⟨_, m1, sg_X9_pointsOf_0 hL (d := d + 11) r (fun _ => sg_X9_pointsOf_12 hL (d := d + 11) r1 (fun _ => sg_X9_pointsOf_24 r1.2 (d := d + 11) (by rw [ei]; exact r2) rfl) (fun t => absurd rfl t)) (fun t => bI1 t)⟩
  · rw [e5] at r ⊢
    have r1 := sp_thr1 (g := g) (d := d + 11) (x := 1) hL
    exact ⟨_, mT_set hL, sg_X9_pointsOf_0 hL (d := d + 11) r (fun t => absurd rfl t) (fun _ => sg_X9_pointsOf_8 hL (d := d + 11) r1 (fun t => absurd t (by decide)) (fun _ => sg_X9_pointsOf_20 r1.2 rfl))⟩
theorem ix_pair {x y : Int32} : fa_X9_areOptions x y = bI (ox2 x y).isSome := by
  unfold fa_X9_areOptions
  rw [ix_opt, ix_opt]
  rcases ox2_c x y with ⟨a, b, ha, hb, hab, e1, e2, e3, e4⟩ | ⟨e3, e4⟩
  · rw [e3]
    rcases ox_c x with ⟨a', ha', f1, f2⟩ | ⟨f1, f2⟩
    · rcases ox_c y with ⟨b', hb', f3, f4⟩ | ⟨f3, f4⟩
      · rw [f2, f4]
        have nxy : x ≠ y := fun e => hab (by
          rw [e1, e2] at e
          have := (ii_eq (by omega) (by omega)).mp e
          omega)
        rw [if_neg (fun t => bI1 t), if_neg (fun t => bI1 t), if_neg nxy]
        rfl
      · exact absurd e2 (f4 b hb)
    · exact absurd e1 (f2 a ha)
  · rw [e3]
    unfold ox2 at e3
    cases hx : ox x with
    | none => exact if_pos (show bI (none : Option Nat).isSome = 0 from rfl)
    | some a =>
      cases hy : ox y with
      | none => rw [if_neg (fun t => bI1 t)]; exact if_pos (show bI (none : Option Nat).isSome = 0 from rfl)
      | some b =>
        rw [hx, hy] at e3
        rw [if_neg (fun t => bI1 t), if_neg (fun t => bI1 t)]
        by_cases hab : a = b
        · rcases ox_c x with ⟨a', ha', f1, f2⟩ | ⟨f1, f2⟩
          · rcases ox_c y with ⟨b', hb', f3, f4⟩ | ⟨f3, f4⟩
            · rw [hx] at f2
              rw [hy] at f4
              have q1 := Option.some.inj f2
              have q2 := Option.some.inj f4
              rw [if_pos (by rw [f1, f3, ← q1, ← q2, hab])]
              rfl
            · rw [hy] at f3; cases f3
          · rw [hx] at f1; cases f1
        · simp [hab] at e3
theorem mo_prefer {x y : Int32} (hL : hh_L h) (q : mQ h c n) : ∃ h', mT h h' (ans (an_prefer c n x y) (fun _ => 1)).2 ∧ tr_L g (d + 12) m_X9_prefer 0 [some (.ref 1099), some (.int x), some (.int y)] [] h (.inl (some (.int (ans (an_prefer c n x y) (fun _ => 1)).1)), h') := by
  have r := sa_X9_areOptions (g := g) (d := d + 9) (x0 := x) (x1 := y) hL
  rw [ix_pair] at r
  unfold an_prefer
  rcases ox2_c x y with ⟨a, b, ha, hb, hab, e1, e2, e3, e4⟩ | ⟨e3, e4⟩
  · rw [e3] at r ⊢
    have r1 := sp_thr0 (g := g) (d := d + 11) (x := 1) hL
    have m1 := mT_set (x := 0) hL
    have r2 := sp_likes (g := g) (d := d + 9) r1.2 (mQ_T m1 q) ha hb
    have ea : x - 97 = Int32.ofNat a := by rw [e1, ii_idx ha]
    have eb : y - 97 = Int32.ofNat b := by rw [e2, ii_idx hb]
    exact ⟨_, m1, sg_X9_prefer_0 hL (d := d + 11) r (fun _ => sg_X9_prefer_13 hL (d := d + 11) r1 (fun _ => sg_X9_prefer_25 r1.2 (d := d + 11) (by rw [ea, eb]; exact r2) rfl) (fun t => absurd rfl t)) (fun t => bI1 t)⟩
  · rw [e3] at r ⊢
    have r1 := sp_thr1 (g := g) (d := d + 11) (x := 1) hL
    exact ⟨_, mT_set hL, sg_X9_prefer_0 hL (d := d + 11) r (fun t => absurd rfl t) (fun _ => sg_X9_prefer_9 hL (d := d + 11) r1 (fun t => absurd t (by decide)) (fun _ => sg_X9_prefer_21 r1.2 rfl))⟩
end
