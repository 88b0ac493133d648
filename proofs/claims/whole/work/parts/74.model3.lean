/-! THE MODEL: contents, options, places, mirrors -/
/-- contents of cells, and where cats sit -/
def co_w (c : CT) (n : Nat) : Prop := ∀ q, q < 35 → ((ct_co c).getD q 0 = 46 ∨ (ct_co c).getD q 0 = 47 ∨ (ct_co c).getD q 0 = 92 ∨ (ct_co c).getD q 0 = 99) ∧ ((ct_co c).getD q 0 = 99 ↔ ct_cat c n (Int32.ofNat q) < n)
section
variable {g : tr_g} {d : Nat} {h h' : ev_AH} {c : CT} {n : Nat}
theorem sp_content {q0 : Nat} (hL : hh_L h) (q : mQ h c n) (hw : co_w c n) (hq : q0 < 35) : tr_L g (d + 2) m_X9_content 0 [some (.ref 1099), some (.int (Int32.ofNat q0))] [] h (.inl (some (.int ((ct_co c).getD q0 0))), h) := by
  have h7 := q.2.2.1
  have r := sp_catOn (g := g) (d := d) (x := Int32.ofNat q0) hL q
  have e0 : (19 : Int32) + Int32.ofNat q0 = Int32.ofNat (19 + q0) := by rw [show (19 : Int32) = Int32.ofNat 19 from rfl, ii_a]
  have es := q.1.2.2.2.1 q0 hq
  obtain ⟨w1, w2⟩ := hw q0 hq
  by_cases h99 : (ct_co c).getD q0 0 = 99
  · have hc := w2.mp h99
    rw [ii_o, if_pos hc] at r
    rw [h99]
    exact sg_X9_content_0 hL (d := d + 1) r (fun t => absurd t (Int32.not_lt.mpr (ii_nn (by omega)))) (fun _ => sg_X9_content_8 hL rfl)
  · have hc : ¬ ct_cat c n (Int32.ofNat q0) < n := fun t => h99 (w2.mpr t)
    rw [ii_o, if_neg hc] at r
    have pre : ∀ r', tr_L g (d + 2) m_X9_content 13 [some (.ref 1099), some (.int (Int32.ofNat q0))] [] h r' → tr_L g (d + 2) m_X9_content 0 [some (.ref 1099), some (.int (Int32.ofNat q0))] [] h r' := fun r' z => sg_X9_content_0 hL (d := d + 1) r (fun _ => z) (fun t => absurd t (by decide))
    by_cases h46 : (ct_co c).getD q0 0 = 46
    · rw [if_pos (Or.inr h46)] at es
      rw [h46]
      exact pre _ (sg_X9_content_13 hL (j0 := 19 + q0) e0 (by omega) (fun _ => sg_X9_content_37 hL rfl) (fun t => by rw [es] at t; exact absurd t (by decide)))
    · rw [if_neg (fun t => t.elim h99 h46)] at es
      have pos : ¬ (ct_co c).getD q0 0 ≤ 0 := by
        rcases w1 with e | e | e | e <;> rw [e] <;> decide
      exact pre _ (sg_X9_content_13 hL (j0 := 19 + q0) e0 (by omega) (fun t => by rw [es] at t; exact absurd t pos) (fun _ => sg_X9_content_25 hL (j0 := 19 + q0) e0 (by omega) (by rw [es])))
theorem co_nch {q0 : Nat} (hw : co_w c n) (hq : q0 < 35) : (((ct_co c).getD q0 0).toUInt32 % 65536).toInt32 = (ct_co c).getD q0 0 := by
  rcases (hw q0 hq).1 with e | e | e | e <;> rw [e] <;> decide
theorem mo_contentOf {x : Int32} (hL : hh_L h) (q : mQ h c n) (hw : co_w c n) : ∃ h', mT h h' (ans (an_contentOf c x) (fun _ => 1)).2 ∧ tr_L g (d + 12) m_X9_contentOf 0 [some (.ref 1099), some (.int x)] [] h (.inl (some (.int (ans (an_contentOf c x) (fun _ => 1)).1)), h') := by
  have r := sa_X9_isCell (g := g) (d := d + 10) (x0 := x) hL
  rw [ix_cell] at r
  unfold an_contentOf
  rcases idx_c (m := 35) (by omega) x with ⟨k, hk, e3, e4⟩ | ⟨e3, e4⟩
  · rw [e4] at r ⊢
    have r1 := sp_thr0 (g := g) (d := d + 11) (x := 1) hL
    have m1 := mT_set (x := 0) hL
    have r2 := sp_content (g := g) (d := d + 9) r1.2 (mQ_T m1 q) hw hk
    refine ⟨hh_si h 99 8 7 0, m1, sg_X9_contentOf_0 hL (d := d + 11) r (fun _ => sg_X9_contentOf_12 hL (d := d + 11) r1 (fun _ => sg_X9_contentOf_24 r1.2 (d := d + 11) (by rw [e3]; exact r2) (tr_chc _) (by rw [co_nch hw hk]; rfl)) (fun t => absurd rfl t)) (fun t => bI1 t)⟩
  · rw [e3] at r ⊢
    have r1 := sp_thr1 (g := g) (d := d + 11) (x := 1) hL
    exact ⟨hh_si h 99 8 7 1, mT_set hL, sg_X9_contentOf_0 hL (d := d + 11) r (fun t => absurd rfl t) (fun _ => sg_X9_contentOf_8 hL (d := d + 11) r1 (fun t => absurd t (by decide)) (fun _ => sg_X9_contentOf_20 r1.2 rfl))⟩
def cd_01 (E : Nat) : Int32 := if E = 0 then 1 else 2
theorem mo_optionAt {x y : Int32} (hL : hh_L h) (q : mQ h c n) : ∃ h', mT h h' (ans (an_optionAt c n x y) cd_01).2 ∧ tr_L g (d + 12) m_X9_optionAt 0 [some (.ref 1099), some (.int x), some (.int y)] [] h (.inl (some (.int (ans (an_optionAt c n x y) cd_01).1)), h') := by
  have h7 := q.2.2.1
  have r := sp_isCat (g := g) (d := d + 10) (x := x) hL q
  unfold an_optionAt
  rcases idx_c (m := n) (by omega) x with ⟨k, hk, e3, e4⟩ | ⟨e3, e4⟩
  · rw [e4] at r ⊢
    have r1 := sp_thr0 (g := g) (d := d + 11) (x := 1) hL
    have m1 := mT_set (x := 0) hL
    have q1 := mQ_T m1 q
    have r2 := sa_X9_isIn (g := g) (d := d + 11) (x0 := y) (x1 := 0) (x2 := 3) r1.2
    rw [ix_4] at r2
    have pre : ∀ r', tr_L g (d + 12) m_X9_optionAt 21 [some (.ref 1099), some (.int x), some (.int y)] [] (hh_si h 99 8 7 0) r' → tr_L g (d + 12) m_X9_optionAt 0 [some (.ref 1099), some (.int x), some (.int y)] [] h r' := fun r' z => sg_X9_optionAt_0 hL (d := d + 11) r (fun _ => sg_X9_optionAt_13 hL (d := d + 11) r1 (fun t => absurd rfl t) (fun _ => z)) (fun t => bI1 t)
    rcases idx_c (m := 4) (by omega) y with ⟨p, hp, e5, e6⟩ | ⟨e5, e6⟩
    · simp only [e6]
      rw [e6] at r2
      have r3 := sp_thr0 (g := g) (d := d + 11) (x := 2) r1.2
      have m2 := mT_tr m1 (mT_set (x := 0) r1.2)
      have q2 := mQ_T m2 q
      have r4 := sp_of (g := g) (d := d + 11) (k := k) (w := 2 + p) r3.2 (by omega) (by omega)
      rw [show 54 + 10 * k + (2 + p) = 54 + 10 * k + 2 + p by omega, ((q2.1.2.2.2.2 k hk).2.2 p hp).1] at r4
      have ei : (2 : Int32) + y = Int32.ofNat (2 + p) := by rw [e5, show (2 : Int32) = Int32.ofNat 2 from rfl, ii_a]
      exact ⟨_, m2, pre _ (sg_X9_optionAt_21 r1.2 (d := d + 11) r2 (fun _ => sg_X9_optionAt_35 r1.2 (d := d + 11) r3 (fun _ => sg_X9_optionAt_47 r3.2 (d := d + 11) (by rw [ei, e3]; exact r4) (tr_chc _) rfl) (fun t => absurd rfl t)) (fun t => bI1 t))⟩
    · simp only [e5]
      rw [e5] at r2
      have r3 := sp_thr1 (g := g) (d := d + 11) (x := 2) r1.2
      have m2 := mT_tr m1 (mT_set (x := 2) r1.2)
      exact ⟨_, m2, pre _ (sg_X9_optionAt_21 r1.2 (d := d + 11) r2 (fun t => absurd rfl t) (fun _ => sg_X9_optionAt_31 r1.2 (d := d + 11) r3 (fun t => absurd t (by decide)) (fun _ => sg_X9_optionAt_43 r3.2 rfl)))⟩
  · rw [e3] at r ⊢
    have r1 := sp_thr1 (g := g) (d := d + 11) (x := 1) hL
    exact ⟨hh_si h 99 8 7 1, mT_set hL, sg_X9_optionAt_0 hL (d := d + 11) r (fun t => absurd rfl t) (fun _ => sg_X9_optionAt_9 hL (d := d + 11) r1 (fun _ => sg_X9_optionAt_43 r1.2 rfl) (fun t => absurd t (by decide)))⟩
theorem mo_placeOf {x y : Int32} (hL : hh_L h) (q : mQ h c n) : ∃ h', mT h h' (ans (an_placeOf c n x y) cd_01).2 ∧ tr_L g (d + 12) m_X9_placeOf 0 [some (.ref 1099), some (.int x), some (.int y)] [] h (.inl (some (.int (ans (an_placeOf c n x y) cd_01).1)), h') := by
  have h7 := q.2.2.1
  have r := sp_isCat (g := g) (d := d + 10) (x := x) hL q
  unfold an_placeOf
  rcases idx_c (m := n) (by omega) x with ⟨k, hk, e3, e4⟩ | ⟨e3, e4⟩
  · rw [e4] at r ⊢
    have r1 := sp_thr0 (g := g) (d := d + 11) (x := 1) hL
    have m1 := mT_set (x := 0) hL
    have q1 := mQ_T m1 q
    have r2 := sa_X9_isOption (g := g) (d := d + 10) (x0 := y) r1.2
    rw [ix_opt] at r2
    have pre : ∀ r', tr_L g (d + 12) m_X9_placeOf 21 [some (.ref 1099), some (.int x), some (.int y)] [] (hh_si h 99 8 7 0) r' → tr_L g (d + 12) m_X9_placeOf 0 [some (.ref 1099), some (.int x), some (.int y)] [] h r' := fun r' z => sg_X9_placeOf_0 hL (d := d + 11) r (fun _ => sg_X9_placeOf_13 hL (d := d + 11) r1 (fun t => absurd rfl t) (fun _ => z)) (fun t => bI1 t)
    rcases ox_c y with ⟨p, hp, e5, e6⟩ | ⟨e5, e6⟩
    · simp only [e6]
      rw [e6] at r2
      have r3 := sp_thr0 (g := g) (d := d + 11) (x := 2) r1.2
      have m2 := mT_tr m1 (mT_set (x := 0) r1.2)
      have r4 := sp_placeM (g := g) (d := d + 10) r3.2 (mQ_T m2 q) hk hp
      have ei : y - 97 = Int32.ofNat p := by rw [e5, ii_idx hp]
      exact ⟨_, m2, pre _ (sg_X9_placeOf_21 r1.2 (d := d + 11) r2 (fun _ => sg_X9_placeOf_33 r1.2 (d := d + 11) r3 (fun _ => sg_X9_placeOf_45 r3.2 (d := d + 11) (by rw [ei, e3]; exact r4) rfl) (fun t => absurd rfl t)) (fun t => bI1 t))⟩
    · simp only [e5]
      rw [e5] at r2
      have r3 := sp_thr1 (g := g) (d := d + 11) (x := 2) r1.2
      have m2 := mT_tr m1 (mT_set (x := 2) r1.2)
      exact ⟨_, m2, pre _ (sg_X9_placeOf_21 r1.2 (d := d + 11) r2 (fun t => absurd rfl t) (fun _ => sg_X9_placeOf_29 r1.2 (d := d + 11) r3 (fun t => absurd t (by decide)) (fun _ => sg_X9_placeOf_41 r3.2 rfl)))⟩
  · rw [e3] at r ⊢
    have r1 := sp_thr1 (g := g) (d := d + 11) (x := 1) hL
    exact ⟨hh_si h 99 8 7 1, mT_set hL, sg_X9_placeOf_0 hL (d := d + 11) r (fun t => absurd rfl t) (fun _ => sg_X9_placeOf_9 hL (d := d + 11) r1 (fun _ => sg_X9_placeOf_41 r1.2 rfl) (fun t => absurd t (by decide)))⟩
/-- mirrors are counted -/
theorem sp_mirM (hL : hh_L h) (q : mQ h c n) (hw : co_w c n) : tr_L g d m_X9_mirrors 0 [some (.ref 1099), none, none] [] h (.inl (some (.int (ct_mir c))), h) := by
  have loop : ∀ (m k : Nat), k + m = 35 → tr_L g d m_X9_mirrors 4 [some (.ref 1099), some (.int (mm_sum (fun k => if (ct_co c).getD k 0 = 47 ∨ (ct_co c).getD k 0 = 92 then 1 else 0) k)), some (.int (Int32.ofNat k))] [] h (.inl (some (.int (ct_mir c))), h) := by
    intro m
    induction m with
    | zero =>
      intro k hk
      have : k = 35 := by omega
      subst this
      exact sg_X9_mirrors_4 hL (fun _ => sg_X9_mirrors_36 hL rfl) (fun t => absurd t (by decide))
    | succ m ih =>
      intro k hk
      have hk35 : k < 35 := by omega
      have e0 : (19 : Int32) + Int32.ofNat k = Int32.ofNat (19 + k) := by rw [show (19 : Int32) = Int32.ofNat 19 from rfl, ii_a]
      have es := q.1.2.2.2.1 k hk35
      have z := ih (k + 1) (by omega)
      rw [mm_sum] at z
      refine sg_X9_mirrors_4 hL (fun t => absurd ((ii_le (a := 35) (by omega) (by omega)).mp t) (by omega)) (fun _ => sg_X9_mirrors_10 hL (j0 := 19 + k) e0 (by omega) (fun t => ?_) (fun t => ?_))
      · have n1 : ¬ ((ct_co c).getD k 0 = 47 ∨ (ct_co c).getD k 0 = 92) := fun t2 => by
          rw [es, if_neg (fun t3 => by rcases t2 with e | e <;> rw [e] at t3 <;> exact absurd t3 (by decide))] at t
          rcases t2 with e | e <;> rw [e] at t <;> exact absurd t (by decide)
        rw [if_neg n1] at z
        exact sg_X9_mirrors_27 hL (by rw [ii_s]; exact z)
      · have y1 : (ct_co c).getD k 0 = 47 ∨ (ct_co c).getD k 0 = 92 := by
          rw [es] at t
          rcases (hw k hk35).1 with e | e | e | e
          · rw [e] at t; exact absurd t (by decide)
          · exact Or.inl e
          · exact Or.inr e
          · rw [e] at t; exact absurd t (by decide)
        rw [if_pos y1] at z
        exact sg_X9_mirrors_23 hL (by rw [ii_s]; exact z)
  exact sg_X9_mirrors_0 hL (loop 35 0 (by omega))
end
