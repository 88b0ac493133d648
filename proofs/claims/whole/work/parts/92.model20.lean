/-! THE MODEL: mirror, cats, says in the making -/
section
variable {g : tr_g} {d : Nat} {h h' : ev_AH} {c : CT} {n B : Nat}
theorem hs_a (hL : hh_L h) (l : List Int32) : hh_a (hh_sa h 100 0 l) 100 = l := by rw [hh_a_sa (hh_L_lt hL (by decide)), if_pos rfl]
theorem hs_s (l l' : List Int32) : hh_sa (hh_sa h 100 0 l) 100 0 l' = hh_sa h 100 0 l' := hh_sa_sa
theorem hs_L {l : List Int32} (hL : hh_L h) (hl : l.length = 124) : hh_L (hh_sa h 100 0 l) := hh_L_sa hL ht100 hl
theorem hs_id (hL : hh_L h) : hh_sa h 100 0 (hh_a h 100) = h := hh_sa_id (hh_arr hL ht100).1
theorem sp_setsL {l : List Int32} {k w : Nat} {v : Int32} (hL : hh_L h) (hl : l.length = 124) (hk : k < 7) (hw : w < 10) : tr_L g d m_X9_sets 0 [some (.ref 1099), some (.int (Int32.ofNat k)), some (.int (Int32.ofNat w)), some (.int v)] [] (hh_sa h 100 0 l) (.inl none, hh_sa h 100 0 (l.set (54 + 10 * k + w) v)) := by
  refine sg_X9_sets_0 (hs_L hL hl) (j0 := 54 + 10 * k + w) ?_ (by omega) ?_
  · rw [show (54 : Int32) = Int32.ofNat 54 from rfl, show (10 : Int32) = Int32.ofNat 10 from rfl, ii_m, ii_a, ii_a]
  · rw [hs_a hL, hs_s]
theorem sp_mirrorM {x a : Int32} (hL : hh_L h) (q : mQ h c n) (w : cw c n B) (h12 : hh_i h 99 12 = 0) : ∃ h', tr_L g (d + 3) m_X9_mirror 0 [some (.ref 1099), some (.int x), some (.int a), none] [] h (.inl (some (.int (vm_mir c n x a))), h') ∧ mO h h' (om_mir c n x a) := by
  have h7 := q.2.2.1
  have rc := sa_X9_isCell (g := g) (d := d + 1) (x0 := x) hL
  rw [ix_cell] at rc
  unfold vm_mir om_mir
  rcases idx_c (m := 35) (by omega) x with ⟨q0, hq, e3, e4⟩ | ⟨e3, e4⟩
  · rw [e4] at rc
    simp only [e4]
    have r1 := sp_thr0 (g := g) (d := d + 2) (x := 1) hL
    have m1 := mT_set (x := 0) hL
    have q1 := mQ_T m1 q
    have pre : ∀ r', tr_L g (d + 3) m_X9_mirror 20 [some (.ref 1099), some (.int x), some (.int a), none] [] (hh_si h 99 8 7 0) r' → tr_L g (d + 3) m_X9_mirror 0 [some (.ref 1099), some (.int x), some (.int a), none] [] h r' := fun r' z => sg_X9_mirror_0 hL (d := d + 2) rc (fun _ => sg_X9_mirror_12 hL (d := d + 2) r1 (fun t => absurd rfl t) (fun _ => z)) (fun t => bI1 t)
    have rk := sa_X9_isContent (g := g) (d := d + 2) (x0 := a) r1.2
    rw [con_eq] at rk
    have h12' : hh_i (hh_si h 99 8 7 0) 99 12 = 0 := by rw [m1.2.2 12 (by omega)]; exact h12
    by_cases hk : fa_X8_isContent a = 0
    · simp only [if_pos hk]
      have r2 := sp_thr1 (g := g) (d := d + 2) (x := 2) r1.2
      exact ⟨_, pre _ (sg_X9_mirror_20 r1.2 (d := d + 2) rk (fun t => absurd hk t) (fun _ => sg_X9_mirror_28 r1.2 (d := d + 2) r2 (fun _ => sg_X9_mirror_67 r2.2 rfl) (fun t => absurd t (by decide)))), mO_T m1 (mO_thr (mRc_n q1) h12' (mT_set r1.2))⟩
    · simp only [if_neg hk]
      have r2 := sp_thr0 (g := g) (d := d + 2) (x := 2) r1.2
      have m2 := mT_tr m1 (mT_set (x := 0) r1.2)
      have q2 := mQ_T m2 q
      have r3 := sp_catOn (g := g) (d := d + 1) (x := x) r2.2 q2
      have pre2 : ∀ r', tr_L g (d + 3) m_X9_mirror 40 [some (.ref 1099), some (.int x), some (.int a), none] [] (hh_si (hh_si h 99 8 7 0) 99 8 7 0) r' → tr_L g (d + 3) m_X9_mirror 0 [some (.ref 1099), some (.int x), some (.int a), none] [] h r' := fun r' z => pre r' (sg_X9_mirror_20 r1.2 (d := d + 2) rk (fun _ => sg_X9_mirror_32 r1.2 (d := d + 2) r2 (fun t => absurd rfl t) (fun _ => z)) (fun t => absurd t hk))
      by_cases hc : ct_cat c n x < n
      · rw [ii_o, if_pos hc] at r3
        simp only [if_pos hc]
        have r4 := sp_rej1 (g := g) (d := d + 1) (x1 := 2) (x2 := Int32.ofNat (ct_cat c n x)) (x3 := 3) r2.2
        exact ⟨_, pre2 _ (sg_X9_mirror_40 r2.2 (d := d + 2) r3 (fun t => absurd t (Int32.not_lt.mpr (ii_nn (by omega)))) (fun _ => sg_X9_mirror_49 r2.2 (d := d + 2) r3 r4 (fun t => absurd t (by decide)) (fun _ => sg_X9_mirror_67 r4.2 rfl))), mO_T m2 (mO_rej r2.2 (mRc_n q2))⟩
      · rw [ii_o, if_neg hc] at r3
        simp only [if_neg hc]
        have r4 := sp_rej0 (g := g) (d := d + 1) (x1 := 2) (x2 := -1) (x3 := 3) r2.2
        have m4 := mT_tr m2 (mT_set (x := 0) r2.2)
        have q4 := mQ_T m4 q
        have L4 := r4.2
        have hcon := con_or hk
        have hc' : ¬ ct_cat c n (Int32.ofNat q0) < n := by rw [← e3]; exact hc
        have w' := cw_chg (x := a) w hq hc' hcon
        have cq : (ct_co c).getD q0 0 = 46 ∨ (ct_co c).getD q0 0 = 47 ∨ (ct_co c).getD q0 0 = 92 := by
          obtain ⟨v1, v2⟩ := w.2.2.1 q0 hq
          rcases v1 with v | v | v | v
          · exact Or.inl v
          · exact Or.inr (Or.inl v)
          · exact Or.inr (Or.inr v)
          · exact absurd (v2.mp v) hc'
        have e0 : (19 : Int32) + x = Int32.ofNat (19 + q0) := by rw [e3, show (19 : Int32) = Int32.ofNat 19 from rfl, ii_a]
        have ls : (hh_a (hh_si (hh_si (hh_si h 99 8 7 0) 99 8 7 0) 99 8 7 0) 100).length = 124 := q4.1.1
        have h12'' : hh_i (hh_si (hh_si (hh_si h 99 8 7 0) 99 8 7 0) 99 8 7 0) 99 12 = 0 := by rw [m4.2.2 12 (by omega)]; exact h12
        -- what stands in the end
        have fin : ∀ v : Int32, v = (if (hh_a (hh_si (hh_si (hh_si h 99 8 7 0) 99 8 7 0) 99 8 7 0) 100).getD (19 + q0) 0 = (if a = 46 then 0 else a) then (hh_a (hh_si (hh_si (hh_si h 99 8 7 0) 99 8 7 0) 99 8 7 0) 100).getD 7 0 else 1) → ∃ h', tr_L g (d + 2) m_X9_mirrors 0 [some (.ref 1099), none, none] [] (hh_sa (hh_si (hh_si (hh_si h 99 8 7 0) 99 8 7 0) 99 8 7 0) 100 0 (((hh_a (hh_si (hh_si (hh_si h 99 8 7 0) 99 8 7 0) 99 8 7 0) 100).set 7 v).set (19 + q0) (if a = 46 then 0 else a))) (.inl (some (.int (ct_mir (ct_chg c q0 a)))), h') ∧ mO h h' (0, 0, 0, ct_chg c q0 a) := fun v hv => by
          have mm := mR_chg (n := n) w.2.1 hq q4.1 hcon cq hv
          have LL := hs_L (l := ((hh_a (hh_si (hh_si (hh_si h 99 8 7 0) 99 8 7 0) 99 8 7 0) 100).set 7 v).set (19 + q0) (if a = 46 then 0 else a)) L4 (by simp; exact ls)
          have qq : mQ (hh_sa (hh_si (hh_si (hh_si h 99 8 7 0) 99 8 7 0) 99 8 7 0) 100 0 (((hh_a (hh_si (hh_si (hh_si h 99 8 7 0) 99 8 7 0) 99 8 7 0) 100).set 7 v).set (19 + q0) (if a = 46 then 0 else a))) (ct_chg c q0 a) n := ⟨by rw [hs_a L4]; exact mm, w'.1⟩
          exact ⟨_, sp_mirM (g := g) (d := d + 2) LL qq w'.2.2.1, mO_T m4 (mO_ok L4 m4.2.1 h12'' (mRc_of mm w'.1.1 h7))⟩
        have pre3 : ∀ r', tr_L g (d + 3) m_X9_mirror 69 [some (.ref 1099), some (.int x), some (.int a), none] [] (hh_si (hh_si (hh_si h 99 8 7 0) 99 8 7 0) 99 8 7 0) r' → tr_L g (d + 3) m_X9_mirror 0 [some (.ref 1099), some (.int x), some (.int a), none] [] h r' := fun r' z => pre2 r' (sg_X9_mirror_40 r2.2 (d := d + 2) r3 (fun _ => sg_X9_mirror_53 r2.2 (d := d + 2) r3 r4 (fun _ => z) (fun t => absurd rfl t)) (fun t => absurd t (by decide)))
        rw [if_pos trivial]
        by_cases ha : a = 46
        · rw [if_pos ha] at fin
          by_cases hs : (hh_a (hh_si (hh_si (hh_si h 99 8 7 0) 99 8 7 0) 99 8 7 0) 100).getD (19 + q0) 0 = 0
          · obtain ⟨h9, r9, m9⟩ := fin _ rfl
            rw [if_pos hs] at r9
            refine ⟨h9, pre3 _ (sg_X9_mirror_69 L4 (fun t => absurd ha t) (fun _ => sg_X9_mirror_75 L4 (j0 := 19 + q0) rfl e0 (by omega) (fun t => absurd hs t) (fun _ => sg_X9_mirror_100 L4 (d := d + 2) (j0 := 7) (j1 := 7) (j2 := 19 + q0) rfl (by omega) rfl (by omega) e0 (by omega) ?_ rfl))), m9⟩
            rw [hs_a L4, hs_s]
            exact r9
          · obtain ⟨h9, r9, m9⟩ := fin _ rfl
            rw [if_neg hs] at r9
            refine ⟨h9, pre3 _ (sg_X9_mirror_69 L4 (fun t => absurd ha t) (fun _ => sg_X9_mirror_75 L4 (j0 := 19 + q0) rfl e0 (by omega) (fun _ => sg_X9_mirror_110 L4 (d := d + 2) (j0 := 7) (j1 := 19 + q0) rfl (by omega) e0 (by omega) ?_ rfl) (fun t => absurd t hs))), m9⟩
            rw [hs_a L4, hs_s]
            exact r9
        · rw [if_neg ha] at fin
          by_cases hs : (hh_a (hh_si (hh_si (hh_si h 99 8 7 0) 99 8 7 0) 99 8 7 0) 100).getD (19 + q0) 0 = a
          · obtain ⟨h9, r9, m9⟩ := fin _ rfl
            rw [if_pos hs] at r9
            refine ⟨h9, pre3 _ (sg_X9_mirror_69 L4 (fun _ => sg_X9_mirror_79 L4 (j0 := 19 + q0) e0 (by omega) (fun t => absurd hs t) (fun _ => sg_X9_mirror_100 L4 (d := d + 2) (j0 := 7) (j1 := 7) (j2 := 19 + q0) rfl (by omega) rfl (by omega) e0 (by omega) ?_ rfl)) (fun t => absurd t ha)), m9⟩
            rw [hs_a L4, hs_s]
            exact r9
          · obtain ⟨h9, r9, m9⟩ := fin _ rfl
            rw [if_neg hs] at r9
            refine ⟨h9, pre3 _ (sg_X9_mirror_69 L4 (fun _ => sg_X9_mirror_79 L4 (j0 := 19 + q0) e0 (by omega) (fun _ => sg_X9_mirror_110 L4 (d := d + 2) (j0 := 7) (j1 := 19 + q0) rfl (by omega) e0 (by omega) ?_ rfl) (fun t => absurd t hs)) (fun t => absurd t ha)), m9⟩
            rw [hs_a L4, hs_s]
            exact r9
  · rw [e3] at rc
    simp only [e3]
    have r1 := sp_thr1 (g := g) (d := d + 2) (x := 1) hL
    exact ⟨_, sg_X9_mirror_0 hL (d := d + 2) rc (fun t => absurd rfl t) (fun _ => sg_X9_mirror_8 hL (d := d + 2) r1 (fun _ => sg_X9_mirror_67 r1.2 rfl) (fun t => absurd t (by decide))), mO_thr (mRc_n q) h12 (mT_set hL)⟩
/-! a cat -/
def om_cats (c : CT) (n : Nat) (x a b e : Int32) : Int32 × Int32 × Int32 × CT := match idx 35 x with
  | none => (1, 0, 0, c)
  | some q => if fa_X8_areThreeOptions a b e = 0 then (2, 0, 0, c) else if n = 7 then (3, 1, 7, c) else if ct_cat c n x < n then (3, 2, Int32.ofNat (ct_cat c n x), c) else (0, 0, 0, ct_seat c n q (a - 97) (b - 97) (e - 97))
def vm_cats (c : CT) (n : Nat) (x a b e : Int32) : Int32 := if (om_cats c n x a b e).1 = 0 then Int32.ofNat n else 0
theorem opt_eq {x : Int32} : fa_X9_isOption x = fa_X8_isOption x := by
  rw [ix_opt]
  rcases ox_c x with ⟨o, ho, e5, e6⟩ | ⟨e5, e6⟩
  · rw [e6]
    rcases fa_option (x := x) with ⟨_, _, _, e⟩ | ⟨e, _⟩
    · rw [e]; rfl
    · exact absurd e5 (e o ho)
  · rw [e5]
    rcases fa_option (x := x) with ⟨o, ho, e, _⟩ | ⟨_, e⟩
    · exact absurd e (e6 o ho)
    · rw [e]; rfl
theorem three_eq {x y z : Int32} : fa_X9_areThree x y z = fa_X8_areThreeOptions x y z := by
  unfold fa_X9_areThree fa_X8_areThreeOptions
  rw [opt_eq, opt_eq, opt_eq]
def sSeat0 (s : List Int32) (n q : Nat) (x y z : Int32) : List Int32 :=
  let s1 := ((s.set (54 + 10 * n) (Int32.ofNat q)).set (54 + 10 * n + 1) 0)
  let s2 := (((s1.set (54 + 10 * n + 2) x).set (54 + 10 * n + 3) y).set (54 + 10 * n + 4) z).set (54 + 10 * n + 5) (6 - x - y - z)
  let s3 := (((s2.set (54 + 10 * n + 6) x).set (54 + 10 * n + 7) y).set (54 + 10 * n + 8) z).set (54 + 10 * n + 9) (6 - x - y - z)
  ((s3.set (19 + q) 0).set 7 1)
theorem sSeat0_1 {s : List Int32} {n q : Nat} {x y z : Int32} (m1 : s.length = 124) (h7 : n < 7) (hq : q < 35) : (sSeat0 s n q x y z).getD 1 0 = s.getD 1 0 := by
  unfold sSeat0
  simp only
  rw [gs (by simp; omega), gs (by simp; omega), gs (by simp; omega), gs (by simp; omega), gs (by simp; omega), gs (by simp; omega), gs (by simp; omega), gs (by simp; omega), gs (by simp; omega), gs (by simp; omega), gs (by simp; omega), gs (by omega)]
  rw [if_neg (by omega), if_neg (by omega), if_neg (by omega), if_neg (by omega), if_neg (by omega), if_neg (by omega), if_neg (by omega), if_neg (by omega), if_neg (by omega), if_neg (by omega), if_neg (by omega), if_neg (by omega)]
theorem sp_catsM {x a b e : Int32} (hL : hh_L h) (q : mQ h c n) (w : cw c n B) (h12 : hh_i h 99 12 = 0) : ∃ h', tr_L g (d + 3) m_X9_cats 0 [some (.ref 1099), some (.int x), some (.int a), some (.int b), some (.int e), none, none, none] [] h (.inl (some (.int (vm_cats c n x a b e))), h') ∧ mO h h' (om_cats c n x a b e) := by
  have h7 := q.2.2.1
  have rc := sa_X9_isCell (g := g) (d := d + 1) (x0 := x) hL
  rw [ix_cell] at rc
  unfold vm_cats om_cats
  rcases idx_c (m := 35) (by omega) x with ⟨q0, hq, e3, e4⟩ | ⟨e3, e4⟩
  · rw [e4] at rc
    simp only [e4]
    have r1 := sp_thr0 (g := g) (d := d + 2) (x := 1) hL
    have m1 := mT_set (x := 0) hL
    have q1 := mQ_T m1 q
    have h12' : hh_i (hh_si h 99 8 7 0) 99 12 = 0 := by rw [m1.2.2 12 (by omega)]; exact h12
    have rk := sa_X9_areThree (g := g) (d := d) (x0 := a) (x1 := b) (x2 := e) r1.2
    rw [three_eq] at rk
    have pre : ∀ r', tr_L g (d + 3) m_X9_cats 20 [some (.ref 1099), some (.int x), some (.int a), some (.int b), some (.int e), none, none, none] [] (hh_si h 99 8 7 0) r' → tr_L g (d + 3) m_X9_cats 0 [some (.ref 1099), some (.int x), some (.int a), some (.int b), some (.int e), none, none, none] [] h r' := fun r' z => sg_X9_cats_0 hL (d := d + 2) rc (fun _ => sg_X9_cats_12 hL (d := d + 2) r1 (fun t => absurd rfl t) (fun _ => z)) (fun t => bI1 t)
    by_cases hk : fa_X8_areThreeOptions a b e = 0
    · simp only [if_pos hk]
      have r2 := sp_thr1 (g := g) (d := d + 2) (x := 2) r1.2
      exact ⟨_, pre _ (sg_X9_cats_20 r1.2 (d := d + 2) rk (fun t => absurd hk t) (fun _ => sg_X9_cats_31 r1.2 (d := d + 2) r2 (fun _ => sg_X9_cats_97 r2.2 rfl) (fun t => absurd t (by decide)))), mO_T m1 (mO_thr (mRc_n q1) h12' (mT_set r1.2))⟩
    · simp only [if_neg hk]
      have r2 := sp_thr0 (g := g) (d := d + 2) (x := 2) r1.2
      have m2 := mT_tr m1 (mT_set (x := 0) r1.2)
      have q2 := mQ_T m2 q
      have pre2 : ∀ r', tr_L g (d + 3) m_X9_cats 43 [some (.ref 1099), some (.int x), some (.int a), some (.int b), some (.int e), none, none, none] [] (hh_si (hh_si h 99 8 7 0) 99 8 7 0) r' → tr_L g (d + 3) m_X9_cats 0 [some (.ref 1099), some (.int x), some (.int a), some (.int b), some (.int e), none, none, none] [] h r' := fun r' z => pre r' (sg_X9_cats_20 r1.2 (d := d + 2) rk (fun _ => sg_X9_cats_35 r1.2 (d := d + 2) r2 (fun t => absurd rfl t) (fun _ => z)) (fun t => absurd t hk))
      have en := m_n q2
      by_cases hn7 : n = 7
      · simp only [if_pos hn7]
        have r4 := sp_rej1 (g := g) (d := d + 1) (x1 := 1) (x2 := 7) (x3 := 3) r2.2
        exact ⟨_, pre2 _ (sg_X9_cats_43 r2.2 (j0 := 1) rfl (by omega) (fun t => absurd (by rw [en, hn7]; rfl) t) (fun _ => sg_X9_cats_55 r2.2 (d := d + 2) r4 (fun _ => sg_X9_cats_97 r4.2 rfl) (fun t => absurd t (by decide)))), mO_T m2 (mO_rej r2.2 (mRc_n q2))⟩
      · simp only [if_neg hn7]
        have r4 := sp_rej0 (g := g) (d := d + 1) (x1 := 1) (x2 := 7) (x3 := 3) r2.2
        have m4 := mT_tr m2 (mT_set (x := 0) r2.2)
        have q4 := mQ_T m4 q
        have pre3 : ∀ r', tr_L g (d + 3) m_X9_cats 70 [some (.ref 1099), some (.int x), some (.int a), some (.int b), some (.int e), none, none, none] [] (hh_si (hh_si (hh_si h 99 8 7 0) 99 8 7 0) 99 8 7 0) r' → tr_L g (d + 3) m_X9_cats 0 [some (.ref 1099), some (.int x), some (.int a), some (.int b), some (.int e), none, none, none] [] h r' := fun r' z => pre2 r' (sg_X9_cats_43 r2.2 (j0 := 1) rfl (by omega) (fun _ => sg_X9_cats_59 r2.2 (d := d + 2) r4 (fun t => absurd rfl t) (fun _ => z)) (fun t => absurd ((ii_eq (b := 7) (by omega) (by omega)).mp (by rw [en] at t; exact t)) hn7))
        have r5 := sp_catOn (g := g) (d := d + 1) (x := x) r4.2 q4
        by_cases hc : ct_cat c n x < n
        · rw [ii_o, if_pos hc] at r5
          simp only [if_pos hc]
          have r6 := sp_rej1 (g := g) (d := d + 1) (x1 := 2) (x2 := Int32.ofNat (ct_cat c n x)) (x3 := 3) r4.2
          exact ⟨_, pre3 _ (sg_X9_cats_70 r4.2 (d := d + 2) r5 (fun t => absurd t (Int32.not_lt.mpr (ii_nn (by omega)))) (fun _ => sg_X9_cats_79 r4.2 (d := d + 2) r5 r6 (fun t => absurd t (by decide)) (fun _ => sg_X9_cats_97 r6.2 rfl))), mO_T m4 (mO_rej r4.2 (mRc_n q4))⟩
        · rw [ii_o, if_neg hc] at r5
          simp only [if_neg hc]
          have r6 := sp_rej0 (g := g) (d := d + 1) (x1 := 2) (x2 := -1) (x3 := 3) r4.2
          have m6 := mT_tr m4 (mT_set (x := 0) r4.2)
          have q6 := mQ_T m6 q
          have L6 := r6.2
          have pre4 : ∀ r', tr_L g (d + 3) m_X9_cats 99 [some (.ref 1099), some (.int x), some (.int a), some (.int b), some (.int e), none, none, none] [] (hh_si (hh_si (hh_si (hh_si h 99 8 7 0) 99 8 7 0) 99 8 7 0) 99 8 7 0) r' → tr_L g (d + 3) m_X9_cats 0 [some (.ref 1099), some (.int x), some (.int a), some (.int b), some (.int e), none, none, none] [] h r' := fun r' z => pre3 r' (sg_X9_cats_70 r4.2 (d := d + 2) r5 (fun _ => sg_X9_cats_83 r4.2 (d := d + 2) r5 r6 (fun _ => z) (fun t => absurd rfl t)) (fun t => absurd t (by decide)))
          have h12'' : hh_i (hh_si (hh_si (hh_si (hh_si h 99 8 7 0) 99 8 7 0) 99 8 7 0) 99 8 7 0) 99 12 = 0 := by rw [m6.2.2 12 (by omega)]; exact h12
          have m67 := m6.2.1
          generalize (hh_si (hh_si (hh_si (hh_si h 99 8 7 0) 99 8 7 0) 99 8 7 0) 99 8 7 0) = H at pre4 m6 q6 L6 h12'' m67
          have ls : (hh_a H 100).length = 124 := q6.1.1
          have en6 := m_n q6
          have hn : n < 7 := by omega
          have hc' : ¬ ct_cat c n (Int32.ofNat q0) < n := by rw [← e3]; exact hc
          have w' := cw_seat w hn hq hc' hk
          have mm := mR_seat (x := a - 97) (y := b - 97) (z := e - 97) w.2.1 hn hq q6.1
          have ok := mO_T m6 (mO_ok L6 m67 h12'' (mRc_of mm w'.1.1 w'.1.2.1))
          have st : ∀ (l : List Int32) (w v : Nat) (y : Int32), l.length = 124 → w < 10 → tr_L g (d + 2) m_X9_sets 0 [some (.ref 1099), some (.int (Int32.ofNat n)), some (.int (Int32.ofNat w)), some (.int y)] [] (hh_sa H 100 0 l) (.inl none, hh_sa H 100 0 (l.set (54 + 10 * n + w) y)) := fun l w v y hl hw => sp_setsL L6 hl hn hw
          have e0 : (19 : Int32) + x = Int32.ofNat (19 + q0) := by rw [e3, show (19 : Int32) = Int32.ofNat 19 from rfl, ii_a]
          rw [if_pos trivial]
          refine ⟨_, pre4 _ ?_, ok⟩
          have eH := hs_id L6
          have s1 := st (hh_a H 100) 0 0 x ls (by omega)
          rw [eH] at s1
          rw [e3] at s1
          have s2 := st ((hh_a H 100).set (54 + 10 * n) (Int32.ofNat q0)) 1 0 0 (by simp; exact ls) (by omega)
          have ea := hs_a L6
          have es : ∀ l l', hh_sa (hh_sa H 100 0 l) 100 0 l' = hh_sa H 100 0 l' := fun l l' => hs_s l l'
          refine sg_X9_cats_99 L6 (d := d + 2) (j0 := 1) rfl (by omega) (by rw [en6, e3]; exact s1) (by rw [en6]; exact s2) ?_
          rw [en6]
          have L7 := s2.2
          refine sg_X9_cats_126 L7 (fun t => absurd t (by decide)) (fun _ => sg_X9_cats_132 L7 (fun t => absurd rfl t) (fun _ => ?_))
          have t1 := st (((hh_a H 100).set (54 + 10 * n) (Int32.ofNat q0)).set (54 + 10 * n + 1) 0) 2 0 (a - 97) (by simp; exact ls) (by omega)
          have t2 := st ((((hh_a H 100).set (54 + 10 * n) (Int32.ofNat q0)).set (54 + 10 * n + 1) 0).set (54 + 10 * n + 2) (a - 97)) 3 0 (b - 97) (by simp; exact ls) (by omega)
          have t3 := st (((((hh_a H 100).set (54 + 10 * n) (Int32.ofNat q0)).set (54 + 10 * n + 1) 0).set (54 + 10 * n + 2) (a - 97)).set (54 + 10 * n + 3) (b - 97)) 4 0 (e - 97) (by simp; exact ls) (by omega)
          have t4 := st ((((((hh_a H 100).set (54 + 10 * n) (Int32.ofNat q0)).set (54 + 10 * n + 1) 0).set (54 + 10 * n + 2) (a - 97)).set (54 + 10 * n + 3) (b - 97)).set (54 + 10 * n + 4) (e - 97)) 5 0 (6 - (a - 97) - (b - 97) - (e - 97)) (by simp; exact ls) (by omega)
          refine sg_X9_cats_137 L7 (d := d + 2) t1 t2 t3 t4 ?_
          have L8 := t4.2
          refine sg_X9_cats_126 L8 (fun t => absurd t (by decide)) (fun _ => sg_X9_cats_132 L8 (fun _ => ?_) (fun t => absurd t (by decide)))
          have u1 := st (((((((hh_a H 100).set (54 + 10 * n) (Int32.ofNat q0)).set (54 + 10 * n + 1) 0).set (54 + 10 * n + 2) (a - 97)).set (54 + 10 * n + 3) (b - 97)).set (54 + 10 * n + 4) (e - 97)).set (54 + 10 * n + 5) (6 - (a - 97) - (b - 97) - (e - 97))) 6 0 (a - 97) (by simp; exact ls) (by omega)
          have u2 := st ((((((((hh_a H 100).set (54 + 10 * n) (Int32.ofNat q0)).set (54 + 10 * n + 1) 0).set (54 + 10 * n + 2) (a - 97)).set (54 + 10 * n + 3) (b - 97)).set (54 + 10 * n + 4) (e - 97)).set (54 + 10 * n + 5) (6 - (a - 97) - (b - 97) - (e - 97))).set (54 + 10 * n + 6) (a - 97)) 7 0 (b - 97) (by simp; exact ls) (by omega)
          have u3 := st (((((((((hh_a H 100).set (54 + 10 * n) (Int32.ofNat q0)).set (54 + 10 * n + 1) 0).set (54 + 10 * n + 2) (a - 97)).set (54 + 10 * n + 3) (b - 97)).set (54 + 10 * n + 4) (e - 97)).set (54 + 10 * n + 5) (6 - (a - 97) - (b - 97) - (e - 97))).set (54 + 10 * n + 6) (a - 97)).set (54 + 10 * n + 7) (b - 97)) 8 0 (e - 97) (by simp; exact ls) (by omega)
          have u4 := st ((((((((((hh_a H 100).set (54 + 10 * n) (Int32.ofNat q0)).set (54 + 10 * n + 1) 0).set (54 + 10 * n + 2) (a - 97)).set (54 + 10 * n + 3) (b - 97)).set (54 + 10 * n + 4) (e - 97)).set (54 + 10 * n + 5) (6 - (a - 97) - (b - 97) - (e - 97))).set (54 + 10 * n + 6) (a - 97)).set (54 + 10 * n + 7) (b - 97)).set (54 + 10 * n + 8) (e - 97)) 9 0 (6 - (a - 97) - (b - 97) - (e - 97)) (by simp; exact ls) (by omega)
          refine sg_X9_cats_141 L8 (d := d + 2) u1 u2 u3 u4 ?_
          have L9 := u4.2
          refine sg_X9_cats_126 L9 (fun _ => ?_) (fun t => absurd t (by decide))
          refine sg_X9_cats_220 L9 (j0 := 19 + q0) (j1 := 7) (j2 := 1) (j3 := 1) e0 (by omega) rfl (by omega) rfl (by omega) rfl (by omega) ?_
          simp only [ea, es]
          have e1 : (sSeat0 (hh_a H 100) n q0 (a - 97) (b - 97) (e - 97)).getD 1 0 + 1 = Int32.ofNat (n + 1) := by rw [sSeat0_1 ls hn hq, en6, ii_s]
          show (_, hh_sa H 100 0 ((sSeat0 (hh_a H 100) n q0 (a - 97) (b - 97) (e - 97)).set 1 (Int32.ofNat (n + 1)))) = (_, hh_sa H 100 0 ((sSeat0 (hh_a H 100) n q0 (a - 97) (b - 97) (e - 97)).set 1 ((sSeat0 (hh_a H 100) n q0 (a - 97) (b - 97) (e - 97)).getD 1 0 + 1)))
          rw [e1]
  · rw [e3] at rc
    simp only [e3]
    have r1 := sp_thr1 (g := g) (d := d + 2) (x := 1) hL
    exact ⟨_, sg_X9_cats_0 hL (d := d + 2) rc (fun t => absurd rfl t) (fun _ => sg_X9_cats_8 hL (d := d + 2) r1 (fun _ => sg_X9_cats_97 r1.2 rfl) (fun t => absurd t (by decide))), mO_thr (mRc_n q) h12 (mT_set hL)⟩
end
