/-! THE MODEL: the calls that change the court
-/
section
variable {g : tr_g} {d : Nat} {h h' : ev_AH} {c : CT} {n B : Nat} {P : List CT} {S : Option CT} {y : YS} {l t : List Int32}
theorem wrapK (hL : hh_L h) (w : MI h c P S y l t) (p : pQ c n) : ∃ h1, tr_L g (d + 1) m_X9_keeps 0 [some (.ref 1099)] [] h (.inl none, h1) ∧ mQ h1 c n ∧ hh_i h1 99 12 = 0 ∧ hh_i h1 99 7 = 0 ∧ ∀ (h2 : ev_AH) (o : Int32 × Int32 × Int32 × CT) (v : Int32), hh_L h2 → mO h1 h2 o → (o.2.1 = 0 ∨ (0 < o.2.1 ∧ o.2.1 ≠ 6)) → ∃ h', tr_L g (d + 1) m_X9_ends 0 [some (.ref 1099), some (.int v), none] [] h2 (.inl (some (.int (if o.1 = 0 then v else 0))), h') ∧ hh_F kM h h' ∧ hh_i h' 99 7 = o.1 ∧ MI h' o.2.2.2 (pO P c o) S (yO y o) l t := by
  obtain ⟨h1, r1, F1, A1, e7, e12, E1⟩ := sp_keeps (g := g) (d := d) hL
  refine ⟨h1, r1, mQ_F F1 (by decide) (MI_n w p), e12, e7, fun h2 o v L2 m hy => mo_wrap L2 w F1 A1 E1 m hy⟩
def cd3 (E : Nat) : Int32 := if E = 0 then 1 else if E = 1 then 2 else 3
/-- what a changing call of the model gives -/
def mRes (h h' : ev_AH) (A : Int32 ⊕ Nat) (f : Nat → Int32) (c' : CT) (P' : List CT) (S' : Option CT) (y' : YS) (l' t' : List Int32) : Prop := hh_F kM h h' ∧ hh_i h' 99 7 = (ans A f).2 ∧ MI h' c' P' S' y' l' t'
theorem do_add_eq {x a b e : Int32} (h7 : n ≤ 7) (w : cw c n B) : (do_add c P y n x a b e).2.1 = (om_cats c n x a b e).2.2.2 ∧ (do_add c P y n x a b e).2.2.1 = pO P c (om_cats c n x a b e) ∧ (do_add c P y n x a b e).2.2.2 = yO y (om_cats c n x a b e) ∧ (ans (do_add c P y n x a b e).1 cd3).2 = (om_cats c n x a b e).1 ∧ (ans (do_add c P y n x a b e).1 cd3).1 = (if (om_cats c n x a b e).1 = 0 then vm_cats c n x a b e else 0) ∧ ((om_cats c n x a b e).2.1 = 0 ∨ (0 < (om_cats c n x a b e).2.1 ∧ (om_cats c n x a b e).2.1 ≠ 6)) := by
  have key : (do_add c P y n x a b e = (.inr 0, c, P, y) ∧ om_cats c n x a b e = (1, 0, 0, c)) ∨ (do_add c P y n x a b e = (.inr 1, c, P, y) ∧ om_cats c n x a b e = (2, 0, 0, c)) ∨ (do_add c P y n x a b e = (.inr 2, c, P, (1, 7, y.2.2)) ∧ om_cats c n x a b e = (3, 1, 7, c)) ∨ (do_add c P y n x a b e = (.inr 2, c, P, (2, Int32.ofNat (ct_cat c n x), y.2.2)) ∧ om_cats c n x a b e = (3, 2, Int32.ofNat (ct_cat c n x), c)) ∨ ∃ q, (do_add c P y n x a b e = (.inl (ct_i (ct_seat c n q (a - 97) (b - 97) (e - 97)) 0 - 1), ct_seat c n q (a - 97) (b - 97) (e - 97), hi_push P c, y) ∧ om_cats c n x a b e = (0, 0, 0, ct_seat c n q (a - 97) (b - 97) (e - 97))) := by
    unfold do_add om_cats
    cases idx 35 x with
    | none => exact Or.inl ⟨rfl, rfl⟩
    | some q =>
      simp only
      by_cases hk : fa_X8_areThreeOptions a b e = 0
      · rw [if_pos hk, if_pos hk]
        exact Or.inr (Or.inl ⟨rfl, rfl⟩)
      · rw [if_neg hk, if_neg hk]
        by_cases hn : n = 7
        · rw [if_pos hn, if_pos hn]
          exact Or.inr (Or.inr (Or.inl ⟨rfl, rfl⟩))
        · rw [if_neg hn, if_neg hn]
          by_cases hc : ct_cat c n x < n
          · rw [if_pos hc, if_pos hc]
            exact Or.inr (Or.inr (Or.inr (Or.inl ⟨rfl, rfl⟩)))
          · rw [if_neg hc, if_neg hc]
            exact Or.inr (Or.inr (Or.inr (Or.inr ⟨q, rfl, rfl⟩)))
  unfold vm_cats
  rcases key with ⟨e1, e2⟩ | ⟨e1, e2⟩ | ⟨e1, e2⟩ | ⟨e1, e2⟩ | ⟨q, e1, e2⟩
  · rw [e1, e2]
    exact ⟨rfl, rfl, rfl, rfl, rfl, Or.inl rfl⟩
  · rw [e1, e2]
    exact ⟨rfl, rfl, rfl, rfl, rfl, Or.inl rfl⟩
  · rw [e1, e2]
    exact ⟨rfl, rfl, rfl, rfl, rfl, Or.inr ⟨by show (0 : Int32) < 1; decide, by show (1 : Int32) ≠ 6; decide⟩⟩
  · rw [e1, e2]
    exact ⟨rfl, rfl, rfl, rfl, rfl, Or.inr ⟨by show (0 : Int32) < 2; decide, by show (2 : Int32) ≠ 6; decide⟩⟩
  · rw [e1, e2]
    have : ct_i (ct_seat c n q (a - 97) (b - 97) (e - 97)) 0 = Int32.ofNat (n + 1) := by
      show (((ct_in c).set 0 (Int32.ofNat (n + 1))).set 7 1).getD 0 0 = _
      have l7 := w.2.1.2.2.2.2.2.2
      rw [gs (by simp; omega), if_neg (by omega), gs (by omega), if_pos rfl]
    rw [this, show Int32.ofNat (n + 1) - 1 = Int32.ofNat n from ii_u (n + 1) 1 (by omega)]
    exact ⟨rfl, rfl, rfl, rfl, rfl, Or.inl rfl⟩
theorem mo_addCat {x a b e : Int32} (hL : hh_L h) (w : MI h c P S y l t) (q : cw c n B) : ∃ h', mRes h h' (do_add c P y n x a b e).1 cd3 (do_add c P y n x a b e).2.1 (do_add c P y n x a b e).2.2.1 S (do_add c P y n x a b e).2.2.2 l t ∧ tr_L g (d + 12) m_X9_addCat 0 [some (.ref 1099), some (.int x), some (.int a), some (.int b), some (.int e)] [] h (.inl (some (.int (ans (do_add c P y n x a b e).1 cd3).1)), h') := by
  obtain ⟨h1, r1, q1, e12, e7, k⟩ := wrapK (g := g) (d := d + 10) hL w q.1
  obtain ⟨h2, r2, m2⟩ := sp_catsM (g := g) (d := d + 8) (x := x) (a := a) (b := b) (e := e) r1.2 q1 q e12
  obtain ⟨z1, z2, z3, z4, z5, z6⟩ := do_add_eq (P := P) (y := y) (x := x) (a := a) (b := b) (e := e) q.1.2.1 q
  obtain ⟨h3, r3, F3, i3, M3⟩ := k h2 _ _ r2.2 m2 z6
  exact ⟨h3, ⟨F3, by rw [i3, z4], by rw [z1, z2, z3]; exact M3⟩, sg_X9_addCat_0 hL (d := d + 11) r1 r2 r3 (by rw [z5])⟩
theorem do_mir_eq {x a : Int32} : (do_mir c P y n x a).2.1 = (om_mir c n x a).2.2.2 ∧ (do_mir c P y n x a).2.2.1 = pO P c (om_mir c n x a) ∧ (do_mir c P y n x a).2.2.2 = yO y (om_mir c n x a) ∧ (ans (do_mir c P y n x a).1 cd3).2 = (om_mir c n x a).1 ∧ (ans (do_mir c P y n x a).1 cd3).1 = (if (om_mir c n x a).1 = 0 then vm_mir c n x a else 0) ∧ ((om_mir c n x a).2.1 = 0 ∨ (0 < (om_mir c n x a).2.1 ∧ (om_mir c n x a).2.1 ≠ 6)) := by
  unfold vm_mir do_mir om_mir
  cases idx 35 x with
  | none => exact ⟨rfl, rfl, rfl, rfl, rfl, Or.inl rfl⟩
  | some q =>
    simp only
    by_cases hk : fa_X8_isContent a = 0
    · rw [if_pos hk, if_pos hk]
      exact ⟨rfl, rfl, rfl, rfl, rfl, Or.inl rfl⟩
    · rw [if_neg hk, if_neg hk]
      by_cases hc : ct_cat c n x < n
      · rw [if_pos hc, if_pos hc]
        exact ⟨rfl, rfl, rfl, rfl, rfl, Or.inr ⟨by show (0 : Int32) < 2; decide, by show (2 : Int32) ≠ 6; decide⟩⟩
      · rw [if_neg hc, if_neg hc]
        exact ⟨rfl, rfl, rfl, rfl, rfl, Or.inl rfl⟩
theorem mo_setMirror {x a : Int32} (hL : hh_L h) (w : MI h c P S y l t) (q : cw c n B) : ∃ h', mRes h h' (do_mir c P y n x a).1 cd3 (do_mir c P y n x a).2.1 (do_mir c P y n x a).2.2.1 S (do_mir c P y n x a).2.2.2 l t ∧ tr_L g (d + 12) m_X9_setMirror 0 [some (.ref 1099), some (.int x), some (.int a)] [] h (.inl (some (.int (ans (do_mir c P y n x a).1 cd3).1)), h') := by
  obtain ⟨h1, r1, q1, e12, e7, k⟩ := wrapK (g := g) (d := d + 10) hL w q.1
  obtain ⟨h2, r2, m2⟩ := sp_mirrorM (g := g) (d := d + 8) (x := x) (a := a) r1.2 q1 q e12
  obtain ⟨z1, z2, z3, z4, z5, z6⟩ := do_mir_eq (c := c) (n := n) (P := P) (y := y) (x := x) (a := a)
  obtain ⟨h3, r3, F3, i3, M3⟩ := k h2 _ _ r2.2 m2 z6
  exact ⟨h3, ⟨F3, by rw [i3, z4], by rw [z1, z2, z3]; exact M3⟩, sg_X9_setMirror_0 hL (d := d + 11) r1 r2 r3 (by rw [z5])⟩
theorem do_test_eq {x a : Int32} : (do_test c P y n x a).2.1 = (om_says c n x a).2.2.2 ∧ (do_test c P y n x a).2.2.1 = pO P c (om_says c n x a) ∧ (do_test c P y n x a).2.2.2 = yO y (om_says c n x a) ∧ (ans (do_test c P y n x a).1 cd_ray).2 = (om_says c n x a).1 ∧ (ans (do_test c P y n x a).1 cd_ray).1 = (if (om_says c n x a).1 = 0 then vm_says c n x a else 0) ∧ ((om_says c n x a).2.1 = 0 ∨ (0 < (om_says c n x a).2.1 ∧ (om_says c n x a).2.1 ≠ 6)) := by
  unfold vm_says do_test om_says
  cases idx 24 x with
  | none => exact ⟨rfl, rfl, rfl, rfl, rfl, Or.inl rfl⟩
  | some p =>
    simp only
    cases ox a with
    | none => exact ⟨rfl, rfl, rfl, rfl, rfl, Or.inl rfl⟩
    | some o =>
      simp only
      by_cases hc : ry_cat c n (ct_ry c p).1 = -1
      · rw [if_pos hc, if_pos hc]
        exact ⟨rfl, rfl, rfl, rfl, rfl, Or.inr ⟨by show (0 : Int32) < 3; decide, by show (3 : Int32) ≠ 6; decide⟩⟩
      · rw [if_neg hc, if_neg hc, if_neg hc]
        exact ⟨rfl, rfl, rfl, rfl, rfl, Or.inl rfl⟩
theorem mo_testify {x a : Int32} (hL : hh_L h) (w : MI h c P S y l t) (q : cw c n B) (he : R_end c) : ∃ h', mRes h h' (do_test c P y n x a).1 cd_ray (do_test c P y n x a).2.1 (do_test c P y n x a).2.2.1 S (do_test c P y n x a).2.2.2 l t ∧ tr_L g (d + 12) m_X9_testify 0 [some (.ref 1099), some (.int x), some (.int a)] [] h (.inl (some (.int (ans (do_test c P y n x a).1 cd_ray).1)), h') := by
  obtain ⟨h1, r1, q1, e12, e7, k⟩ := wrapK (g := g) (d := d + 10) hL w q.1
  obtain ⟨h2, r2, m2⟩ := sp_saysM (g := g) (d := d + 8) (x := x) (a := a) r1.2 q1 q he e12
  obtain ⟨z1, z2, z3, z4, z5, z6⟩ := do_test_eq (c := c) (n := n) (P := P) (y := y) (x := x) (a := a)
  obtain ⟨h3, r3, F3, i3, M3⟩ := k h2 _ _ r2.2 m2 z6
  exact ⟨h3, ⟨F3, by rw [i3, z4], by rw [z1, z2, z3]; exact M3⟩, sg_X9_testify_0 hL (d := d + 11) r1 r2 r3 (by rw [z5])⟩
theorem do_meth_eq {a : Int32} : (do_meth c P a).2.1 = (om_meth c a).2.2.2 ∧ (do_meth c P a).2.2 = pO P c (om_meth c a) ∧ y = yO y (om_meth c a) ∧ (ans (do_meth c P a).1 (fun _ => 1)).2 = (om_meth c a).1 ∧ (ans (do_meth c P a).1 (fun _ => 1)).1 = (if (om_meth c a).1 = 0 then (if fa_X8_isMethod a = 0 then 0 else ct_i c 1) else 0) ∧ ((om_meth c a).2.1 = 0 ∨ (0 < (om_meth c a).2.1 ∧ (om_meth c a).2.1 ≠ 6)) := by
  unfold do_meth om_meth
  by_cases hk : fa_X8_isMethod a = 0
  · rw [if_pos hk, if_pos hk]
    exact ⟨rfl, rfl, rfl, rfl, rfl, Or.inl rfl⟩
  · rw [if_neg hk, if_neg hk]
    exact ⟨rfl, rfl, rfl, rfl, (by rw [if_neg hk]; rfl), Or.inl rfl⟩
theorem mo_setMethod {a : Int32} (hL : hh_L h) (w : MI h c P S y l t) (q : cw c n B) : ∃ h', mRes h h' (do_meth c P a).1 (fun _ => 1) (do_meth c P a).2.1 (do_meth c P a).2.2 S y l t ∧ tr_L g (d + 12) m_X9_setMethod 0 [some (.ref 1099), some (.int a)] [] h (.inl (some (.int (ans (do_meth c P a).1 (fun _ => 1)).1)), h') := by
  obtain ⟨h1, r1, q1, e12, e7, k⟩ := wrapK (g := g) (d := d + 10) hL w q.1
  obtain ⟨h2, r2, m2⟩ := sp_methM (g := g) (d := d + 10) (x := a) r1.2 q1 q.2.1 e12
  obtain ⟨z1, z2, z3, z4, z5, z6⟩ := do_meth_eq (c := c) (P := P) (y := y) (a := a)
  obtain ⟨h3, r3, F3, i3, M3⟩ := k h2 _ _ r2.2 m2 z6
  have ec : (ans (do_meth c P a).1 (fun _ => 1)).1 = ((ans (do_meth c P a).1 (fun _ => 1)).1.toUInt32 % 65536).toInt32 := by
    refine (tr_nch ?_).symm
    rw [z5]
    have ok := q.1.2.2.1.2.2.1
    split
    · split
      · exact ⟨by decide, by decide⟩
      · exact ok
    · exact ⟨by decide, by decide⟩
  refine ⟨h3, ⟨F3, by rw [i3, z4], ?_⟩, sg_X9_setMethod_0 hL (d := d + 11) r1 r2 r3 (tr_chc _) (by rw [← z5, ← ec])⟩
  rw [z1, z2]
  rw [← z3] at M3
  exact M3
theorem vote_0 (w : cw c n B) : (ct_ve (ct_vote c n)).getD 0 0 = ct_verd c n := by
  have l6 := w.2.1.2.2.2.2.2.1
  have e : ct_ve (ct_vote c n) = ct_shift (ct_ve c) (ct_verd c n) := by
    unfold ct_vote ct_conc
    simp only
    split <;> rfl
  rw [e]
  simp [List.getD, ct_shift_get, l6]
theorem do_delib_eq (w : cw c n B) : (do_delib c P y n).2.1 = (om_vote c n).2.2.2 ∧ (do_delib c P y n).2.2.1 = pO P c (om_vote c n) ∧ (do_delib c P y n).2.2.2 = yO y (om_vote c n) ∧ (ans (do_delib c P y n).1 (fun _ => 1)).2 = (om_vote c n).1 ∧ (ans (do_delib c P y n).1 (fun _ => 1)).1 = (if (om_vote c n).1 = 0 then (if n = 0 then 0 else ct_verd c n) else 0) ∧ ((om_vote c n).2.1 = 0 ∨ (0 < (om_vote c n).2.1 ∧ (om_vote c n).2.1 ≠ 6)) := by
  unfold do_delib om_vote
  rw [vote_0 w]
  by_cases hk : n = 0
  · rw [if_pos hk, if_pos hk]
    exact ⟨rfl, rfl, rfl, rfl, rfl, Or.inr ⟨by show (0 : Int32) < 4; decide, by show (4 : Int32) ≠ 6; decide⟩⟩
  · rw [if_neg hk, if_neg hk]
    refine ⟨rfl, rfl, rfl, rfl, ?_, Or.inl rfl⟩
    rw [if_neg hk]
    generalize ct_verd c n = v
    rfl
theorem mo_deliberate (hL : hh_L h) (w : MI h c P S y l t) (q : cw c n B) (hB : B < 100000) (hS : ex_S c n) : ∃ h', mRes h h' (do_delib c P y n).1 (fun _ => 1) (do_delib c P y n).2.1 (do_delib c P y n).2.2.1 S (do_delib c P y n).2.2.2 l t ∧ tr_L g (d + 12) m_X9_deliberate 0 [some (.ref 1099)] [] h (.inl (some (.int (ans (do_delib c P y n).1 (fun _ => 1)).1)), h') := by
  obtain ⟨h1, r1, q1, e12, e7, k⟩ := wrapK (g := g) (d := d + 10) hL w q.1
  obtain ⟨h2, r2, m2⟩ := sp_votesAll (g := g) (d := d + 5) r1.2 q1 q hB hS e12 e7
  obtain ⟨z1, z2, z3, z4, z5, z6⟩ := do_delib_eq (P := P) (y := y) q
  obtain ⟨h3, r3, F3, i3, M3⟩ := k h2 _ _ r2.2 m2 z6
  have ec : (ans (do_delib c P y n).1 (fun _ => 1)).1 = ((ans (do_delib c P y n).1 (fun _ => 1)).1.toUInt32 % 65536).toInt32 := by
    refine (tr_nch ?_).symm
    rw [z5]
    split
    · split
      · exact ⟨by decide, by decide⟩
      · exact verd_ch
    · exact ⟨by decide, by decide⟩
  exact ⟨h3, ⟨F3, by rw [i3, z4], by rw [z1, z2, z3]; exact M3⟩, sg_X9_deliberate_0 hL (d := d + 11) r1 r2 r3 (tr_chc _) (by rw [← z5, ← ec])⟩
theorem do_retry_eq : (do_retry c P y n).2.1 = (om_ret c n).2.2.2 ∧ (do_retry c P y n).2.2.1 = pO P c (om_ret c n) ∧ (do_retry c P y n).2.2.2 = yO y (om_ret c n) ∧ (ans (do_retry c P y n).1 (fun _ => 1)).2 = (om_ret c n).1 ∧ (ans (do_retry c P y n).1 (fun _ => 1)).1 = (if (om_ret c n).1 = 0 then (if ct_may c = 0 then 0 else ct_chgd c n) else 0) ∧ ((om_ret c n).2.1 = 0 ∨ (0 < (om_ret c n).2.1 ∧ (om_ret c n).2.1 ≠ 6)) := by
  unfold do_retry om_ret
  by_cases hk : ct_may c = 0
  · rw [if_pos hk, if_pos hk]
    exact ⟨rfl, rfl, rfl, rfl, rfl, Or.inr ⟨by show (0 : Int32) < 5; decide, by show (5 : Int32) ≠ 6; decide⟩⟩
  · rw [if_neg hk, if_neg hk]
    exact ⟨rfl, rfl, rfl, rfl, (by rw [if_neg hk]; rfl), Or.inl rfl⟩
theorem mo_retry (hL : hh_L h) (w : MI h c P S y l t) (q : cw c n B) : ∃ h', mRes h h' (do_retry c P y n).1 (fun _ => 1) (do_retry c P y n).2.1 (do_retry c P y n).2.2.1 S (do_retry c P y n).2.2.2 l t ∧ tr_L g (d + 12) m_X9_retry 0 [some (.ref 1099)] [] h (.inl (some (.int (ans (do_retry c P y n).1 (fun _ => 1)).1)), h') := by
  obtain ⟨h1, r1, q1, e12, e7, k⟩ := wrapK (g := g) (d := d + 10) hL w q.1
  obtain ⟨h2, r2, m2⟩ := sp_retM (g := g) (d := d + 8) r1.2 q1 q e12
  obtain ⟨z1, z2, z3, z4, z5, z6⟩ := do_retry_eq (c := c) (n := n) (P := P) (y := y)
  obtain ⟨h3, r3, F3, i3, M3⟩ := k h2 _ _ r2.2 m2 z6
  exact ⟨h3, ⟨F3, by rw [i3, z4], by rw [z1, z2, z3]; exact M3⟩, sg_X9_retry_0 hL (d := d + 11) r1 r2 r3 (by rw [z5])⟩
/-! undo, snapshot -/
theorem mo_undo0 (hL : hh_L h) (w : MI h c [] S y l t) : ∃ h', mRes h h' (.inr 5) (fun _ => 1) c [] S y l t ∧ tr_L g (d + 12) m_X9_undo 0 [some (.ref 1099)] [] h (.inl (some (.int 0)), h') := by
  have e6 : hh_i h 99 6 = 0 := w.2.1.2.1
  have r1 := sp_thr1 (g := g) (d := d + 11) (x := 1) hL
  have m1 := mT_set (x := 1) hL
  exact ⟨_, ⟨hh_F_w m1.1 (by decide), m1.2.1, MI_of (hh_F_w m1.1 (by decide)) (fun sl a _ => m1.2.2 sl a) w⟩, sg_X9_undo_0 hL (fun t => absurd e6 t) (fun _ => sg_X9_undo_8 hL (d := d + 11) r1 (fun t => absurd t (by decide)) (fun _ => sg_X9_undo_20 r1.2 rfl))⟩
theorem mo_undo {e : CT} (hL : hh_L h) (w : MI h c (P ++ [e]) S y l t) : ∃ h', mRes h h' (.inl (Int32.ofNat P.length)) (fun _ => 1) e P S y l t ∧ tr_L g (d + 12) m_X9_undo 0 [some (.ref 1099)] [] h (.inl (some (.int (Int32.ofNat P.length))), h') := by
  obtain ⟨w1, ⟨p1, p2, p3⟩, w3, w4, w5, w6, w7⟩ := w
  have pl : (P ++ [e]).length = P.length + 1 := by simp
  rw [pl] at p1 p2
  have r1 := sp_thr0 (g := g) (d := d + 11) (x := 1) hL
  have m1 := mT_set (x := 0) hL
  have e6 : hh_i (hh_si h 99 8 7 0) 99 6 = Int32.ofNat (P.length + 1) := by rw [m1.2.2 6 (by omega)]; exact p2
  have L2 := ht99_7 (sl := 6) (x := Int32.ofNat P.length) r1.2 (by omega)
  have j2 : ∀ sl, hh_i (hh_si (hh_si h 99 8 7 0) 99 8 6 (Int32.ofNat P.length)) 99 sl = if 6 = sl then Int32.ofNat P.length else hh_i (hh_si h 99 8 7 0) 99 sl := fun sl => hh_i_sis r1.2 ht99 (by decide)
  obtain ⟨l', s1, s2, s3, s4⟩ := sp_copies (g := g) (d := d + 11) (a := 103) (b := 100) (i := 124 * P.length) (j := 0) L2 ht103 ht100 (by omega) (by omega) (by omega) (by omega) (Or.inl (by decide))
  rw [sl_self s1] at s3
  have a103 : hh_a (hh_si (hh_si h 99 8 7 0) 99 8 6 (Int32.ofNat P.length)) 103 = hh_a h 103 := by rw [hh_a_si (by decide), hh_a_si (by decide)]
  rw [a103] at s3
  have es : Int32.ofNat (P.length + 1) - 1 = Int32.ofNat P.length := ii_u _ 1 (by omega)
  have F : hh_F [99, 100] h (hh_sa (hh_si (hh_si h 99 8 7 0) 99 8 6 (Int32.ofNat P.length)) 100 0 l') := hh_F_tr (hh_F_si (by decide)) (hh_F_tr (hh_F_si (by decide)) (hh_F_sa (by decide)))
  have E : ∀ sl, sl ≠ 6 → sl ≠ 7 → hh_i (hh_sa (hh_si (hh_si h 99 8 7 0) 99 8 6 (Int32.ofNat P.length)) 100 0 l') 99 sl = hh_i h 99 sl := fun sl a b => by rw [hh_i_sa (by decide), j2, if_neg (fun e => a e.symm), m1.2.2 sl b]
  have E6 : hh_i (hh_sa (hh_si (hh_si h 99 8 7 0) 99 8 6 (Int32.ofNat P.length)) 100 0 l') 99 6 = Int32.ofNat P.length := by rw [hh_i_sa (by decide), j2, if_pos rfl]
  refine ⟨_, ⟨hh_F_w F (by decide), ?_, ?_, ⟨by omega, E6, fun i e' hi => ?_⟩, ?_, ?_, ?_, ?_, ?_⟩, sg_X9_undo_0 hL (fun _ => sg_X9_undo_12 hL (d := d + 11) r1 (fun _ => sg_X9_undo_22 r1.2 (d := d + 11) (h1 := hh_sa (hh_si (hh_si h 99 8 7 0) 99 8 6 (Int32.ofNat P.length)) 100 0 l') ?_ (by rw [E6])) (fun t => absurd rfl t)) (fun t => ?_)⟩
  · rw [hh_i_sa (by decide), j2, if_neg (by decide), m1.2.1]; rfl
  · rw [hh_a_sa (hh_L_lt L2 (by decide)), if_pos rfl, s3]
    exact p3 P.length e (by simp)
  · rw [hh_F_a F (by decide)]
    exact p3 i e' (by rw [List.getElem?_append_left (List.getElem?_eq_some_iff.mp hi).1]; exact hi)
  · rw [E 20 (by omega) (by omega), hh_F_a F (by decide)]; exact w3
  · rw [E 9 (by omega) (by omega), E 10 (by omega) (by omega), E 11 (by omega) (by omega), E 8 (by omega) (by omega)]; exact w4
  · rw [E 22 (by omega) (by omega), hh_F_a F (by decide)]; exact w5
  · rw [E 25 (by omega) (by omega)]; exact w6
  · rw [hh_F_a F (by decide)]; exact w7
  · rw [e6, es, j2, if_pos rfl, show (124 : Int32) = Int32.ofNat 124 from rfl, ii_m]
    exact s2
  · rw [p2] at t
    exact absurd ((ii_eq (b := 0) (by omega) (by omega)).mp t) (by omega)
theorem mo_save (hL : hh_L h) (w : MI h c P S y l t) : ∃ h', mRes h h' (.inl (ct_i c 0)) (fun _ => 1) c P (some c) y l t ∧ tr_L g (d + 12) m_X9_saveSnapshot 0 [some (.ref 1099)] [] h (.inl (some (.int (ct_i c 0))), h') := by
  obtain ⟨w1, w2, w3, w4, w5, w6, w7⟩ := w
  have L1 := ht99_7 (sl := 7) (x := 0) hL (by omega)
  have m1 := mT_set (x := 0) hL
  obtain ⟨l', s1, s2, s3, s4⟩ := sp_copies (g := g) (d := d + 11) (a := 100) (b := 102) (i := 0) (j := 0) L1 ht100 ht102 (by omega) (by omega) (by omega) (by omega) (Or.inl (by decide))
  rw [sl_self s1, sl_self (hh_a100 L1), hh_a_si (by decide)] at s3
  subst s3
  have L2 := s2.2
  have j3 : ∀ sl, hh_i (hh_si (hh_sa (hh_si h 99 8 7 0) 102 0 (hh_a h 100)) 99 8 20 1) 99 sl = if 20 = sl then 1 else hh_i (hh_sa (hh_si h 99 8 7 0) 102 0 (hh_a h 100)) 99 sl := fun sl => hh_i_sis L2 ht99 (by decide)
  have F : hh_F [99, 102] h (hh_si (hh_sa (hh_si h 99 8 7 0) 102 0 (hh_a h 100)) 99 8 20 1) := hh_F_tr (hh_F_si (by decide)) (hh_F_tr (hh_F_sa (by decide)) (hh_F_si (by decide)))
  have E : ∀ sl, sl ≠ 20 → sl ≠ 7 → hh_i (hh_si (hh_sa (hh_si h 99 8 7 0) 102 0 (hh_a h 100)) 99 8 20 1) 99 sl = hh_i h 99 sl := fun sl a b => by rw [j3, if_neg (fun e => a e.symm), hh_i_sa (by decide), m1.2.2 sl b]
  refine ⟨_, ⟨hh_F_w F (by decide), ?_, ?_, ?_, ⟨?_, fun e he => ?_⟩, ?_, ?_, ?_, ?_⟩, sg_X9_saveSnapshot_0 hL (d := d + 11) (j0 := 1) s2 rfl (by omega) ?_⟩
  · rw [j3, if_neg (by decide), hh_i_sa (by decide), m1.2.1]; rfl
  · rw [hh_F_a F (by decide)]; exact w1
  · exact MP_of (E 6 (by omega) (by omega)) (hh_F_a F (by decide)) w2
  · rw [j3, if_pos rfl]; rfl
  · rw [hh_a_si (by decide), hh_a_sa (hh_L_lt L1 (by decide)), if_pos rfl, ← Option.some.inj he]; exact w1
  · rw [E 9 (by omega) (by omega), E 10 (by omega) (by omega), E 11 (by omega) (by omega), E 8 (by omega) (by omega)]; exact w4
  · rw [E 22 (by omega) (by omega), hh_F_a F (by decide)]; exact w5
  · rw [E 25 (by omega) (by omega)]; exact w6
  · rw [hh_F_a F (by decide)]; exact w7
  · rw [hh_F_a F (by decide), w1.2.1.2.1]
theorem mo_rest0 (hL : hh_L h) (w : MI h c P none y l t) : ∃ h', mRes h h' (.inr 5) (fun _ => 1) c P none y l t ∧ tr_L g (d + 12) m_X9_restoreSnapshot 0 [some (.ref 1099)] [] h (.inl (some (.int 0)), h') := by
  have e6 : hh_i h 99 20 = 0 := w.2.2.1.1
  have r1 := sp_thr1 (g := g) (d := d + 11) (x := 1) hL
  have m1 := mT_set (x := 1) hL
  exact ⟨_, ⟨hh_F_w m1.1 (by decide), m1.2.1, MI_of (hh_F_w m1.1 (by decide)) (fun sl a _ => m1.2.2 sl a) w⟩, sg_X9_restoreSnapshot_0 hL (fun t => absurd e6 t) (fun _ => sg_X9_restoreSnapshot_8 hL (d := d + 11) r1 (fun t => absurd t (by decide)) (fun _ => sg_X9_restoreSnapshot_20 r1.2 rfl))⟩
theorem mo_rest {e : CT} (hL : hh_L h) (w : MI h c P (some e) y l t) : ∃ h', mRes h h' (.inl (ct_i e 0)) (fun _ => 1) e [] (some e) y l t ∧ tr_L g (d + 12) m_X9_restoreSnapshot 0 [some (.ref 1099)] [] h (.inl (some (.int (ct_i e 0))), h') := by
  obtain ⟨w1, w2, ⟨w31, w32⟩, w4, w5, w6, w7⟩ := w
  have r1 := sp_thr0 (g := g) (d := d + 11) (x := 1) hL
  have m1 := mT_set (x := 0) hL
  obtain ⟨l', s1, s2, s3, s4⟩ := sp_copies (g := g) (d := d + 11) (a := 102) (b := 100) (i := 0) (j := 0) r1.2 ht102 ht100 (by omega) (by omega) (by omega) (by omega) (Or.inl (by decide))
  rw [sl_self s1, sl_self (hh_arr r1.2 ht102).2, hh_a_si (by decide)] at s3
  subst s3
  have L2 := s2.2
  have j3 : ∀ sl, hh_i (hh_si (hh_sa (hh_si h 99 8 7 0) 100 0 (hh_a h 102)) 99 8 6 0) 99 sl = if 6 = sl then 0 else hh_i (hh_sa (hh_si h 99 8 7 0) 100 0 (hh_a h 102)) 99 sl := fun sl => hh_i_sis L2 ht99 (by decide)
  have F : hh_F [99, 100] h (hh_si (hh_sa (hh_si h 99 8 7 0) 100 0 (hh_a h 102)) 99 8 6 0) := hh_F_tr (hh_F_si (by decide)) (hh_F_tr (hh_F_sa (by decide)) (hh_F_si (by decide)))
  have E : ∀ sl, sl ≠ 6 → sl ≠ 7 → hh_i (hh_si (hh_sa (hh_si h 99 8 7 0) 100 0 (hh_a h 102)) 99 8 6 0) 99 sl = hh_i h 99 sl := fun sl a b => by rw [j3, if_neg (fun e => a e.symm), hh_i_sa (by decide), m1.2.2 sl b]
  have e1 := w32 e rfl
  have a100 : hh_a (hh_si (hh_sa (hh_si h 99 8 7 0) 100 0 (hh_a h 102)) 99 8 6 0) 100 = hh_a h 102 := by rw [hh_a_si (by decide), hh_a_sa (hh_L_lt r1.2 (by decide)), if_pos rfl]
  refine ⟨_, ⟨hh_F_w F (by decide), ?_, ?_, ⟨by simp, ?_, fun i e' hi => by simp at hi⟩, ⟨?_, fun e' he => ?_⟩, ?_, ?_, ?_, ?_⟩, sg_X9_restoreSnapshot_0 hL (fun _ => sg_X9_restoreSnapshot_12 hL (d := d + 11) r1 (fun _ => sg_X9_restoreSnapshot_22 r1.2 (d := d + 11) (j0 := 1) s2 rfl (by omega) ?_) (fun t => absurd rfl t)) (fun t => by rw [w31] at t; exact bI1 t)⟩
  · rw [j3, if_neg (by decide), hh_i_sa (by decide), m1.2.1]; rfl
  · rw [a100]; exact e1
  · rw [j3, if_pos rfl]; rfl
  · rw [E 20 (by omega) (by omega)]; exact w31
  · rw [hh_F_a F (by decide)]; exact w32 e' he
  · rw [E 9 (by omega) (by omega), E 10 (by omega) (by omega), E 11 (by omega) (by omega), E 8 (by omega) (by omega)]; exact w4
  · rw [E 22 (by omega) (by omega), hh_F_a F (by decide)]; exact w5
  · rw [E 25 (by omega) (by omega)]; exact w6
  · rw [hh_F_a F (by decide)]; exact w7
  · rw [a100, e1.2.1.2.1]
end
