/-! THE MODEL: the ray -/
theorem nx_I : ∀ q, q < 35 → ∀ w, w < 4 → fa_X9_next (Int32.ofNat q) (Int32.ofNat w) = if bx_nb q w = 35 then -1 - Int32.ofNat (bx_port q w) else Int32.ofNat (bx_nb q w) := by decide +kernel
theorem fc_I : ∀ p, p < 24 → fa_X9_firstCell (Int32.ofNat p) = Int32.ofNat (bx_cell p) ∧ fa_X9_firstWay (Int32.ofNat p) = Int32.ofNat (bx_dir p) := by decide +kernel
theorem po_I : ∀ q, q < 35 → ∀ w, w < 4 → (-1 - Int32.ofNat (bx_port q w) < 0) ∧ (-1) - (-1 - Int32.ofNat (bx_port q w)) = Int32.ofNat (bx_port q w) := by decide +kernel
/-- the model's numbers of the ray may change, no other -/
def mW (h h' : ev_AH) : Prop := hh_F [99] h h' ∧ ∀ sl, (sl < 15 ∨ 18 < sl) → hh_i h' 99 sl = hh_i h 99 sl
theorem mW_tr {h1 h2 h3 : ev_AH} (a : mW h1 h2) (b : mW h2 h3) : mW h1 h3 := ⟨hh_F_tr a.1 b.1, fun sl hs => (b.2 sl hs).trans (a.2 sl hs)⟩
theorem mW_rf {h : ev_AH} : mW h h := ⟨hh_F_rf, fun _ _ => rfl⟩
theorem mW_set {h : ev_AH} {sl : Nat} {x : Int32} (hL : hh_L h) (h1 : 15 ≤ sl) (h2 : sl ≤ 18) : mW h (hh_si h 99 8 sl x) := ⟨hh_F_si (by decide), fun j hj => by rw [hh_i_sis hL ht99 (by simp; omega), if_neg (by omega)]⟩
section
variable {g : tr_g} {d : Nat} {h h' : ev_AH} {c : CT} {n : Nat}
theorem sp_reflM {q0 w : Nat} (hL : hh_L h) (q : mQ h c n) (hw : co_w c n) (hq : q0 < 35) (h4 : w < 4) (h99 : (ct_co c).getD q0 0 ≠ 99) : tr_L g d m_X9_reflected 0 [some (.ref 1099), some (.int (Int32.ofNat q0)), some (.int (Int32.ofNat w))] [] h (.inl (some (.int (Int32.ofNat (bx_refl ((ct_co c).getD q0 0) w)))), h) := by
  have e0 : (19 : Int32) + Int32.ofNat q0 = Int32.ofNat (19 + q0) := by rw [show (19 : Int32) = Int32.ofNat 19 from rfl, ii_a]
  have es := q.1.2.2.2.1 q0 hq
  have w4 : w = 0 ∨ w = 1 ∨ w = 2 ∨ w = 3 := by omega
  rcases (hw q0 hq).1 with e | e | e | e
  · rw [if_pos (Or.inr e)] at es
    rw [e, show bx_refl 46 w = w from rfl]
    exact sg_X9_reflected_0 hL (j0 := 19 + q0) e0 (by omega) (fun _ => sg_X9_reflected_42 hL (j0 := 19 + q0) e0 (by omega) (fun _ => sg_X9_reflected_85 hL rfl) (fun t => by rw [es] at t; exact absurd t (by decide))) (fun t => by rw [es] at t; exact absurd t (by decide))
  · rw [e, if_neg (by decide)] at es
    rw [e]
    refine sg_X9_reflected_0 hL (j0 := 19 + q0) e0 (by omega) (fun t => absurd es t) (fun _ => ?_)
    rcases w4 with rfl | rfl | rfl | rfl
    · exact sg_X9_reflected_14 hL (fun _ => sg_X9_reflected_23 hL (fun t => absurd rfl t) (fun _ => sg_X9_reflected_27 hL rfl)) (fun t => absurd t (by decide))
    · exact sg_X9_reflected_14 hL (fun t => absurd rfl t) (fun _ => sg_X9_reflected_19 hL rfl)
    · exact sg_X9_reflected_14 hL (fun _ => sg_X9_reflected_23 hL (fun _ => sg_X9_reflected_31 hL (fun _ => sg_X9_reflected_40 hL rfl) (fun t => absurd t (by decide))) (fun t => absurd t (by decide))) (fun t => absurd t (by decide))
    · exact sg_X9_reflected_14 hL (fun _ => sg_X9_reflected_23 hL (fun _ => sg_X9_reflected_31 hL (fun t => absurd rfl t) (fun _ => sg_X9_reflected_36 hL rfl)) (fun t => absurd t (by decide))) (fun t => absurd t (by decide))
  · rw [e, if_neg (by decide)] at es
    rw [e]
    refine sg_X9_reflected_0 hL (j0 := 19 + q0) e0 (by omega) (fun _ => sg_X9_reflected_42 hL (j0 := 19 + q0) e0 (by omega) (fun t => absurd es t) (fun _ => ?_)) (fun t => by rw [es] at t; exact absurd t (by decide))
    rcases w4 with rfl | rfl | rfl | rfl
    · exact sg_X9_reflected_56 hL (fun _ => sg_X9_reflected_65 hL (fun _ => sg_X9_reflected_74 hL (fun _ => sg_X9_reflected_83 hL rfl) (fun t => absurd t (by decide))) (fun t => absurd t (by decide))) (fun t => absurd t (by decide))
    · exact sg_X9_reflected_56 hL (fun t => absurd rfl t) (fun _ => sg_X9_reflected_61 hL rfl)
    · exact sg_X9_reflected_56 hL (fun _ => sg_X9_reflected_65 hL (fun t => absurd rfl t) (fun _ => sg_X9_reflected_70 hL rfl)) (fun t => absurd t (by decide))
    · exact sg_X9_reflected_56 hL (fun _ => sg_X9_reflected_65 hL (fun _ => sg_X9_reflected_74 hL (fun t => absurd rfl t) (fun _ => sg_X9_reflected_79 hL rfl)) (fun t => absurd t (by decide))) (fun t => absurd t (by decide))
  · exact absurd e h99
theorem bx_turn {k : Int32} {w : Nat} (h4 : w < 4) (hk : k = 46 ∨ k = 47 ∨ k = 92) : (bx_refl k w = w ↔ k = 46) := by
  have w4 : w = 0 ∨ w = 1 ∨ w = 2 ∨ w = 3 := by omega
  rcases hk with rfl | rfl | rfl <;> rcases w4 with rfl | rfl | rfl | rfl <;> decide
theorem mQ_W (a : mW h h') (q : mQ h c n) : mQ h' c n := mQ_F a.1 (by decide) q
/-- what the model says of a ray -/
def mRay (h : ev_AH) (c : CT) (n : Nat) (r : Option (Nat ⊕ Nat) × Nat × Nat) : Prop := hh_i h 99 15 = ry_cat c n r.1 ∧ (∀ e, r.1 = some (.inr e) → hh_i h 99 16 = Int32.ofNat e) ∧ hh_i h 99 17 = Int32.ofNat r.2.1 ∧ hh_i h 99 18 = Int32.ofNat r.2.2
theorem sp_shines {p : Nat} (hL : hh_L h) (q : mQ h c n) (hw : co_w c n) (hp : p < 24) (hend : (ct_ry c p).1 ≠ none) : ∃ h', tr_L g (d + 2) m_X9_shines 0 [some (.ref 1099), some (.int (Int32.ofNat p)), none, none, none] [] h (.inl none, h') ∧ mW h h' ∧ mRay h' c n (ct_ry c p) := by
  have h7 := q.2.2.1
  have key : ∀ (m q0 w len b : Nat) (w4 : Option Value) (h : ev_AH), q0 < 35 → w < 4 → hh_L h → mQ h c n → hh_i h 99 15 = -1 → hh_i h 99 17 = Int32.ofNat len → hh_i h 99 18 = Int32.ofNat b → (ry (ct_c c) m q0 w len b).1 ≠ none → ∃ h', tr_L g (d + 2) m_X9_shines 25 [some (.ref 1099), some (.int (Int32.ofNat p)), some (.int (Int32.ofNat q0)), some (.int (Int32.ofNat w)), w4] [] h (.inl none, h') ∧ mW h h' ∧ mRay h' c n (ry (ct_c c) m q0 w len b) := by
    intro m
    induction m with
    | zero =>
      intro q0 w len b w4 h _ _ _ _ _ _ _ he
      exact absurd rfl he
    | succ m ih =>
      intro q0 w len b w4 h hq hw4 hL q i15 i17 i18 he
      have L1 := ht99_7 (sl := 17) (x := Int32.ofNat (len + 1)) hL (by omega)
      have W1 := mW_set (sl := 17) (x := Int32.ofNat (len + 1)) hL (by omega) (by omega)
      have q1 := mQ_W W1 q
      have r1 := sp_catOn (g := g) (d := d) (x := Int32.ofNat q0) L1 q1
      have g17 : hh_i h 99 17 + 1 = Int32.ofNat (len + 1) := by rw [i17, ii_s]
      have j : ∀ sl, hh_i (hh_si h 99 8 17 (Int32.ofNat (len + 1))) 99 sl = if 17 = sl then Int32.ofNat (len + 1) else hh_i h 99 sl := fun sl => hh_i_sis hL ht99 (by decide)
      have pre : ∀ r, (∀ v, v = ii_o (ct_cat c n (Int32.ofNat q0)) n → (v < 0 → tr_L g (d + 2) m_X9_shines 57 [some (.ref 1099), some (.int (Int32.ofNat p)), some (.int (Int32.ofNat q0)), some (.int (Int32.ofNat w)), w4] [] (hh_si h 99 8 17 (Int32.ofNat (len + 1))) r) ∧ (0 ≤ v → tr_L g (d + 2) m_X9_shines 47 [some (.ref 1099), some (.int (Int32.ofNat p)), some (.int (Int32.ofNat q0)), some (.int (Int32.ofNat w)), w4] [] (hh_si h 99 8 17 (Int32.ofNat (len + 1))) r)) → tr_L g (d + 2) m_X9_shines 25 [some (.ref 1099), some (.int (Int32.ofNat p)), some (.int (Int32.ofNat q0)), some (.int (Int32.ofNat w)), w4] [] h r := fun r kk =>
        sg_X9_shines_25 hL (fun t => absurd t (Int32.not_lt.mpr (ii_nn (by omega)))) (fun _ => sg_X9_shines_29 hL (d := d + 1) (h1 := hh_si h 99 8 17 (Int32.ofNat (len + 1))) (by rw [g17]; exact r1) (kk _ rfl).1 (kk _ rfl).2)
      unfold ry at he ⊢
      by_cases h99 : ct_c c q0 = 99
      · rw [if_pos h99] at he ⊢
        have hc : ct_cat c n (Int32.ofNat q0) < n := (hw q0 hq).2.mp h99
        have L2 := ht99_7 (sl := 15) (x := ii_o (ct_cat c n (Int32.ofNat q0)) n) L1 (by omega)
        have j2 : ∀ sl, hh_i (hh_si (hh_si h 99 8 17 (Int32.ofNat (len + 1))) 99 8 15 (ii_o (ct_cat c n (Int32.ofNat q0)) n)) 99 sl = if 15 = sl then ii_o (ct_cat c n (Int32.ofNat q0)) n else hh_i (hh_si h 99 8 17 (Int32.ofNat (len + 1))) 99 sl := fun sl => hh_i_sis L1 ht99 (by decide)
        refine ⟨hh_si (hh_si h 99 8 17 (Int32.ofNat (len + 1))) 99 8 15 (ii_o (ct_cat c n (Int32.ofNat q0)) n), pre _ (fun v hv => ⟨fun t => ?_, fun _ => sg_X9_shines_47 L1 (d := d + 1) r1 rfl⟩), mW_tr W1 (mW_set L1 (by omega) (by omega)), ?_, fun e h => ?_, ?_, ?_⟩
        · rw [hv, ii_o, if_pos hc] at t
          exact absurd t (Int32.not_lt.mpr (ii_nn (by omega)))
        · rw [j2, if_pos rfl]; rfl
        · cases h
        · rw [j2, if_neg (by decide), j, if_pos rfl]
        · rw [j2, if_neg (by decide), j, if_neg (by decide)]; exact i18
      · rw [if_neg h99] at he ⊢
        have hc : ¬ ct_cat c n (Int32.ofNat q0) < n := fun t => h99 ((hw q0 hq).2.mpr t)
        have hk : ct_c c q0 = 46 ∨ ct_c c q0 = 47 ∨ ct_c c q0 = 92 := by
          rcases (hw q0 hq).1 with e | e | e | e
          · exact Or.inl e
          · exact Or.inr (Or.inl e)
          · exact Or.inr (Or.inr e)
          · exact absurd e h99
        have r2 := sp_reflM (g := g) (d := d + 1) (q0 := q0) (w := w) L1 q1 hw hq hw4 h99
        have hw2 : bx_refl (ct_c c q0) w < 4 := bx_refl_lt hw4
        have turn := bx_turn (k := ct_c c q0) hw4 hk
        have g18 : hh_i (hh_si h 99 8 17 (Int32.ofNat (len + 1))) 99 18 = Int32.ofNat b := by rw [j, if_neg (by decide)]; exact i18
        -- the heap behind the turn is told
        have L3 := ht99_7 (sl := 18) (x := Int32.ofNat (if ct_c c q0 = 46 then b else b + 1)) L1 (by omega)
        have W3 := mW_tr W1 (mW_set (sl := 18) (x := Int32.ofNat (if ct_c c q0 = 46 then b else b + 1)) L1 (by omega) (by omega))
        have j3 : ∀ sl, hh_i (hh_si (hh_si h 99 8 17 (Int32.ofNat (len + 1))) 99 8 18 (Int32.ofNat (if ct_c c q0 = 46 then b else b + 1))) 99 sl = if 18 = sl then Int32.ofNat (if ct_c c q0 = 46 then b else b + 1) else hh_i (hh_si h 99 8 17 (Int32.ofNat (len + 1))) 99 sl := fun sl => hh_i_sis L1 ht99 (by decide)
        have r4 := sa_X9_next (g := g) (d := d + 1) (x0 := Int32.ofNat q0) (x1 := Int32.ofNat (bx_refl (ct_c c q0) w)) L3
        rw [nx_I q0 hq _ hw2] at r4
        have pre2 : ∀ r, tr_L g (d + 2) m_X9_shines 25 [some (.ref 1099), some (.int (Int32.ofNat p)), some (.int (if bx_nb q0 (bx_refl (ct_c c q0) w) = 35 then -1 - Int32.ofNat (bx_port q0 (bx_refl (ct_c c q0) w)) else Int32.ofNat (bx_nb q0 (bx_refl (ct_c c q0) w)))), some (.int (Int32.ofNat (bx_refl (ct_c c q0) w))), some (.int (Int32.ofNat (bx_refl (ct_c c q0) w)))] [] (hh_si (hh_si h 99 8 17 (Int32.ofNat (len + 1))) 99 8 18 (Int32.ofNat (if ct_c c q0 = 46 then b else b + 1))) r → tr_L g (d + 2) m_X9_shines 25 [some (.ref 1099), some (.int (Int32.ofNat p)), some (.int (Int32.ofNat q0)), some (.int (Int32.ofNat w)), w4] [] h r := fun r kk => by
          refine pre _ (fun v hv => ⟨fun _ => sg_X9_shines_57 L1 (d := d + 1) r2 (fun t => ?_) (fun t => ?_), fun t => ?_⟩)
          · have n46 : ct_c c q0 ≠ 46 := fun e => t (congrArg Int32.ofNat (turn.mpr e))
            rw [if_neg n46] at r4 kk
            refine sg_X9_shines_80 L1 (d := d + 1) (h1 := hh_si (hh_si h 99 8 17 (Int32.ofNat (len + 1))) 99 8 18 (Int32.ofNat (b + 1))) ?_ rfl kk
            rw [g18, ii_s]
            exact r4
          · have y46 : ct_c c q0 = 46 := turn.mp ((ii_eq (by omega) (by omega)).mp t)
            rw [if_pos y46] at r4 kk
            refine sg_X9_shines_76 L1 (d := d + 1) (h1 := hh_si (hh_si h 99 8 17 (Int32.ofNat (len + 1))) 99 8 18 (Int32.ofNat b)) ?_ rfl kk
            rw [g18, Int32.add_zero]
            exact r4
          · rw [hv, ii_o, if_neg hc] at t
            exact absurd t (by decide)
        have h17 : hh_i (hh_si (hh_si h 99 8 17 (Int32.ofNat (len + 1))) 99 8 18 (Int32.ofNat (if ct_c c q0 = 46 then b else b + 1))) 99 17 = Int32.ofNat (len + 1) := by rw [j3, if_neg (by decide), j, if_pos rfl]
        have h18 : hh_i (hh_si (hh_si h 99 8 17 (Int32.ofNat (len + 1))) 99 8 18 (Int32.ofNat (if ct_c c q0 = 46 then b else b + 1))) 99 18 = Int32.ofNat (if ct_c c q0 = 46 then b else b + 1) := by rw [j3, if_pos rfl]
        have h15 : hh_i (hh_si (hh_si h 99 8 17 (Int32.ofNat (len + 1))) 99 8 18 (Int32.ofNat (if ct_c c q0 = 46 then b else b + 1))) 99 15 = -1 := by rw [j3, if_neg (by decide), j, if_neg (by decide)]; exact i15
        by_cases hn : bx_nb q0 (bx_refl (ct_c c q0) w) = 35
        · rw [if_pos hn] at he pre2 ⊢
          obtain ⟨o1, o2⟩ := po_I q0 hq _ hw2
          have j5 : ∀ sl, hh_i (hh_si (hh_si (hh_si h 99 8 17 (Int32.ofNat (len + 1))) 99 8 18 (Int32.ofNat (if ct_c c q0 = 46 then b else b + 1))) 99 8 16 (Int32.ofNat (bx_port q0 (bx_refl (ct_c c q0) w)))) 99 sl = if 16 = sl then Int32.ofNat (bx_port q0 (bx_refl (ct_c c q0) w)) else hh_i (hh_si (hh_si h 99 8 17 (Int32.ofNat (len + 1))) 99 8 18 (Int32.ofNat (if ct_c c q0 = 46 then b else b + 1))) 99 sl := fun sl => hh_i_sis L3 ht99 (by decide)
          refine ⟨_, pre2 _ (sg_X9_shines_25 L3 (fun _ => sg_X9_shines_97 L3 (by rw [o2])) (fun t => absurd o1 (Int32.not_lt.mpr t))), mW_tr W3 (mW_set L3 (by omega) (by omega)), ?_, fun e h => ?_, ?_, ?_⟩
          · rw [j5, if_neg (by decide)]; exact h15
          · have h := Sum.inr.inj (Option.some.inj h)
            rw [j5, if_pos rfl, h]
          · rw [j5, if_neg (by decide)]; exact h17
          · rw [j5, if_neg (by decide)]; exact h18
        · rw [if_neg hn] at he pre2 ⊢
          have hb := bx_lt hq hw2
          obtain ⟨h5, r5, W5, R5⟩ := ih (bx_nb q0 (bx_refl (ct_c c q0) w)) (bx_refl (ct_c c q0) w) (len + 1) (if ct_c c q0 = 46 then b else b + 1) (some (.int (Int32.ofNat (bx_refl (ct_c c q0) w)))) _ (by omega) hw2 L3 (mQ_W W3 q) h15 h17 h18 he
          exact ⟨h5, pre2 _ r5, mW_tr W3 W5, R5⟩
  obtain ⟨f1, f2⟩ := bx_facts p hp
  obtain ⟨e1, e2⟩ := fc_I p hp
  have r1 := sa_X9_firstCell (g := g) (d := d + 1) (x0 := Int32.ofNat p) hL
  have r2 := sa_X9_firstWay (g := g) (d := d + 1) (x0 := Int32.ofNat p) hL
  rw [e1] at r1
  rw [e2] at r2
  have L1 := ht99_7 (sl := 17) (x := 0) hL (by omega)
  have L2 := ht99_7 (sl := 18) (x := 0) L1 (by omega)
  have L3 := ht99_7 (sl := 15) (x := -1) L2 (by omega)
  have W3 := mW_tr (mW_set (sl := 17) (x := 0) hL (by omega) (by omega)) (mW_tr (mW_set (sl := 18) (x := 0) L1 (by omega) (by omega)) (mW_set (sl := 15) (x := -1) L2 (by omega) (by omega)))
  have a15 : hh_i (hh_si (hh_si (hh_si h 99 8 17 0) 99 8 18 0) 99 8 15 (-1)) 99 15 = -1 := by rw [hh_i_sis L2 ht99 (by decide), if_pos rfl]
  have a17 : hh_i (hh_si (hh_si (hh_si h 99 8 17 0) 99 8 18 0) 99 8 15 (-1)) 99 17 = Int32.ofNat 0 := by rw [hh_i_sis L2 ht99 (by decide), if_neg (by decide), hh_i_sis L1 ht99 (by decide), if_neg (by decide), hh_i_sis hL ht99 (by decide), if_pos rfl]; rfl
  have a18 : hh_i (hh_si (hh_si (hh_si h 99 8 17 0) 99 8 18 0) 99 8 15 (-1)) 99 18 = Int32.ofNat 0 := by rw [hh_i_sis L2 ht99 (by decide), if_neg (by decide), hh_i_sis L1 ht99 (by decide), if_pos rfl]; rfl
  obtain ⟨h4, r4, W4, R4⟩ := key 140 (bx_cell p) (bx_dir p) 0 0 none _ f1 f2 L3 (mQ_W W3 q) a15 a17 a18 hend
  exact ⟨h4, sg_X9_shines_0 hL (d := d + 1) r1 r2 r4, mW_tr W3 W4, R4⟩
end
