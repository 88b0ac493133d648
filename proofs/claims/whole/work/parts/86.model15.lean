/-! THE MODEL: the winner by strengths; the calls about strengths -/
theorem st_wk_eq {l l' : List Int32} {o : Nat} (s : sEq l l') (ho : o < 4) : st_wk l o = st_wk l' o := mm_find_congr (fun j hj => by
  by_cases e : o = j
  · subst e
    rw [decide_eq_false Int32.lt_irrefl, decide_eq_false Int32.lt_irrefl]
  · rw [s.2.2 o ho j hj e, s.2.2 j hj o ho (fun h => e h.symm)])
/-- there is a winner by strengths -/
def ex_S (c : CT) (n : Nat) : Prop := ∃ o, o < 4 ∧ ¬ st_wk (ct_st c n) o < 4
section
variable {g : tr_g} {d : Nat} {h h' : ev_AH} {c : CT} {n : Nat}
theorem sp_bySt (hL : hh_L h) (q : mQ h c n) (hS : ex_S c n) : ∃ h', tr_L g (d + 4) m_X9_byStrengths 0 [some (.ref 1099), none, none, none] [] h (.inl (some (.int (Int32.ofNat (ct_bySt c n)))), h') ∧ hh_F [105] h h' := by
  obtain ⟨h1, r1, F1, a1⟩ := sp_strM (g := g) (d := d) hL q
  have L1 := r1.2
  have e4 : ∀ a b : Nat, (4 : Int32) * Int32.ofNat a + Int32.ofNat b = Int32.ofNat (4 * a + b) := ii_4
  have inner : ∀ o, o < 4 → ∀ m b, b + m = 4 → ∀ (x : Int32) (ok : Bool), x = bI ok → (ok = true → ∀ j, j < b → decide (tI (ct_sm c n) o j < tI (ct_sm c n) j o) = false) → (ok = false → ∃ j, j < b ∧ decide (tI (ct_sm c n) o j < tI (ct_sm c n) j o) = true) → ∀ res, (∀ w3 : Option Value, tr_L g (d + 4) m_X9_byStrengths 57 [some (.ref 1099), some (.int (Int32.ofNat o)), some (.int (if st_wk (ct_sm c n) o < 4 then 0 else 1)), w3] [] h1 res) → tr_L g (d + 4) m_X9_byStrengths 15 [some (.ref 1099), some (.int (Int32.ofNat o)), some (.int x), some (.int (Int32.ofNat b))] [] h1 res := by
    intro o ho m
    induction m with
    | zero =>
      intro b hb x ok hx h1' h2' res kk
      have : b = 4 := by omega
      subst this
      refine sg_X9_byStrengths_15 L1 (fun _ => ?_) (fun t => lp_end t)
      have z := kk (some (.int (Int32.ofNat 4)))
      cases ok with
      | true =>
        have e : st_wk (ct_sm c n) o = 4 := mm_find_no (h1' rfl)
        rw [e, if_neg (by omega)] at z
        rw [hx]
        exact z
      | false =>
        obtain ⟨j, hj, hw⟩ := h2' rfl
        have hlt : st_wk (ct_sm c n) o < 4 := by
          have hsp := mm_find_spec (fun b => decide (tI (ct_sm c n) o b < tI (ct_sm c n) b o)) 4
          have hle := mm_find_le (fun b => decide (tI (ct_sm c n) o b < tI (ct_sm c n) b o)) 4
          rcases Nat.lt_or_ge (st_wk (ct_sm c n) o) 4 with h | h
          · exact h
          · have := hsp.2 j (by unfold st_wk at h; omega)
            rw [hw] at this
            cases this
        rw [if_pos hlt] at z
        rw [hx]
        exact z
    | succ m ih =>
      intro b hb x ok hx h1' h2' res kk
      have hb4 : b < 4 := by omega
      refine sg_X9_byStrengths_15 L1 (fun t => lp_no hb4 (by omega) t) (fun _ => sg_X9_byStrengths_20 L1 (e4 _ _) (by omega) (e4 _ _) (by omega) (fun t => sg_X9_byStrengths_48 L1 ?_) (fun t => sg_X9_byStrengths_44 L1 ?_))
      · rw [a1] at t
        rw [ii_s]
        refine ih (b + 1) (by omega) (x &&& 0) false (by rw [hx]; cases ok <;> rfl) (fun e => by cases e) (fun _ => ⟨b, by omega, decide_eq_true t⟩) res kk
      · rw [a1] at t
        rw [ii_s]
        refine ih (b + 1) (by omega) (x &&& 1) ok (by rw [hx]; cases ok <;> rfl) (fun e j hj => ?_) (fun e => ?_) res kk
        · by_cases hjb : j = b
          · subst hjb
            exact decide_eq_false (Int32.not_lt.mpr t)
          · exact h1' e j (by omega)
        · obtain ⟨j, hj, hw⟩ := h2' e
          exact ⟨j, by omega, hw⟩
  have outer : ∀ m o, o + m = 4 → (∀ j, j < o → st_wk (ct_st c n) j < 4) → ∀ w2 w3 : Option Value, tr_L g (d + 4) m_X9_byStrengths 6 [some (.ref 1099), some (.int (Int32.ofNat o)), w2, w3] [] h1 (.inl (some (.int (Int32.ofNat (ct_bySt c n)))), h1) := by
    intro m
    induction m with
    | zero =>
      intro o ho hb
      obtain ⟨j, hj, hw⟩ := hS
      exact absurd (hb j (by omega)) hw
    | succ m ih =>
      intro o ho hb w2 w3
      have ho4 : o < 4 := by omega
      refine sg_X9_byStrengths_6 L1 (fun t => lp_no ho4 (by omega) t) (fun _ => sg_X9_byStrengths_11 L1 (inner o ho4 4 0 (by omega) 1 true rfl (fun _ j hj => absurd hj (by omega)) (fun e => by cases e) _ (fun w3 => ?_)))
      rw [← st_wk_eq sm_eq ho4]
      by_cases hw : st_wk (ct_st c n) o < 4
      · rw [if_pos hw]
        refine sg_X9_byStrengths_57 L1 (fun _ => sg_X9_byStrengths_63 L1 ?_) (fun t => absurd rfl t)
        rw [ii_s]
        refine ih (o + 1) (by omega) (fun j hj => ?_) _ _
        by_cases hjo : j = o
        · rw [hjo]; exact hw
        · exact hb j (by omega)
      · rw [if_neg hw]
        refine sg_X9_byStrengths_57 L1 (fun t => absurd t (by decide)) (fun _ => sg_X9_byStrengths_61 L1 ?_)
        have e : ct_bySt c n = o := by
          by_cases ho3 : o < 3
          · exact mm_find_at ho3 (decide_eq_true hw) (fun j hj => decide_eq_false (fun hno => hno (hb j hj)))
          · have : o = 3 := by omega
            subst this
            exact mm_find_no (fun j hj => decide_eq_false (fun hno => hno (hb j hj)))
        rw [e]
  exact ⟨h1, sg_X9_byStrengths_0 hL (d := d + 3) r1 (outer 4 0 (by omega) (fun j hj => absurd hj (by omega)) _ _), F1⟩
/-- thrown is x; the numbers of answer, ray and rounds, and the tables of efforts and strengths may change, no other -/
def mU (h h' : ev_AH) (x : Int32) : Prop := hh_F [99, 104, 105] h h' ∧ hh_i h' 99 7 = x ∧ ∀ sl, sl ≠ 7 → (sl < 14 ∨ 19 < sl) → hh_i h' 99 sl = hh_i h 99 sl
theorem mU_T {x : Int32} (a : mT h h' x) : mU h h' x := ⟨hh_F_w a.1 (by decide), a.2.1, fun sl h1 _ => a.2.2 sl h1⟩
theorem mU_V {x : Int32} (a : mV h h' x) : mU h h' x := ⟨hh_F_w a.1 (by decide), a.2.1, fun sl h1 h2 => a.2.2 sl h1 (by omega)⟩
theorem mU_Y {x : Int32} (a : mY h h' x) : mU h h' x := ⟨hh_F_w a.1 (by decide), a.2.1, fun sl h1 h2 => a.2.2 sl h1 h2⟩
theorem mU_F {h1 h2 h3 : ev_AH} {x : Int32} {ks : List Nat} (a : mU h1 h2 x) (b : hh_F ks h2 h3) (hk : ∀ k ∈ ks, k = 104 ∨ k = 105) : mU h1 h3 x := ⟨hh_F_tr a.1 (hh_F_w b (fun k hk' => by rcases hk k hk' with rfl | rfl <;> decide)), by rw [hh_F_i b (fun hm => by rcases hk _ hm with e | e <;> omega)]; exact a.2.1, fun sl h1 h2 => by rw [hh_F_i b (fun hm => by rcases hk _ hm with e | e <;> omega)]; exact a.2.2 sl h1 h2⟩
theorem mU_UT {h1 h2 h3 : ev_AH} {x y : Int32} (a : mU h1 h2 x) (b : mT h2 h3 y) : mU h1 h3 y := ⟨hh_F_tr a.1 (hh_F_w b.1 (by decide)), b.2.1, fun sl h1 h2 => (b.2.2 sl h1).trans (a.2.2 sl h1 h2)⟩
theorem mU_UW {h1 h2 h3 : ev_AH} {x : Int32} (a : mU h1 h2 x) (b : mW h2 h3) : mU h1 h3 x := ⟨hh_F_tr a.1 (hh_F_w b.1 (by decide)), by rw [b.2 7 (by omega)]; exact a.2.1, fun sl h1 h2 => (b.2 sl (by omega)).trans (a.2.2 sl h1 h2)⟩
theorem mQ_U {x : Int32} (a : mU h h' x) (q : mQ h c n) : mQ h' c n := mQ_F a.1 (by decide) q
theorem mo_strength {x y : Int32} (hL : hh_L h) (q : mQ h c n) : ∃ h', mU h h' (ans (an_strength c n x y) (fun _ => 1)).2 ∧ tr_L g (d + 12) m_X9_strengthOf 0 [some (.ref 1099), some (.int x), some (.int y)] [] h (.inl (some (.int (ans (an_strength c n x y) (fun _ => 1)).1)), h') := by
  have r := sa_X9_areOptions (g := g) (d := d + 9) (x0 := x) (x1 := y) hL
  rw [ix_pair] at r
  unfold an_strength
  rcases ox2_c x y with ⟨a, b, ha, hb, hab, e1, e2, e3, e4⟩ | ⟨e3, e4⟩
  · rw [e3] at r
    simp only [e3]
    have r1 := sp_thr0 (g := g) (d := d + 11) (x := 1) hL
    have m1 := mT_set (x := 0) hL
    obtain ⟨h2, r2, F2, a2⟩ := sp_strM (g := g) (d := d + 8) r1.2 (mQ_T m1 q)
    have ei : ((4 : Int32) * (x - 97) + y) - 97 = Int32.ofNat (4 * a + b) := by
      rw [Int32.sub_eq_add_neg, Int32.add_assoc, ← Int32.sub_eq_add_neg, e1, e2, ii_idx ha, ii_idx hb, ii_4]
    have ev : (hh_a h2 105).getD (4 * a + b) 0 = tI (ct_st c n) a b := by
      rw [a2]
      exact (sm_eq.2.2 a ha b hb hab).symm
    clear a2
    generalize tI (ct_st c n) a b = v at ev
    exact ⟨h2, mU_F (mU_T m1) F2 (fun k hk => by simp at hk; omega), sg_X9_strengthOf_0 hL (d := d + 11) r (fun _ => sg_X9_strengthOf_13 hL (d := d + 11) r1 (fun _ => sg_X9_strengthOf_23 r1.2 (d := d + 11) r2 ei (by omega) (by rw [ev]; rfl)) (fun t => absurd rfl t)) (fun t => bI1 t)⟩
  · rw [e3] at r ⊢
    have r1 := sp_thr1 (g := g) (d := d + 11) (x := 1) hL
    exact ⟨_, mU_T (mT_set hL), sg_X9_strengthOf_0 hL (d := d + 11) r (fun t => absurd rfl t) (fun _ => sg_X9_strengthOf_9 hL (d := d + 11) r1 (fun t => absurd t (by decide)) (fun _ => sg_X9_strengthOf_21 r1.2 rfl))⟩
theorem mo_tried {x y : Int32} (hL : hh_L h) (q : mQ h c n) (A : ag_S c n) : ∃ h', mU h h' (ans (an_tried c n x y) (fun _ => 1)).2 ∧ tr_L g (d + 13) m_X9_strengthByTrying 0 [some (.ref 1099), some (.int x), some (.int y)] [] h (.inl (some (.int (ans (an_tried c n x y) (fun _ => 1)).1)), h') := by
  obtain ⟨h', U, r⟩ := mo_strength (g := g) (d := d) (x := x) (y := y) hL q
  have e : an_tried c n x y = an_strength c n x y := by
    unfold an_tried an_strength
    rcases ox2_c x y with ⟨a, b, ha, hb, hab, e1, e2, e3, e4⟩ | ⟨e3, e4⟩
    · rw [e3]
      simp only
      rw [A a ha b hb hab]
    · rw [e3]
  rw [e]
  exact ⟨h', U, sg_X9_strengthByTrying_0 hL (d := d + 12) r rfl⟩
theorem mo_strWinner (hL : hh_L h) (q : mQ h c n) (hS : ex_S c n) : ∃ h', mU h h' (ans (an_win ct_bySt c n) (fun _ => 1)).2 ∧ tr_L g (d + 12) m_X9_strengthWinner 0 [some (.ref 1099)] [] h (.inl (some (.int (ans (an_win ct_bySt c n) (fun _ => 1)).1)), h') := by
  have h7 := q.2.2.1
  have e1 := m_n q
  unfold an_win
  by_cases hn : n = 0
  · rw [if_pos hn]
    have r1 := sp_thr1 (g := g) (d := d + 11) (x := 1) hL
    exact ⟨_, mU_T (mT_set hL), sg_X9_strengthWinner_0 hL (d := d + 12) (j0 := 1) rfl (by omega) (fun t => absurd (by rw [e1, hn]; rfl) t) (fun _ => sg_X9_strengthWinner_10 hL (d := d + 11) r1 (fun t => absurd t (by decide)) (fun _ => sg_X9_strengthWinner_22 r1.2 rfl))⟩
  · rw [if_neg hn]
    have r1 := sp_thr0 (g := g) (d := d + 11) (x := 1) hL
    have m1 := mT_set (x := 0) hL
    obtain ⟨h2, r2, F2⟩ := sp_bySt (g := g) (d := d + 7) r1.2 (mQ_T m1 q) hS
    exact ⟨_, mU_F (mU_T m1) F2 (fun k hk => by simp at hk; omega), sg_X9_strengthWinner_0 hL (d := d + 12) (j0 := 1) rfl (by omega) (fun _ => sg_X9_strengthWinner_14 hL (d := d + 11) r1 (fun _ => sg_X9_strengthWinner_26 r1.2 (d := d + 11) r2 (tr_chc _) rfl) (fun t => absurd rfl t)) (fun t => absurd ((ii_eq (b := 0) (by omega) (by omega)).mp (by rw [e1] at t; exact t)) hn)⟩
end
