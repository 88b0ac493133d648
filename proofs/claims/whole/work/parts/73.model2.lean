/-! THE MODEL: queries of the box -/
/-- the model's thrown is x; its other numbers and all other cells are as they were -/
def mT (h h' : ev_AH) (x : Int32) : Prop := hh_F [99] h h' ∧ hh_i h' 99 7 = x ∧ ∀ sl, sl ≠ 7 → hh_i h' 99 sl = hh_i h 99 sl
theorem mT_tr {h1 h2 h3 : ev_AH} {x y : Int32} (a : mT h1 h2 x) (b : mT h2 h3 y) : mT h1 h3 y := ⟨hh_F_tr a.1 b.1, b.2.1, fun sl hs => (b.2.2 sl hs).trans (a.2.2 sl hs)⟩
theorem mT_set {h : ev_AH} {x : Int32} (hL : hh_L h) : mT h (hh_si h 99 8 7 x) x := ⟨hh_F_si (by decide), by rw [hh_i_sis hL ht99 (by decide), if_pos rfl], fun sl hs => by rw [hh_i_sis hL ht99 (by decide), if_neg (fun e => hs e.symm)]⟩
/-- what the model answers, and its code, told by the class's answer -/
def ans (A : Int32 ⊕ Nat) (f : Nat → Int32) : Int32 × Int32 := match A with
  | .inl v => (v, 0)
  | .inr E => (0, f E)
theorem ix_in {n : Nat} {x : Int32} (hn : n < 1000) : fa_X9_isIn x 0 (Int32.ofNat n - 1) = bI (idx n x).isSome := by
  have e1 : (Int32.ofNat n - 1).toInt = (n : Int) - 1 := ii_su (m := n) (n := 1) (by omega) (by omega)
  unfold fa_X9_isIn
  rcases idx_c (m := n) (by omega) x with ⟨k, hk, e, e2⟩ | ⟨e2, e3⟩
  · rw [e2, e, if_neg (Int32.not_lt.mpr (ii_nn (by omega))), if_neg (fun t => ?_)]
    · rfl
    · rw [Int32.lt_iff_toInt_lt, e1, ii_ti (by omega)] at t
      omega
  · rw [e2]
    by_cases h0 : x < 0
    · rw [if_pos h0]; rfl
    · rw [if_neg h0]
      obtain ⟨k, hk, rfl⟩ := ii_of (Int32.not_lt.mp h0)
      rw [if_pos]
      · rfl
      · rw [Int32.lt_iff_toInt_lt, e1, ii_ti hk]
        have : ¬ k < n := fun hkn => e3 k hkn rfl
        omega
theorem ix_cell {x : Int32} : fa_X9_isCell x = bI (idx 35 x).isSome := ix_in (n := 35) (by omega)
theorem ix_port {x : Int32} : fa_X9_isPort x = bI (idx 24 x).isSome := ix_in (n := 24) (by omega)
theorem ix_4 {x : Int32} : fa_X9_isIn x 0 3 = bI (idx 4 x).isSome := ix_in (n := 4) (by omega)
theorem ix_5 {x : Int32} : fa_X9_isIn x 0 4 = bI (idx 5 x).isSome := ix_in (n := 5) (by omega)
theorem ix_opt {x : Int32} : fa_X9_isOption x = bI (ox x).isSome := by
  unfold fa_X9_isOption fa_X9_isIn ox
  by_cases h1 : x < 97
  · rw [if_pos h1, if_neg (fun t => absurd h1 (Int32.not_lt.mpr t.1))]; rfl
  · rw [if_neg h1]
    by_cases h2 : 100 < x
    · rw [if_pos h2, if_neg (fun t => absurd h2 (Int32.not_lt.mpr t.2))]; rfl
    · rw [if_neg h2, if_pos ⟨Int32.not_lt.mp h1, Int32.not_lt.mp h2⟩]; rfl
section
variable {g : tr_g} {d : Nat} {h h' : ev_AH} {c : CT} {n : Nat}
theorem sp_isCat {x : Int32} (hL : hh_L h) (q : mQ h c n) : tr_L g (d + 1) m_X9_isCat 0 [some (.ref 1099), some (.int x)] [] h (.inl (some (.int (bI (idx n x).isSome))), h) := by
  have h7 := q.2.2.1
  have r := sa_X9_isIn (g := g) (d := d) (x0 := x) (x1 := 0) (x2 := Int32.ofNat n - 1) hL
  rw [ix_in (by omega)] at r
  refine sg_X9_isCat_0 hL (j0 := 1) rfl (by omega) (by rw [m_n q]; exact r) ?_ rfl
  cases (idx n x).isSome
  · exact Or.inl rfl
  · exact Or.inr rfl
theorem bI1 {α : Type} {a : α} {p : Prop} (t : bI (some a).isSome = 0) : p := absurd (show (1 : Int32) = 0 from t) (by decide)
theorem sp_thr0 {x : Int32} (hL : hh_L h) : tr_L g d m_X9_isThrown 0 [some (.ref 1099), some (.int 0), some (.int x)] [] h (.inl (some (.int 0)), hh_si h 99 8 7 0) := sp_isThrown (b := false) hL
theorem sp_thr1 {x : Int32} (hL : hh_L h) : tr_L g d m_X9_isThrown 0 [some (.ref 1099), some (.int 1), some (.int x)] [] h (.inl (some (.int 1)), hh_si h 99 8 7 x) := sp_isThrown (b := true) hL
theorem mQ_T {x : Int32} (a : mT h h' x) (q : mQ h c n) : mQ h' c n := mQ_F a.1 (by decide) q
theorem mo_cellOf {x : Int32} (hL : hh_L h) (q : mQ h c n) : ∃ h', mT h h' (ans (an_cellOf c n x) (fun _ => 1)).2 ∧ tr_L g (d + 12) m_X9_cellOf 0 [some (.ref 1099), some (.int x)] [] h (.inl (some (.int (ans (an_cellOf c n x) (fun _ => 1)).1)), h') := by
  have h7 := q.2.2.1
  have r := sp_isCat (g := g) (d := d + 10) (x := x) hL q
  unfold an_cellOf
  rcases idx_c (m := n) (by omega) x with ⟨k, hk, e3, e4⟩ | ⟨e3, e4⟩
  · rw [e4] at r ⊢
    have r1 := sp_thr0 (g := g) (d := d + 11) (x := 1) hL
    have m1 := mT_set (x := 0) hL
    have q1 := mQ_T m1 q
    have r2 := sp_of (g := g) (d := d + 11) (k := k) (w := 0) r1.2 (by omega) (by omega)
    rw [show 54 + 10 * k + 0 = 54 + 10 * k from rfl] at r2
    have e0 := (q1.1.2.2.2.2 k hk).1
    rw [e0] at r2
    refine ⟨hh_si h 99 8 7 0, m1, sg_X9_cellOf_0 hL (d := d + 11) r (fun _ => sg_X9_cellOf_13 hL (d := d + 11) r1 (fun _ => sg_X9_cellOf_25 r1.2 (d := d + 11) (by rw [e3]; exact r2) rfl) (fun t => absurd rfl t)) (fun t => bI1 t)⟩
  · rw [e3] at r ⊢
    have r1 := sp_thr1 (g := g) (d := d + 11) (x := 1) hL
    exact ⟨hh_si h 99 8 7 1, mT_set hL, sg_X9_cellOf_0 hL (d := d + 11) r (fun t => absurd rfl t) (fun _ => sg_X9_cellOf_9 hL (d := d + 11) r1 (fun t => absurd t (by decide)) (fun _ => sg_X9_cellOf_21 r1.2 rfl))⟩
theorem mo_heardBy {x : Int32} (hL : hh_L h) (q : mQ h c n) : ∃ h', mT h h' (ans (an_heardBy c n x) (fun _ => 1)).2 ∧ tr_L g (d + 12) m_X9_heardBy 0 [some (.ref 1099), some (.int x)] [] h (.inl (some (.int (ans (an_heardBy c n x) (fun _ => 1)).1)), h') := by
  have h7 := q.2.2.1
  have r := sp_isCat (g := g) (d := d + 10) (x := x) hL q
  unfold an_heardBy
  rcases idx_c (m := n) (by omega) x with ⟨k, hk, e3, e4⟩ | ⟨e3, e4⟩
  · rw [e4] at r ⊢
    have r1 := sp_thr0 (g := g) (d := d + 11) (x := 1) hL
    have m1 := mT_set (x := 0) hL
    have q1 := mQ_T m1 q
    have r2 := sp_of (g := g) (d := d + 11) (k := k) (w := 1) r1.2 (by omega) (by omega)
    have e0 := (q1.1.2.2.2.2 k hk).2.1
    rw [e0] at r2
    refine ⟨hh_si h 99 8 7 0, m1, sg_X9_heardBy_0 hL (d := d + 11) r (fun _ => sg_X9_heardBy_13 hL (d := d + 11) r1 (fun _ => sg_X9_heardBy_25 r1.2 (d := d + 11) (by rw [e3]; exact r2) rfl) (fun t => absurd rfl t)) (fun t => bI1 t)⟩
  · rw [e3] at r ⊢
    have r1 := sp_thr1 (g := g) (d := d + 11) (x := 1) hL
    exact ⟨hh_si h 99 8 7 1, mT_set hL, sg_X9_heardBy_0 hL (d := d + 11) r (fun t => absurd rfl t) (fun _ => sg_X9_heardBy_9 hL (d := d + 11) r1 (fun t => absurd t (by decide)) (fun _ => sg_X9_heardBy_21 r1.2 rfl))⟩
def cd_catIn (E : Nat) : Int32 := if E = 0 then 1 else 2
theorem mo_catIn {x : Int32} (hL : hh_L h) (q : mQ h c n) : ∃ h', mT h h' (ans (an_catIn c n x) cd_catIn).2 ∧ tr_L g (d + 12) m_X9_catIn 0 [some (.ref 1099), some (.int x)] [] h (.inl (some (.int (ans (an_catIn c n x) cd_catIn).1)), h') := by
  have h7 := q.2.2.1
  have r := sa_X9_isCell (g := g) (d := d + 10) (x0 := x) hL
  rw [ix_cell] at r
  unfold an_catIn
  rcases idx_c (m := 35) (by omega) x with ⟨k, hk, e3, e4⟩ | ⟨e3, e4⟩
  · rw [e4] at r ⊢
    have r1 := sp_thr0 (g := g) (d := d + 11) (x := 1) hL
    have m1 := mT_set (x := 0) hL
    have q1 := mQ_T m1 q
    have r2 := sp_catOn (g := g) (d := d + 10) (x := x) r1.2 q1
    have pre : ∀ r', tr_L g (d + 12) m_X9_catIn 20 [some (.ref 1099), some (.int x)] [] (hh_si h 99 8 7 0) r' → tr_L g (d + 12) m_X9_catIn 0 [some (.ref 1099), some (.int x)] [] h r' := fun r' z => sg_X9_catIn_0 hL (d := d + 11) r (fun _ => sg_X9_catIn_12 hL (d := d + 11) r1 (fun t => absurd rfl t) (fun _ => z)) (fun t => bI1 t)
    by_cases hc : ct_cat c n x < n
    · rw [ii_o, if_pos hc] at r2
      simp only [if_pos hc]
      have r3 := sp_thr0 (g := g) (d := d + 11) (x := 2) r1.2
      have m2 := mT_tr m1 (mT_set (x := 0) r1.2)
      have r4 := sp_catOn (g := g) (d := d + 10) (x := x) r3.2 (mQ_T m2 q)
      rw [ii_o, if_pos hc] at r4
      exact ⟨_, m2, pre _ (sg_X9_catIn_20 r1.2 (d := d + 11) r2 (fun _ => sg_X9_catIn_33 r1.2 (d := d + 11) r3 (fun _ => sg_X9_catIn_45 r3.2 (d := d + 11) r4 rfl) (fun t => absurd rfl t)) (fun t => absurd t (Int32.not_lt.mpr (ii_nn (by omega)))))⟩
    · rw [ii_o, if_neg hc] at r2
      simp only [if_neg hc]
      have r3 := sp_thr1 (g := g) (d := d + 11) (x := 2) r1.2
      have m2 := mT_tr m1 (mT_set (x := 2) r1.2)
      exact ⟨_, m2, pre _ (sg_X9_catIn_20 r1.2 (d := d + 11) r2 (fun t => absurd t (by decide)) (fun _ => sg_X9_catIn_29 r1.2 (d := d + 11) r3 (fun t => absurd t (by decide)) (fun _ => sg_X9_catIn_41 r3.2 rfl)))⟩
  · rw [e3] at r ⊢
    have r1 := sp_thr1 (g := g) (d := d + 11) (x := 1) hL
    exact ⟨hh_si h 99 8 7 1, mT_set hL, sg_X9_catIn_0 hL (d := d + 11) r (fun t => absurd rfl t) (fun _ => sg_X9_catIn_8 hL (d := d + 11) r1 (fun _ => sg_X9_catIn_41 r1.2 rfl) (fun t => absurd t (by decide)))⟩
/-- at which place an option stands -/
theorem sp_placeM {k o : Nat} (hL : hh_L h) (q : mQ h c n) (hk : k < n) (ho : o < 4) : tr_L g (d + 1) m_X9_place 0 [some (.ref 1099), some (.int (Int32.ofNat k)), some (.int (Int32.ofNat o)), none] [] h (.inl (some (.int (Int32.ofNat (ct_pl c k (Int32.ofNat o))))), h) := by
  have h7 := q.2.2.1
  have cell : ∀ p, p < 4 → tr_L g d m_X9_of 0 [some (.ref 1099), some (.int (Int32.ofNat k)), some (.int (2 + Int32.ofNat p))] [] h (.inl (some (.int (ct_opt c k p))), h) := fun p hp => by
    have r := sp_of (g := g) (d := d) (k := k) (w := 2 + p) hL (by omega) (by omega)
    rw [show 54 + 10 * k + (2 + p) = 54 + 10 * k + 2 + p by omega, ((q.1.2.2.2.2 k hk).2.2 p hp).1] at r
    rw [show (2 : Int32) = Int32.ofNat 2 from rfl, ii_a]
    exact r
  obtain ⟨r, hr, hp⟩ := q.2.2.2.2.2 k hk
  obtain ⟨p0, hp0, e0⟩ := PERMS_all r hr o ho
  have hit : ct_opt c k p0 = Int32.ofNat o := by rw [hp p0 hp0, e0]
  have loop : ∀ (m p : Nat), p + m = 4 → (∀ j, j < p → (ct_opt c k j == Int32.ofNat o) = false) → tr_L g (d + 1) m_X9_place 2 [some (.ref 1099), some (.int (Int32.ofNat k)), some (.int (Int32.ofNat o)), some (.int (Int32.ofNat p))] [] h (.inl (some (.int (Int32.ofNat (ct_pl c k (Int32.ofNat o))))), h) := by
    intro m
    induction m with
    | zero =>
      intro p hp4 hb
      have := hb p0 (by omega)
      rw [hit] at this
      simp at this
    | succ m ih =>
      intro p hp4 hb
      refine sg_X9_place_2 hL (cell p (by omega)) (fun t => sg_X9_place_20 hL ?_) (fun t => sg_X9_place_14 hL ?_)
      · have : ct_pl c k (Int32.ofNat o) = p := by
          unfold ct_pl
          by_cases h3 : p < 3
          · exact mm_find_at h3 (beq_iff_eq.mpr t) hb
          · have : p = 3 := by omega
            subst this
            exact mm_find_no hb
        rw [this]
      · rw [ii_s]
        refine ih (p + 1) (by omega) (fun j hj => ?_)
        by_cases hjp : j = p
        · subst hjp
          exact beq_eq_false_iff_ne.mpr t
        · exact hb j (by omega)
  exact sg_X9_place_0 hL (loop 4 0 (by omega) (fun j hj => absurd hj (by omega)))
end
