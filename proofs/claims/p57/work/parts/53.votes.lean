/-! the methods of Votes, first half: points, ballots, rounds -/
theorem ii_ne1 {k : Nat} (hk : k < 1000) : Int32.ofNat k ≠ -1 := by
  intro e
  have := congrArg Int32.toInt e
  rw [ii_ti (by omega)] at this
  have e1 : (-1 : Int32).toInt = -1 := by decide
  omega
/-- the rankings of the n cats are orders of the four options -/
def PERMS : List (List Nat) := [[0, 1, 2, 3], [0, 1, 3, 2], [0, 2, 1, 3], [0, 2, 3, 1], [0, 3, 1, 2], [0, 3, 2, 1], [1, 0, 2, 3], [1, 0, 3, 2], [1, 2, 0, 3], [1, 2, 3, 0], [1, 3, 0, 2], [1, 3, 2, 0], [2, 0, 1, 3], [2, 0, 3, 1], [2, 1, 0, 3], [2, 1, 3, 0], [2, 3, 0, 1], [2, 3, 1, 0], [3, 0, 1, 2], [3, 0, 2, 1], [3, 1, 0, 2], [3, 1, 2, 0], [3, 2, 0, 1], [3, 2, 1, 0]]
def ct_perm (c : CT) (n : Nat) : Prop := ∀ k, k < n → ∃ r ∈ PERMS, ∀ p, p < 4 → ct_opt c k p = Int32.ofNat (r.getD p 0)
theorem PERMS_lt : ∀ r ∈ PERMS, ∀ p, p < 4 → r.getD p 0 < 4 := by decide +kernel
theorem ct_perm_lt {c : CT} {n k p : Nat} (hP : ct_perm c n) (hk : k < n) (hp : p < 4) : ∃ o, o < 4 ∧ ct_opt c k p = Int32.ofNat o := by
  obtain ⟨r, hr, h⟩ := hP k hk
  exact ⟨_, PERMS_lt r hr p hp, h p hp⟩
theorem ct_isIn : ∀ m, m < 16 → ∀ o, o < 4 → fa_X7_isIn (Int32.ofNat m) (Int32.ofNat o) = if m.testBit o then 1 else 0 := by decide +kernel
section
variable {g : tr_g} {d : Nat} {h : ev_AH}
def ct_first (c : CT) (n : Nat) (x : Int32) : Int32 := mm_sum (fun k => if ct_opt c k 0 = x then 1 else 0) n
def ct_pts (c : CT) (n : Nat) (x : Int32) : Int32 := mm_sum (fun k => 3 - Int32.ofNat (ct_pl c k x)) n
theorem sp_countPoints {c : CT} {n : Nat} {x : Int32} (hL : hh_L h) (hc : cC h 1 = c) (hn : ct_i c 0 = Int32.ofNat n) (h7 : n ≤ 7) : tr_L g (d + 2) m_X7_countPoints 0 [some (.ref 1089), some (.ref 1001), some (.int x), none, none] [] h (.inl (some (.int (ct_pts c n x))), h) := by
  have hn' : hh_i h 1 6 = Int32.ofNat n := by rw [← hn, ← hc]; rfl
  have key : ∀ m k, k + m = n → tr_L g (d + 2) m_X7_countPoints 5 [some (.ref 1089), some (.ref 1001), some (.int x), some (.int (ct_pts c k x)), some (.int (Int32.ofNat k))] [] h (.inl (some (.int (ct_pts c n x))), h) := by
    intro m
    induction m with
    | zero =>
      intro k hk
      have : k = n := by omega
      subst this
      refine sg_X7_countPoints_5 hL (fun _ => sg_X7_countPoints_32 hL rfl) (fun t => ?_)
      rw [hn'] at t
      have := (ii_lt (by omega) (by omega)).mp t
      omega
    | succ m ih =>
      intro k hk
      have o1 := sp_placeIn (g := g) (d := d) (k := k) (x := x) hL hc (by omega)
      have ih' := ih (k + 1) (by omega)
      rw [show ct_pts c (k + 1) x = ct_pts c k x + (3 - Int32.ofNat (ct_pl c k x)) from rfl] at ih'
      refine sg_X7_countPoints_5 hL (fun t => ?_) (fun _ => ?_)
      · rw [hn'] at t
        have := (ii_le (by omega) (by omega)).mp t
        omega
      · refine sg_X7_countPoints_14 hL o1 ?_
        rw [ii_s]
        exact ih'
  exact sg_X7_countPoints_0 hL (key n 0 (by omega))
/-- the first of the best among 0 .. k -/
def mm_best (f : Nat → Int32) : Nat → Nat
  | 0 => 0
  | k + 1 => if f (mm_best f k) < f (k + 1) then k + 1 else mm_best f k
theorem mm_best_le (f : Nat → Int32) : ∀ k, mm_best f k ≤ k
  | 0 => Nat.le_refl _
  | k + 1 => by
    have := mm_best_le f k
    simp only [mm_best]
    split <;> omega
def ct_byPts (c : CT) (n : Nat) : Nat := mm_best (fun o => ct_pts c n (Int32.ofNat o)) 3
theorem sp_mostPoints {c : CT} {n : Nat} (hL : hh_L h) (hc : cC h 1 = c) (hn : ct_i c 0 = Int32.ofNat n) (h7 : n ≤ 7) : tr_L g (d + 3) m_X7_findMostPoints 0 [some (.ref 1089), some (.ref 1001), none, none] [] h (.inl (some (.int (Int32.ofNat (ct_byPts c n)))), h) := by
  have key : ∀ m k, k + m = 3 → tr_L g (d + 3) m_X7_findMostPoints 4 [some (.ref 1089), some (.ref 1001), some (.int (Int32.ofNat (mm_best (fun o => ct_pts c n (Int32.ofNat o)) k))), some (.int (Int32.ofNat (k + 1)))] [] h (.inl (some (.int (Int32.ofNat (ct_byPts c n)))), h) := by
    intro m
    induction m with
    | zero =>
      intro k hk
      have : k = 3 := by omega
      subst this
      refine sg_X7_findMostPoints_4 hL (fun _ => sg_X7_findMostPoints_32 hL rfl) (fun t => ?_)
      have := (ii_lt (a := 3 + 1) (b := 4) (by omega) (by omega)).mp t
      omega
    | succ m ih =>
      intro k hk
      have ih' := ih (k + 1) (by omega)
      refine sg_X7_findMostPoints_4 hL (fun t => ?_) (fun _ => ?_)
      · have := (ii_le (a := 4) (by omega) (by omega)).mp t
        omega
      · refine sg_X7_findMostPoints_9 hL (sp_countPoints hL hc hn h7) (sp_countPoints hL hc hn h7) (fun t => sg_X7_findMostPoints_26 hL ?_) (fun t => sg_X7_findMostPoints_24 hL ?_)
        · rw [ii_s]
          simp only [mm_best] at ih'
          rw [if_neg (Int32.not_lt.mpr t)] at ih'
          exact ih'
        · rw [ii_s]
          simp only [mm_best] at ih'
          rw [if_pos t] at ih'
          exact ih'
  exact sg_X7_findMostPoints_0 hL (key 3 0 (by omega))
theorem sp_isIn {m o : Nat} (hL : hh_L h) (hm : m < 16) (ho : o < 4) : tr_L g d m_X7_isIn 0 [some (.int (Int32.ofNat m)), some (.int (Int32.ofNat o))] [] h (.inl (some (.int (if m.testBit o then 1 else 0))), h) := by
  have := sa_X7_isIn (g := g) (d := d) (x0 := Int32.ofNat m) (x1 := Int32.ofNat o) hL
  rw [ct_isIn m hm o ho] at this
  exact this
theorem sp_pair {a b : Nat} (hL : hh_L h) : tr_L g d m_X7_pair 0 [some (.int (Int32.ofNat a)), some (.int (Int32.ofNat b))] [] h (.inl (some (.int (Int32.ofNat (4 * a + b)))), h) := by
  have := sa_X7_pair (g := g) (d := d) (x0 := Int32.ofNat a) (x1 := Int32.ofNat b) hL
  rw [show fa_X7_pair (Int32.ofNat a) (Int32.ofNat b) = Int32.ofNat (4 * a + b) by rw [fa_X7_pair, ii_4]] at this
  exact this
/-- is the option x among those of m -/
def ct_has (m : Nat) (x : Int32) : Bool := (decide (x = 0) && m.testBit 0) || (decide (x = 1) && m.testBit 1) || (decide (x = 2) && m.testBit 2) || (decide (x = 3) && m.testBit 3)
theorem ct_has_o {m o : Nat} (ho : o < 4) : ct_has m (Int32.ofNat o) = m.testBit o := by
  have : o = 0 ∨ o = 1 ∨ o = 2 ∨ o = 3 := by omega
  unfold ct_has
  rcases this with rfl | rfl | rfl | rfl
  · rw [decide_eq_true (show Int32.ofNat 0 = 0 by decide), decide_eq_false (show ¬ Int32.ofNat 0 = 1 by decide), decide_eq_false (show ¬ Int32.ofNat 0 = 2 by decide), decide_eq_false (show ¬ Int32.ofNat 0 = 3 by decide)]; simp
  · rw [decide_eq_false (show ¬ Int32.ofNat 1 = 0 by decide), decide_eq_true (show Int32.ofNat 1 = 1 by decide), decide_eq_false (show ¬ Int32.ofNat 1 = 2 by decide), decide_eq_false (show ¬ Int32.ofNat 1 = 3 by decide)]; simp
  · rw [decide_eq_false (show ¬ Int32.ofNat 2 = 0 by decide), decide_eq_false (show ¬ Int32.ofNat 2 = 1 by decide), decide_eq_true (show Int32.ofNat 2 = 2 by decide), decide_eq_false (show ¬ Int32.ofNat 2 = 3 by decide)]; simp
  · rw [decide_eq_false (show ¬ Int32.ofNat 3 = 0 by decide), decide_eq_false (show ¬ Int32.ofNat 3 = 1 by decide), decide_eq_false (show ¬ Int32.ofNat 3 = 2 by decide), decide_eq_true (show Int32.ofNat 3 = 3 by decide)]; simp
/-- at which place the option stands for which the cat k votes, if those of m are left -/
def ct_fp (c : CT) (k m : Nat) : Nat := mm_find (fun p => ct_has m (ct_opt c k p)) 4
theorem PERMS_all : ∀ r ∈ PERMS, ∀ o, o < 4 → ∃ p, p < 4 ∧ r.getD p 0 = o := by decide +kernel
theorem ct_fp_lt {c : CT} {n k m : Nat} (hP : ct_perm c n) (hk : k < n) (hm : m < 16) (h0 : m ≠ 0) : ct_fp c k m < 4 ∧ ∃ o, o < 4 ∧ ct_opt c k (ct_fp c k m) = Int32.ofNat o ∧ m.testBit o = true := by
  have hb : ∀ m, m < 16 → m ≠ 0 → (m.testBit 0 || m.testBit 1 || m.testBit 2 || m.testBit 3) = true := by decide +kernel
  have hb2 : ∃ o, o < 4 ∧ m.testBit o = true := by
    have := hb m hm h0
    simp only [Bool.or_eq_true] at this
    rcases this with ((h | h) | h) | h
    · exact ⟨0, by omega, h⟩
    · exact ⟨1, by omega, h⟩
    · exact ⟨2, by omega, h⟩
    · exact ⟨3, by omega, h⟩
  obtain ⟨o, ho, hmo⟩ := hb2
  obtain ⟨r, hr, hrp⟩ := hP k hk
  obtain ⟨p, hp, e⟩ := PERMS_all r hr o ho
  have sp := mm_find_spec (fun p => ct_has m (ct_opt c k p)) 4
  have hle : ct_fp c k m < 4 := by
    rcases Nat.lt_or_ge (ct_fp c k m) 4 with h | h
    · exact h
    · have h2 := sp.2 p (Nat.lt_of_lt_of_le hp h)
      rw [hrp p hp, e, ct_has_o ho, hmo] at h2
      cases h2
  obtain ⟨o2, ho2, eo2⟩ := ct_perm_lt hP hk hle
  have h3 := sp.1 hle
  refine ⟨hle, o2, ho2, eo2, ?_⟩
  have h4 : ct_has m (ct_opt c k (ct_fp c k m)) = true := h3
  rw [eo2, ct_has_o ho2] at h4
  exact h4
theorem sp_favourite {c : CT} {n k m : Nat} (hL : hh_L h) (hc : cC h 1 = c) (h7 : n ≤ 7) (hP : ct_perm c n) (hk : k < n) (hm : m < 16) (h0 : m ≠ 0) : tr_L g (d + 1) m_X7_findFavourite 0 [some (.ref 1089), some (.ref 1001), some (.int (Int32.ofNat k)), some (.int (Int32.ofNat m)), none, none] [] h (.inl (some (.int (ct_opt c k (ct_fp c k m)))), h) := by
  obtain ⟨hlt, -⟩ := ct_fp_lt hP hk hm h0
  have key : ∀ z p w, p + z = 4 → (∀ j, j < p → ct_has m (ct_opt c k j) = false) → tr_L g (d + 1) m_X7_findFavourite 3 [some (.ref 1089), some (.ref 1001), some (.int (Int32.ofNat k)), some (.int (Int32.ofNat m)), some (.int (Int32.ofNat p)), w] [] h (.inl (some (.int (ct_opt c k (ct_fp c k m)))), h) := by
    intro z
    induction z with
    | zero =>
      intro p w hp hb
      have : ct_fp c k m = 4 := mm_find_no (fun j hj => hb j (by omega))
      omega
    | succ z ih =>
      intro p w hp hb
      obtain ⟨o, ho, eo⟩ := ct_perm_lt hP hk (show p < 4 by omega)
      have a1 := sp_atL (g := g) (d := d) (a := 4) (k := 4 * k + p) hL rfl (by decide) (by omega)
      rw [show (hh_a h 4).getD (4 * k + p) 0 = ct_opt c k p by rw [← hc]; rfl] at a1
      have i1 := sp_isIn (g := g) (d := d) hL hm ho
      rw [← eo] at i1
      refine sg_X7_findFavourite_3 hL (fun t => ?_) (fun _ => ?_)
      · have := (ii_le (a := 4) (by omega) (by omega)).mp t
        omega
      · refine sg_X7_findFavourite_9 hL (by rw [ii_4]; exact a1) i1 (fun t => ?_) (fun t => ?_)
        · refine sg_X7_findFavourite_36 hL ?_
          rw [ii_s]
          refine ih (p + 1) _ (by omega) (fun j hj => ?_)
          by_cases hj2 : j < p
          · exact hb j hj2
          · have : j = p := by omega
            subst this
            rw [eo, ct_has_o ho]
            cases hmo : m.testBit o with
            | true => rw [hmo] at t; exact absurd t (by decide)
            | false => rfl
        · refine sg_X7_findFavourite_33 hL ?_
          have hmo : m.testBit o = true := by
            cases hmo : m.testBit o with
            | true => rfl
            | false => rw [hmo] at t; exact absurd rfl t
          have : ct_fp c k m = p := mm_find_at (by omega) (by rw [eo, ct_has_o ho]; exact hmo) hb
          rw [this]
  exact sg_X7_findFavourite_0 hL (key 4 0 none (by omega) (fun j hj => absurd hj (by omega)))
/-- the votes for the option o, if those of m are left -/
def ct_vo (c : CT) (n m o : Nat) : Int32 := mm_sum (fun k => if ct_opt c k (ct_fp c k m) = Int32.ofNat o then 1 else 0) n
theorem sp_ballots {c : CT} {n m : Nat} (hL : hh_L h) (hc : cC h 1 = c) (hn : ct_i c 0 = Int32.ofNat n) (h7 : n ≤ 7) (hP : ct_perm c n) (hm : m < 16) (h0 : m ≠ 0) : ∃ h', tr_L g (d + 2) m_X7_countBallots 0 [some (.ref 1089), some (.ref 1001), some (.int (Int32.ofNat m)), none, none] [] h (.inl none, h') ∧ hh_F [92] h h' ∧ ∀ o, o < 4 → (hh_a h' 92).getD o 0 = ct_vo c n m o := by
  -- the second loop
  have key : ∀ z k, k + z = n → ∀ (h1 : ev_AH) (w : Option Value), hh_L h1 → hh_F [92] h h1 → (∀ o, o < 4 → (hh_a h1 92).getD o 0 = ct_vo c k m o) → ∃ h', tr_L g (d + 2) m_X7_countBallots 24 [some (.ref 1089), some (.ref 1001), some (.int (Int32.ofNat m)), some (.int (Int32.ofNat k)), w] [] h1 (.inl none, h') ∧ hh_F [92] h h' ∧ ∀ o, o < 4 → (hh_a h' 92).getD o 0 = ct_vo c n m o := by
    intro z
    induction z with
    | zero =>
      intro k hk h1 w hL1 hF1 hb
      have : k = n := by omega
      subst this
      have hn' : hh_i h1 1 6 = Int32.ofNat k := by rw [hh_F_i hF1 (by decide), ← hn, ← hc]; rfl
      refine ⟨h1, sg_X7_countBallots_24 hL1 (fun _ => sg_X7_countBallots_67 hL1 rfl) (fun t => ?_), hF1, hb⟩
      rw [hn'] at t
      have := (ii_lt (by omega) (by omega)).mp t
      omega
    | succ z ih =>
      intro k hk h1 w hL1 hF1 hb
      have hc1 : cC h1 1 = c := (cC_F hF1 (by decide)).trans hc
      have hn' : hh_i h1 1 6 = Int32.ofNat n := by rw [hh_F_i hF1 (by decide), ← hn, ← hc]; rfl
      have f1 := sp_favourite (g := g) (d := d) hL1 hc1 h7 hP (show k < n by omega) hm h0
      obtain ⟨-, o, ho, eo, -⟩ := ct_fp_lt hP (show k < n by omega) hm h0
      have a1 := sp_atL (g := g) (d := d + 1) (a := 92) (k := o) hL1 rfl (by decide) (by omega)
      have p1 := sp_put (g := g) (d := d + 1) (a := 92) (k := o) (y := (hh_a h1 92).getD o 0 + 1) hL1 rfl (by decide) (by omega)
      have hlen : (hh_a h1 92).length = 4 := (hh_arr hL1 (k := 92) (t := 0) rfl).2
      obtain ⟨h', r1, r2, r3⟩ := ih (k + 1) (by omega) _ (some (.int (ct_opt c k (ct_fp c k m)))) p1.2 (hh_F_tr hF1 (hh_F_sa (by decide))) (fun o' ho' => by
        rw [hh_a_sa (hh_L_lt hL1 (by decide)), if_pos rfl, show ct_vo c (k + 1) m o' = ct_vo c k m o' + (if ct_opt c k (ct_fp c k m) = Int32.ofNat o' then 1 else 0) from rfl, eo]
        by_cases e : o = o'
        · subst e
          rw [if_pos rfl, ← hb o ho]
          simp [List.getD, hlen, ho]
        · rw [if_neg (fun e2 => e ((ii_eq (by omega) (by omega)).mp e2)), Int32.add_zero, ← hb o' ho']
          simp [List.getD, e])
      refine ⟨h', sg_X7_countBallots_24 hL1 (fun t => ?_) (fun _ => ?_), r2, r3⟩
      · rw [hn'] at t
        have := (ii_le (by omega) (by omega)).mp t
        omega
      · refine sg_X7_countBallots_32 hL1 (tr_mono (by omega) f1) (by rw [eo]; exact a1) (by rw [eo]; exact p1) ?_
        rw [ii_s]
        exact r1
  -- the first loop
  have key0 : ∀ z j, j + z = 4 → ∀ (h1 : ev_AH), hh_L h1 → hh_F [92] h h1 → (∀ o, o < j → (hh_a h1 92).getD o 0 = 0) → ∃ h', tr_L g (d + 2) m_X7_countBallots 2 [some (.ref 1089), some (.ref 1001), some (.int (Int32.ofNat m)), some (.int (Int32.ofNat j)), none] [] h1 (.inl none, h') ∧ hh_F [92] h h' ∧ ∀ o, o < 4 → (hh_a h' 92).getD o 0 = ct_vo c n m o := by
    intro z
    induction z with
    | zero =>
      intro j hj h1 hL1 hF1 hb
      have : j = 4 := by omega
      subst this
      obtain ⟨h', r1, r2, r3⟩ := key n 0 (by omega) h1 none hL1 hF1 (fun o ho => by rw [hb o ho]; rfl)
      refine ⟨h', sg_X7_countBallots_2 hL1 (fun _ => sg_X7_countBallots_22 hL1 r1) (fun t => ?_), r2, r3⟩
      have := (ii_lt (a := 4) (b := 4) (by omega) (by omega)).mp t
      omega
    | succ z ih =>
      intro j hj h1 hL1 hF1 hb
      have p1 := sp_put (g := g) (d := d + 1) (a := 92) (k := j) (y := 0) hL1 rfl (by decide) (by omega)
      have hlen : (hh_a h1 92).length = 4 := (hh_arr hL1 (k := 92) (t := 0) rfl).2
      obtain ⟨h', r1, r2, r3⟩ := ih (j + 1) (by omega) _ p1.2 (hh_F_tr hF1 (hh_F_sa (by decide))) (fun o ho => by
        rw [hh_a_sa (hh_L_lt hL1 (by decide)), if_pos rfl]
        by_cases e : j = o
        · subst e
          simp [List.getD, hlen, show j < 4 by omega]
        · have := hb o (by omega)
          simp [List.getD, e] at this ⊢
          exact this)
      refine ⟨h', sg_X7_countBallots_2 hL1 (fun t => ?_) (fun _ => ?_), r2, r3⟩
      · have := (ii_le (a := 4) (by omega) (by omega)).mp t
        omega
      · refine sg_X7_countBallots_7 hL1 p1 ?_
        rw [ii_s]
        exact r1
  obtain ⟨h', r1, r2, r3⟩ := key0 4 0 (by omega) h hL hh_F_rf (fun o ho => absurd ho (by omega))
  exact ⟨h', sg_X7_countBallots_0 hL r1, r2, r3⟩
/-- the option that leaves: the last one with the fewest votes among the first o of those in m -/
def mm_few (b : Nat → Int32) (m : Nat) : Nat → Option Nat
  | 0 => none
  | o + 1 => if m.testBit o = true ∧ (∀ f, mm_few b m o = some f → b o ≤ b f) then some o else mm_few b m o
theorem mm_few_lt (b : Nat → Int32) (m : Nat) : ∀ o f, mm_few b m o = some f → f < o ∧ m.testBit f = true
  | 0, f, h => by cases h
  | o + 1, f, h => by
    simp only [mm_few] at h
    split at h
    · rename_i hc
      cases h
      exact ⟨by omega, hc.1⟩
    · obtain ⟨h1, h2⟩ := mm_few_lt b m o f h
      exact ⟨by omega, h2⟩
theorem mm_few_some (b : Nat → Int32) (m : Nat) : ∀ o, (∃ j, j < o ∧ m.testBit j = true) → ∃ f, mm_few b m o = some f
  | 0, ⟨j, hj, _⟩ => absurd hj (by omega)
  | o + 1, ⟨j, hj, hb⟩ => by
    simp only [mm_few]
    split
    · exact ⟨o, rfl⟩
    · rename_i hc
      by_cases ho : j < o
      · exact mm_few_some b m o ⟨j, ho, hb⟩
      · have : j = o := by omega
        subst this
        cases hf : mm_few b m j with
        | some f => exact ⟨f, rfl⟩
        | none => exact absurd ⟨hb, fun f h => by rw [hf] at h; cases h⟩ hc
def oo_i : Option Nat → Int32
  | some f => Int32.ofNat f
  | none => -1
theorem sp_fewest {m : Nat} (hL : hh_L h) (hm : m < 16) : tr_L g (d + 1) m_X7_findFewest 0 [some (.ref 1089), some (.int (Int32.ofNat m)), none, none] [] h (.inl (some (.int (oo_i (mm_few (fun o => (hh_a h 92).getD o 0) m 4)))), h) := by
  have key : ∀ z o, o + z = 4 → tr_L g (d + 1) m_X7_findFewest 4 [some (.ref 1089), some (.int (Int32.ofNat m)), some (.int (oo_i (mm_few (fun o => (hh_a h 92).getD o 0) m o))), some (.int (Int32.ofNat o))] [] h (.inl (some (.int (oo_i (mm_few (fun o => (hh_a h 92).getD o 0) m 4)))), h) := by
    intro z
    induction z with
    | zero =>
      intro o ho
      have : o = 4 := by omega
      subst this
      refine sg_X7_findFewest_4 hL (fun _ => sg_X7_findFewest_49 hL rfl) (fun t => ?_)
      have := (ii_lt (a := 4) (b := 4) (by omega) (by omega)).mp t
      omega
    | succ z ih =>
      intro o ho
      have ih' := ih (o + 1) (by omega)
      have i1 := sp_isIn (g := g) (d := d) (o := o) hL hm (by omega)
      have no : ¬ (m.testBit o = true ∧ (∀ f, mm_few (fun o => (hh_a h 92).getD o 0) m o = some f → (hh_a h 92).getD o 0 ≤ (hh_a h 92).getD f 0)) → tr_L g (d + 1) m_X7_findFewest 43 [some (.ref 1089), some (.int (Int32.ofNat m)), some (.int (oo_i (mm_few (fun o => (hh_a h 92).getD o 0) m o))), some (.int (Int32.ofNat o))] [] h (.inl (some (.int (oo_i (mm_few (fun o => (hh_a h 92).getD o 0) m 4)))), h) := fun hno => by
        refine sg_X7_findFewest_43 hL ?_
        rw [ii_s]
        rw [show mm_few (fun o => (hh_a h 92).getD o 0) m (o + 1) = mm_few (fun o => (hh_a h 92).getD o 0) m o from if_neg hno] at ih'
        exact ih'
      have yes : (m.testBit o = true ∧ (∀ f, mm_few (fun o => (hh_a h 92).getD o 0) m o = some f → (hh_a h 92).getD o 0 ≤ (hh_a h 92).getD f 0)) → tr_L g (d + 1) m_X7_findFewest 41 [some (.ref 1089), some (.int (Int32.ofNat m)), some (.int (oo_i (mm_few (fun o => (hh_a h 92).getD o 0) m o))), some (.int (Int32.ofNat o))] [] h (.inl (some (.int (oo_i (mm_few (fun o => (hh_a h 92).getD o 0) m 4)))), h) := fun hy => by
        refine sg_X7_findFewest_41 hL ?_
        rw [ii_s]
        rw [show mm_few (fun o => (hh_a h 92).getD o 0) m (o + 1) = some o from if_pos hy] at ih'
        exact ih'
      refine sg_X7_findFewest_4 hL (fun t => ?_) (fun _ => ?_)
      · have := (ii_le (a := 4) (by omega) (by omega)).mp t
        omega
      · refine sg_X7_findFewest_9 hL i1 (fun t => no ?_) (fun t => ?_)
        · rintro ⟨h1, -⟩
          rw [if_pos h1] at t
          exact absurd t (by decide)
        · have hb : m.testBit o = true := by
            cases hmo : m.testBit o with
            | true => rfl
            | false => rw [hmo] at t; exact absurd rfl t
          cases hf : mm_few (fun o => (hh_a h 92).getD o 0) m o with
          | none =>
            rw [hf] at yes
            exact sg_X7_findFewest_17 hL (fun _ => yes ⟨hb, fun f e => by cases e⟩) (fun t2 => absurd rfl t2)
          | some f =>
            have hlt := (mm_few_lt _ _ _ _ hf).1
            have a1 := sp_atL (g := g) (d := d) (a := 92) (k := o) hL rfl (by decide) (by omega)
            have a2 := sp_atL (g := g) (d := d) (a := 92) (k := f) hL rfl (by decide) (by omega)
            rw [hf] at yes no
            refine sg_X7_findFewest_17 hL (fun t2 => absurd t2 (ii_ne1 (by omega))) (fun _ => ?_)
            refine sg_X7_findFewest_22 hL a1 a2 (fun t3 => no ?_) (fun t3 => yes ⟨hb, fun f2 e => by cases e; exact t3⟩)
            rintro ⟨-, h2⟩
            exact absurd (h2 f rfl) (Int32.not_le.mpr t3)
  exact sg_X7_findFewest_0 hL (key 4 0 (by omega))
end
