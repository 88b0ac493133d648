/-! PURE WORDS: sums and searches; what a court holds; the methods of Court -/
def mm_sum (f : Nat → Int32) : Nat → Int32
  | 0 => 0
  | n + 1 => mm_sum f n + f n
theorem mm_sum_congr {f f' : Nat → Int32} : ∀ {n : Nat}, (∀ k, k < n → f k = f' k) → mm_sum f n = mm_sum f' n
  | 0, _ => rfl
  | n + 1, h => by
    simp only [mm_sum]
    rw [mm_sum_congr (fun k hk => h k (by omega)), h n (by omega)]
/-- the first place below n where p holds; n if there is none -/
def mm_find (p : Nat → Bool) : Nat → Nat
  | 0 => 0
  | n + 1 => if mm_find p n < n then mm_find p n else if p n then n else n + 1
theorem mm_find_le (p : Nat → Bool) : ∀ n, mm_find p n ≤ n
  | 0 => Nat.le_refl _
  | n + 1 => by
    have := mm_find_le p n
    simp only [mm_find]
    repeat' split
    all_goals omega
theorem mm_find_spec (p : Nat → Bool) : ∀ n, (mm_find p n < n → p (mm_find p n) = true) ∧ ∀ j, j < mm_find p n → p j = false
  | 0 => ⟨fun h => by simp [mm_find] at h, fun j h => by simp [mm_find] at h⟩
  | n + 1 => by
    have hle := mm_find_le p n
    obtain ⟨h1, h2⟩ := mm_find_spec p n
    simp only [mm_find]
    split
    · rename_i hlt
      exact ⟨fun _ => h1 hlt, h2⟩
    · rename_i hge
      have e : mm_find p n = n := by omega
      split
      · rename_i hp
        exact ⟨fun _ => hp, fun j hj => h2 j (by omega)⟩
      · rename_i hp
        refine ⟨fun h => absurd h (by omega), fun j hj => ?_⟩
        by_cases hj2 : j < n
        · exact h2 j (by omega)
        · have : j = n := by omega
          subst this
          simpa using hp
theorem mm_find_at {p : Nat → Bool} {n k : Nat} (hk : k < n) (hp : p k = true) (hb : ∀ j, j < k → p j = false) : mm_find p n = k := by
  obtain ⟨h1, h2⟩ := mm_find_spec p n
  have hle := mm_find_le p n
  rcases Nat.lt_trichotomy (mm_find p n) k with h | h | h
  · have := h1 (by omega)
    rw [hb _ h] at this
    cases this
  · exact h
  · have := h2 k h
    rw [hp] at this
    cases this
theorem mm_find_no {p : Nat → Bool} {n : Nat} (hb : ∀ j, j < n → p j = false) : mm_find p n = n := by
  obtain ⟨h1, h2⟩ := mm_find_spec p n
  have hle := mm_find_le p n
  rcases Nat.lt_or_ge (mm_find p n) n with h | h
  · have := h1 h
    rw [hb _ h] at this
    cases this
  · omega
theorem mm_find_congr {p q : Nat → Bool} {n : Nat} (h : ∀ k, k < n → p k = q k) : mm_find p n = mm_find q n := by
  obtain ⟨h1, h2⟩ := mm_find_spec q n
  have hle := mm_find_le q n
  rcases Nat.lt_or_ge (mm_find q n) n with hl | hl
  · exact mm_find_at hl (by rw [h _ hl]; exact h1 hl) (fun j hj => by rw [h _ (by omega)]; exact h2 j hj)
  · exact (mm_find_no (fun j hj => by rw [h _ hj]; exact h2 j (by omega))).trans (by omega)
/-- a place, or -1 -/
def ii_o (r n : Nat) : Int32 := if r < n then Int32.ofNat r else -1
/-! a court: contents, cells, rankings, first rankings, heard, verdicts; cats, method, held, hung, retried, given, awaits, altered -/
abbrev CT : Type := List Int32 × List Int32 × List Int32 × List Int32 × List Int32 × List Int32 × List Int32
abbrev ct_co (c : CT) := c.1
abbrev ct_ce (c : CT) := c.2.1
abbrev ct_ra (c : CT) := c.2.2.1
abbrev ct_fi (c : CT) := c.2.2.2.1
abbrev ct_he (c : CT) := c.2.2.2.2.1
abbrev ct_ve (c : CT) := c.2.2.2.2.2.1
abbrev ct_in (c : CT) := c.2.2.2.2.2.2
def ct_i (c : CT) (k : Nat) : Int32 := (ct_in c).getD k 0
/-- the court whose cells begin at k -/
def cC (h : ev_AH) (k : Nat) : CT := (hh_a h (k + 1), hh_a h (k + 2), hh_a h (k + 3), hh_a h (k + 4), hh_a h (k + 5), hh_a h (k + 6), [hh_i h k 6, hh_i h k 7, hh_i h k 8, hh_i h k 9, hh_i h k 10, hh_i h k 11, hh_i h k 12, hh_i h k 13])
def cc_co (c : CT) (l : List Int32) : CT := (l, c.2)
def cc_ce (c : CT) (l : List Int32) : CT := (c.1, l, c.2.2)
def cc_ra (c : CT) (l : List Int32) : CT := (c.1, c.2.1, l, c.2.2.2)
def cc_fi (c : CT) (l : List Int32) : CT := (c.1, c.2.1, c.2.2.1, l, c.2.2.2.2)
def cc_he (c : CT) (l : List Int32) : CT := (c.1, c.2.1, c.2.2.1, c.2.2.2.1, l, c.2.2.2.2.2)
def cc_ve (c : CT) (l : List Int32) : CT := (c.1, c.2.1, c.2.2.1, c.2.2.2.1, c.2.2.2.2.1, l, c.2.2.2.2.2.2)
def cc_in (c : CT) (k : Nat) (x : Int32) : CT := (c.1, c.2.1, c.2.2.1, c.2.2.2.1, c.2.2.2.2.1, c.2.2.2.2.2.1, (ct_in c).set k x)
section
variable {h : ev_AH}
theorem cC_sa (hL : hh_L h) {t : Nat} {l : List Int32} :
    cC (hh_sa h 2 t l) 1 = cc_co (cC h 1) l ∧ cC (hh_sa h 3 t l) 1 = cc_ce (cC h 1) l ∧ cC (hh_sa h 4 t l) 1 = cc_ra (cC h 1) l ∧ cC (hh_sa h 5 t l) 1 = cc_fi (cC h 1) l ∧ cC (hh_sa h 6 t l) 1 = cc_he (cC h 1) l ∧ cC (hh_sa h 7 t l) 1 = cc_ve (cC h 1) l := by
  have a2 := fun j => hh_a_saL hL (k := 2) (t := t) (j := j) (l := l) (by decide)
  have a3 := fun j => hh_a_saL hL (k := 3) (t := t) (j := j) (l := l) (by decide)
  have a4 := fun j => hh_a_saL hL (k := 4) (t := t) (j := j) (l := l) (by decide)
  have a5 := fun j => hh_a_saL hL (k := 5) (t := t) (j := j) (l := l) (by decide)
  have a6 := fun j => hh_a_saL hL (k := 6) (t := t) (j := j) (l := l) (by decide)
  have a7 := fun j => hh_a_saL hL (k := 7) (t := t) (j := j) (l := l) (by decide)
  have i1 : ∀ k, k ≠ 1 → ∀ sl, hh_i (hh_sa h k t l) 1 sl = hh_i h 1 sl := fun k hk sl => hh_i_sa hk
  refine ⟨?_, ?_, ?_, ?_, ?_, ?_⟩
  · simp [cC, cc_co, a2, i1]
  · simp [cC, cc_ce, a3, i1]
  · simp [cC, cc_ra, a4, i1]
  · simp [cC, cc_fi, a5, i1]
  · simp [cC, cc_he, a6, i1]
  · simp [cC, cc_ve, a7, i1]
theorem cC_si (hL : hh_L h) {x : Int32} {j : Nat} (hj : j < 8) : cC (hh_si h 1 1 (6 + j) x) 1 = cc_in (cC h 1) j x := by
  have i1 := fun sl => hh_i_si hL (k := 1) (ci := 1) (sl := 6 + j) (sl' := sl) (j := 1) (x := x) (fs := [1002, 1003, 1004, 1005, 1006, 1007, 0, 0, 0, 0, 0, 0, 0, 0]) rfl (by simp; omega)
  have a1 : ∀ k, 1 ≠ k → hh_a (hh_si h 1 1 (6 + j) x) k = hh_a h k := fun k hk => hh_a_si hk
  simp only [cC, cc_in, i1, ct_in]
  rw [a1 _ (by decide), a1 _ (by decide), a1 _ (by decide), a1 _ (by decide), a1 _ (by decide), a1 _ (by decide)]
  have : j = 0 ∨ j = 1 ∨ j = 2 ∨ j = 3 ∨ j = 4 ∨ j = 5 ∨ j = 6 ∨ j = 7 := by omega
  rcases this with rfl | rfl | rfl | rfl | rfl | rfl | rfl | rfl <;> simp
theorem cC_F {ks : List Nat} {h' : ev_AH} (hF : hh_F ks h h') {k : Nat} (hk : ∀ j, j < 7 → k + j ∉ ks) : cC h' k = cC h k := by
  have h0 : k ∉ ks := hk 0 (by decide)
  simp only [cC, hh_F_a hF (hk 1 (by decide)), hh_F_a hF (hk 2 (by decide)), hh_F_a hF (hk 3 (by decide)), hh_F_a hF (hk 4 (by decide)), hh_F_a hF (hk 5 (by decide)), hh_F_a hF (hk 6 (by decide)), hh_F_i hF h0]
end
/-- the cells of the main court -/
abbrev kC : List Nat := [1, 2, 3, 4, 5, 6, 7]
/-! the methods of the main court -/
section
variable {g : tr_g} {d : Nat} {h : ev_AH}
def ct_cat (c : CT) (n : Nat) (x : Int32) : Nat := mm_find (fun k => (ct_ce c).getD k 0 == x) n
theorem sp_findCat {c : CT} {n : Nat} {x : Int32} (hL : hh_L h) (hc : cC h 1 = c) (hn : ct_i c 0 = Int32.ofNat n) (h7 : n ≤ 7) : tr_L g (d + 1) m_X2_findCat 0 [some (.ref 1001), some (.int x), none] [] h (.inl (some (.int (ii_o (ct_cat c n x) n))), h) := by
  subst hc
  have hn' : hh_i h 1 6 = Int32.ofNat n := hn
  have key : ∀ m k, k + m = n → (∀ j, j < k → ((hh_a h 3).getD j 0 == x) = false) → tr_L g (d + 1) m_X2_findCat 2 [some (.ref 1001), some (.int x), some (.int (Int32.ofNat k))] [] h (.inl (some (.int (ii_o (ct_cat (cC h 1) n x) n))), h) := by
    intro m
    induction m with
    | zero =>
      intro k hk hb
      have hf : ct_cat (cC h 1) n x = n := mm_find_no (fun j hj => hb j (by omega))
      refine sg_X2_findCat_2 hL (fun _ => sg_X2_findCat_30 hL ?_) (fun t => ?_)
      · rw [hf, ii_o, if_neg (by omega)]
      · rw [hn'] at t
        have := (ii_lt (by omega) (by omega)).mp t
        omega
    | succ m ih =>
      intro k hk hb
      refine sg_X2_findCat_2 hL (fun t => ?_) (fun _ => ?_)
      · rw [hn'] at t
        have := (ii_le (by omega) (by omega)).mp t
        omega
      · refine sg_X2_findCat_10 hL (sp_atL hL (a := 3) rfl (by decide) (by omega)) (fun t => ?_) (fun t => ?_)
        · refine sg_X2_findCat_24 hL ?_
          rw [ii_s]
          refine ih (k + 1) (by omega) (fun j hj => ?_)
          by_cases hj2 : j < k
          · exact hb j hj2
          · have : j = k := by omega
            subst this
            exact beq_false_of_ne t
        · refine sg_X2_findCat_22 hL ?_
          have hf : ct_cat (cC h 1) n x = k := mm_find_at (by omega) (by exact beq_iff_eq.mpr t) hb
          rw [hf, ii_o, if_pos (by omega)]
  exact sg_X2_findCat_0 hL (key n 0 (by omega) (fun j hj => absurd hj (by omega)))
def ct_heard (c : CT) (n : Nat) : Int32 := mm_sum (fun k => (ct_he c).getD k 0) n
theorem sp_countHeard {c : CT} {n : Nat} (hL : hh_L h) (hc : cC h 1 = c) (hn : ct_i c 0 = Int32.ofNat n) (h7 : n ≤ 7) : tr_L g (d + 1) m_X2_countHeard 0 [some (.ref 1001), none, none] [] h (.inl (some (.int (ct_heard c n))), h) := by
  subst hc
  have hn' : hh_i h 1 6 = Int32.ofNat n := hn
  have key : ∀ m k, k + m = n → tr_L g (d + 1) m_X2_countHeard 4 [some (.ref 1001), some (.int (mm_sum (fun k => (ct_he (cC h 1)).getD k 0) k)), some (.int (Int32.ofNat k))] [] h (.inl (some (.int (ct_heard (cC h 1) n))), h) := by
    intro m
    induction m with
    | zero =>
      intro k hk
      refine sg_X2_countHeard_4 hL (fun _ => sg_X2_countHeard_29 hL ?_) (fun t => ?_)
      · have : k = n := by omega
        subst this
        rfl
      · rw [hn'] at t
        have := (ii_lt (by omega) (by omega)).mp t
        omega
    | succ m ih =>
      intro k hk
      refine sg_X2_countHeard_4 hL (fun t => ?_) (fun _ => ?_)
      · rw [hn'] at t
        have := (ii_le (by omega) (by omega)).mp t
        omega
      · refine sg_X2_countHeard_12 hL (sp_atL hL (a := 6) rfl (by decide) (by omega)) ?_
        rw [ii_s]
        exact ih (k + 1) (by omega)
  exact sg_X2_countHeard_0 hL (key n 0 (by omega))
def ct_mir (c : CT) : Int32 := mm_sum (fun k => if (ct_co c).getD k 0 = 47 ∨ (ct_co c).getD k 0 = 92 then 1 else 0) 35
theorem sp_countMirrors {c : CT} (hL : hh_L h) (hc : cC h 1 = c) : tr_L g d m_X2_countMirrors 0 [some (.ref 1001), none, none, none] [] h (.inl (some (.int (ct_mir c))), h) := by
  subst hc
  have key : ∀ m k w, k + m = 35 → tr_L g d m_X2_countMirrors 4 [some (.ref 1001), some (.int (mm_sum (fun k => if (ct_co (cC h 1)).getD k 0 = 47 ∨ (ct_co (cC h 1)).getD k 0 = 92 then 1 else 0) k)), some (.int (Int32.ofNat k)), w] [] h (.inl (some (.int (ct_mir (cC h 1)))), h) := by
    intro m
    induction m with
    | zero =>
      intro k w hk
      refine sg_X2_countMirrors_4 hL (fun _ => sg_X2_countMirrors_41 hL ?_) (fun t => ?_)
      · have : k = 35 := by omega
        subst this
        rfl
      · have := (ii_lt (b := 35) (by omega) (by omega)).mp t
        omega
    | succ m ih =>
      intro k w hk
      have yes : (hh_a h 2).getD k 0 = 47 ∨ (hh_a h 2).getD k 0 = 92 → tr_L g d m_X2_countMirrors 32 [some (.ref 1001), some (.int (mm_sum (fun k => if (ct_co (cC h 1)).getD k 0 = 47 ∨ (ct_co (cC h 1)).getD k 0 = 92 then 1 else 0) k)), some (.int (Int32.ofNat k)), some (.int ((hh_a h 2).getD k 0))] [] h (.inl (some (.int (ct_mir (cC h 1)))), h) := fun hy => by
        refine sg_X2_countMirrors_32 hL ?_
        rw [ii_s]
        have := ih (k + 1) (some (.int ((hh_a h 2).getD k 0))) (by omega)
        simp only [mm_sum] at this
        rw [if_pos (show (ct_co (cC h 1)).getD k 0 = 47 ∨ (ct_co (cC h 1)).getD k 0 = 92 from hy)] at this
        exact this
      refine sg_X2_countMirrors_4 hL (fun t => ?_) (fun _ => ?_)
      · have := (ii_le (a := 35) (by omega) (by omega)).mp t
        omega
      · refine sg_X2_countMirrors_13 hL rfl (by omega) (fun t => yes (Or.inl t)) (fun t => ?_)
        refine sg_X2_countMirrors_26 hL (fun t2 => ?_) (fun t2 => yes (Or.inr t2))
        refine sg_X2_countMirrors_35 hL ?_
        rw [ii_s]
        have := ih (k + 1) (some (.int ((hh_a h 2).getD k 0))) (by omega)
        simp only [mm_sum] at this
        rw [if_neg (show ¬ ((ct_co (cC h 1)).getD k 0 = 47 ∨ (ct_co (cC h 1)).getD k 0 = 92) from fun e => e.elim t t2), Int32.add_zero] at this
        exact this
  exact sg_X2_countMirrors_0 hL (key 35 0 none (by omega))
theorem sp_reasonMirror {c : CT} {n : Nat} {x : Int32} (hL : hh_L h) (hc : cC h 1 = c) (hn : ct_i c 0 = Int32.ofNat n) (h7 : n ≤ 7) : tr_L g (d + 2) m_X2_reasonAgainstMirror 0 [some (.ref 1001), some (.int x)] [] h (.inl (some (.int (if ct_cat c n x < n then 2 else 0))), h) := by
  have hle : ct_cat c n x ≤ n := mm_find_le _ _
  refine sg_X2_reasonAgainstMirror_0 hL (sp_findCat hL hc hn h7) (fun t => sg_X2_reasonAgainstMirror_13 hL ?_) (fun t => sg_X2_reasonAgainstMirror_9 hL ?_)
  · by_cases hl : ct_cat c n x < n
    · rw [if_pos hl]
    · rw [ii_o, if_neg hl] at t
      exact absurd rfl t
  · by_cases hl : ct_cat c n x < n
    · rw [ii_o, if_pos hl] at t
      have h0 : ∀ k, k < 7 → Int32.ofNat k ≠ -1 := by decide +kernel
      exact absurd t (h0 _ (by omega))
    · rw [if_neg hl]
theorem sp_reasonCat {c : CT} {n : Nat} {x : Int32} (hL : hh_L h) (hc : cC h 1 = c) (hn : ct_i c 0 = Int32.ofNat n) (h7 : n ≤ 7) : tr_L g (d + 3) m_X2_reasonAgainstCat 0 [some (.ref 1001), some (.int x)] [] h (.inl (some (.int (if n = 7 then 1 else if ct_cat c n x < n then 2 else 0))), h) := by
  have hn' : hh_i h 1 6 = Int32.ofNat n := by rw [← hn, ← hc]; rfl
  refine sg_X2_reasonAgainstCat_0 hL (fun t => ?_) (fun t => sg_X2_reasonAgainstCat_9 hL ?_)
  · rw [hn'] at t
    have := (ii_lt (b := 7) (by omega) (by omega)).mp t
    rw [if_neg (by omega)]
    exact sg_X2_reasonAgainstCat_13 hL (sp_reasonMirror hL hc hn h7) rfl
  · rw [hn'] at t
    have := (ii_le (a := 7) (by omega) (by omega)).mp t
    rw [if_pos (by omega)]
def ct_opt (c : CT) (k p : Nat) : Int32 := (ct_ra c).getD (4 * k + p) 0
theorem ii_4 (k p : Nat) : 4 * Int32.ofNat k + Int32.ofNat p = Int32.ofNat (4 * k + p) := by
  rw [← ii_a, ← ii_m]; rfl
theorem sp_optionIn {c : CT} {k p : Nat} (hL : hh_L h) (hc : cC h 1 = c) (hk : k < 1000) (hp : p < 1000) : tr_L g (d + 1) m_X2_optionIn 0 [some (.ref 1001), some (.int (Int32.ofNat k)), some (.int (Int32.ofNat p))] [] h (.inl (some (.int (ct_opt c k p))), h) := by
  subst hc
  refine sg_X2_optionIn_0 hL (v0 := ct_opt (cC h 1) k p) (h1 := h) ?_ rfl
  rw [ii_4]
  exact sp_atL hL (a := 4) rfl (by decide) (by omega)
/-- the place of an option in a ranking, 3 if it is none of the first three -/
def ct_pl (c : CT) (k : Nat) (x : Int32) : Nat := mm_find (fun p => ct_opt c k p == x) 3
theorem sp_placeIn {c : CT} {k : Nat} {x : Int32} (hL : hh_L h) (hc : cC h 1 = c) (hk : k < 1000) : tr_L g (d + 1) m_X2_placeIn 0 [some (.ref 1001), some (.int (Int32.ofNat k)), some (.int x), none] [] h (.inl (some (.int (Int32.ofNat (ct_pl c k x)))), h) := by
  subst hc
  have key : ∀ m p, p + m = 3 → (∀ j, j < p → (ct_opt (cC h 1) k j == x) = false) → tr_L g (d + 1) m_X2_placeIn 2 [some (.ref 1001), some (.int (Int32.ofNat k)), some (.int x), some (.int (Int32.ofNat p))] [] h (.inl (some (.int (Int32.ofNat (ct_pl (cC h 1) k x)))), h) := by
    intro m
    induction m with
    | zero =>
      intro p hp hb
      refine sg_X2_placeIn_2 hL (fun _ => sg_X2_placeIn_31 hL ?_) (fun t => ?_)
      · have : ct_pl (cC h 1) k x = 3 := mm_find_no (fun j hj => hb j (by omega))
        rw [this]
        rfl
      · have := (ii_lt (b := 3) (by omega) (by omega)).mp t
        omega
    | succ m ih =>
      intro p hp hb
      refine sg_X2_placeIn_2 hL (fun t => ?_) (fun _ => ?_)
      · have := (ii_le (a := 3) (by omega) (by omega)).mp t
        omega
      · refine sg_X2_placeIn_7 hL (v0 := ct_opt (cC h 1) k p) (h1 := h) ?_ (fun t => ?_) (fun t => ?_)
        · rw [ii_4]
          exact sp_atL hL (a := 4) rfl (by decide) (by omega)
        · refine sg_X2_placeIn_25 hL ?_
          rw [ii_s]
          refine ih (p + 1) (by omega) (fun j hj => ?_)
          by_cases hj2 : j < p
          · exact hb j hj2
          · have : j = p := by omega
            subst this
            exact beq_false_of_ne t
        · refine sg_X2_placeIn_23 hL ?_
          have hf : ct_pl (cC h 1) k x = p := mm_find_at (by omega) (by exact beq_iff_eq.mpr t) hb
          rw [hf]
  exact sg_X2_placeIn_0 hL (key 3 0 (by omega) (fun j hj => absurd hj (by omega)))
def ct_rank (c : CT) (k p : Nat) (x : Int32) : CT := cc_fi (cc_ra c ((ct_ra c).set (4 * k + p) x)) ((ct_fi c).set (4 * k + p) x)
theorem sp_rank {c : CT} {k p : Nat} {x : Int32} (hL : hh_L h) (hc : cC h 1 = c) (hk : k < 1000) (hp : p < 1000) : ∃ h', tr_L g (d + 1) m_X2_rank 0 [some (.ref 1001), some (.int (Int32.ofNat k)), some (.int (Int32.ofNat p)), some (.int x)] [] h (.inl none, h') ∧ hh_F kC h h' ∧ cC h' 1 = ct_rank c k p x := by
  subst hc
  have p1 := sp_put (g := g) (d := d) (a := 4) (k := 4 * k + p) (y := x) hL rfl (by decide) (by omega)
  have hL1 := p1.2
  have p2 := sp_put (g := g) (d := d) (a := 5) (k := 4 * k + p) (y := x) hL1 rfl (by decide) (by omega)
  refine ⟨_, sg_X2_rank_0 hL (by rw [ii_4]; exact p1) (by rw [ii_4]; exact p2) rfl, hh_F_tr (hh_F_sa (by decide)) (hh_F_sa (by decide)), ?_⟩
  rw [(cC_sa hL1).2.2.2.1, (cC_sa hL).2.2.1, hh_a_sa (hh_L_lt hL (by decide)), if_neg (by decide)]
  rfl
def ct_seat (c : CT) (n q : Nat) (x y z : Int32) : CT :=
  cc_in (cc_in (ct_rank (ct_rank (ct_rank (ct_rank (cc_he (cc_ce (cc_co c ((ct_co c).set q 99)) ((ct_ce c).set n (Int32.ofNat q))) ((ct_he c).set n 0)) n 0 x) n 1 y) n 2 z) n 3 (6 - x - y - z)) 0 (Int32.ofNat (n + 1))) 7 1
theorem sp_seat {c : CT} {n q : Nat} {x y z : Int32} (hL : hh_L h) (hc : cC h 1 = c) (hn : ct_i c 0 = Int32.ofNat n) (h7 : n ≤ 7) (hq : q < 1000) : ∃ h', tr_L g (d + 2) m_X2_seatCat 0 [some (.ref 1001), some (.int (Int32.ofNat q)), some (.int x), some (.int y), some (.int z), none, none, none, none] [] h (.inl none, h') ∧ hh_F kC h h' ∧ cC h' 1 = ct_seat c n q (x - 97) (y - 97) (z - 97) := by
  subst hc
  have hn' : hh_i h 1 6 = Int32.ofNat n := hn
  have i1 := sa_X8_indexOf (g := g) (d := d + 1) (x0 := x) hL
  have i2 := sa_X8_indexOf (g := g) (d := d + 1) (x0 := y) hL
  have i3 := sa_X8_indexOf (g := g) (d := d + 1) (x0 := z) hL
  have p1 := sp_putc (g := g) (d := d + 1) (a := 2) (k := q) (y := 99) hL rfl (by decide) (by omega) ⟨by decide, by decide⟩
  have p2 := sp_put (g := g) (d := d + 1) (a := 3) (k := n) (y := Int32.ofNat q) p1.2 rfl (by decide) (by omega)
  have p3 := sp_put (g := g) (d := d + 1) (a := 6) (k := n) (y := 0) p2.2 rfl (by decide) (by omega)
  have e1 := (cC_sa hL (t := 1) (l := (hh_a h 2).set q 99)).1
  have e2 := (cC_sa p1.2 (t := 0) (l := (hh_a (hh_sa h 2 1 ((hh_a h 2).set q 99)) 3).set n (Int32.ofNat q))).2.1
  have e3 := (cC_sa p2.2 (t := 0) (l := (hh_a (hh_sa (hh_sa h 2 1 ((hh_a h 2).set q 99)) 3 0 ((hh_a (hh_sa h 2 1 ((hh_a h 2).set q 99)) 3).set n (Int32.ofNat q))) 6).set n 0)).2.2.2.2.1
  obtain ⟨h7', r1, f1, c1⟩ := sp_rank (g := g) (d := d) (k := n) (p := 0) (x := x - 97) p3.2 rfl (by omega) (by omega)
  obtain ⟨h8, r2, f2, c2⟩ := sp_rank (g := g) (d := d) (k := n) (p := 1) (x := y - 97) r1.2 c1 (by omega) (by omega)
  obtain ⟨h9, r3, f3, c3⟩ := sp_rank (g := g) (d := d) (k := n) (p := 2) (x := z - 97) r2.2 c2 (by omega) (by omega)
  obtain ⟨h10, r4, f4, c4⟩ := sp_rank (g := g) (d := d) (k := n) (p := 3) (x := 6 - (x - 97) - (y - 97) - (z - 97)) r3.2 c3 (by omega) (by omega)
  have hL11 := hh_L_si (sl := 6) (x := Int32.ofNat (n + 1)) r4.2 (show hh_t[1]? = some (.inr (1, [1002, 1003, 1004, 1005, 1006, 1007, 0, 0, 0, 0, 0, 0, 0, 0])) from rfl) rfl
  refine ⟨_, sg_X2_seatCat_0 hL i1 i2 i3 p1 (by rw [hn']; exact p2) (by rw [hn']; exact p3) (by rw [hn']; exact r1) (by rw [hn']; exact r2) (by rw [hn']; exact r3) (by rw [hn']; exact r4) (by rw [hn', ii_s]), ?_, ?_⟩
  · exact hh_F_tr (hh_F_tr (hh_F_tr (hh_F_tr (hh_F_tr (hh_F_tr (hh_F_tr (hh_F_sa (by decide)) (hh_F_sa (by decide))) (hh_F_sa (by decide))) f1) f2) f3) f4) (hh_F_tr (hh_F_si (by decide)) (hh_F_si (by decide)))
  · rw [cC_si (j := 7) hL11 (by decide), cC_si (j := 0) r4.2 (by decide), c4]
    have e4 : cC (hh_sa (hh_sa (hh_sa h 2 1 ((hh_a h 2).set q 99)) 3 0 ((hh_a (hh_sa h 2 1 ((hh_a h 2).set q 99)) 3).set n (Int32.ofNat q))) 6 0 ((hh_a (hh_sa (hh_sa h 2 1 ((hh_a h 2).set q 99)) 3 0 ((hh_a (hh_sa h 2 1 ((hh_a h 2).set q 99)) 3).set n (Int32.ofNat q))) 6).set n 0)) 1 = cc_he (cc_ce (cc_co (cC h 1) ((ct_co (cC h 1)).set q 99)) ((ct_ce (cC h 1)).set n (Int32.ofNat q))) ((ct_he (cC h 1)).set n 0) := by
      rw [e3, e2, e1, hh_a_sa (hh_L_lt p1.2 (by decide)), if_neg (by decide), hh_a_sa (hh_L_lt hL (by decide)), if_neg (by decide), hh_a_sa (hh_L_lt hL (by decide)), if_neg (by decide)]
      rfl
    rw [e4]
    rfl
def ct_chg (c : CT) (q : Nat) (x : Int32) : CT := if (ct_co c).getD q 0 = x then c else cc_in (cc_co c ((ct_co c).set q x)) 7 1
theorem sp_change {c : CT} {q : Nat} {x : Int32} (hL : hh_L h) (hc : cC h 1 = c) (hq : q < 1000) (hx : tr_ch x) (hco : ∀ y ∈ ct_co c, tr_ch y) : ∃ h', tr_L g (d + 1) m_X2_changeContent 0 [some (.ref 1001), some (.int (Int32.ofNat q)), some (.int x)] [] h (.inl none, h') ∧ hh_F kC h h' ∧ cC h' 1 = ct_chg c q x := by
  subst hc
  have a1 := sp_atcL (g := g) (d := d) (a := 2) (k := q) hL rfl (by decide) (by omega) hco
  by_cases he : (ct_co (cC h 1)).getD q 0 = x
  · refine ⟨h, sg_X2_changeContent_0 hL a1 (fun _ => sg_X2_changeContent_26 hL rfl) (fun t => absurd he t), hh_F_rf, ?_⟩
    rw [ct_chg, if_pos he]
  · have p1 := sp_putc (g := g) (d := d) (a := 2) (k := q) (y := x) hL rfl (by decide) (by omega) hx
    refine ⟨_, sg_X2_changeContent_0 hL a1 (fun t => absurd t he) (fun _ => sg_X2_changeContent_12 hL p1 rfl), hh_F_tr (hh_F_sa (by decide)) (hh_F_si (by decide)), ?_⟩
    rw [cC_si (j := 7) p1.2 (by decide), (cC_sa hL).1, ct_chg, if_neg he]
    rfl
/-- a testimony for the option o is heard by the cat k -/
def ct_hear (c : CT) (k : Nat) (o : Int32) : CT :=
  let c1 := if 0 < ct_pl c k o then cc_ra c (((ct_ra c).set (4 * k + ct_pl c k o) (ct_opt c k (ct_pl c k o - 1))).set (4 * k + ct_pl c k o - 1) o) else c
  cc_in (cc_he c1 ((ct_he c).set k ((ct_he c).getD k 0 + 1))) 5 (ct_i c 5 + 1)
theorem sp_hear {c : CT} {k : Nat} {o : Int32} (hL : hh_L h) (hc : cC h 1 = c) (hk : k < 1000) : ∃ h', tr_L g (d + 2) m_X2_hear 0 [some (.ref 1001), some (.int (Int32.ofNat k)), some (.int o), none, none] [] h (.inl none, h') ∧ hh_F kC h h' ∧ cC h' 1 = ct_hear c k o := by
  subst hc
  have pl := sp_placeIn (g := g) (d := d) (k := k) (x := o) hL rfl hk
  have hp3 : ct_pl (cC h 1) k o ≤ 3 := mm_find_le _ _
  have tail : ∀ (h1 : ev_AH) (c1 : CT) (w3 w4 : Option Value), hh_L h1 → cC h1 1 = c1 → hh_F kC h h1 → ct_he c1 = ct_he (cC h 1) → ct_i c1 5 = ct_i (cC h 1) 5 → ∃ h', tr_L g (d + 2) m_X2_hear 47 [some (.ref 1001), some (.int (Int32.ofNat k)), some (.int o), w3, w4] [] h1 (.inl none, h') ∧ hh_F kC h h' ∧ cC h' 1 = cc_in (cc_he c1 ((ct_he (cC h 1)).set k ((ct_he (cC h 1)).getD k 0 + 1))) 5 (ct_i (cC h 1) 5 + 1) := by
    intro h1 c1 w3 w4 hL1 hc1 hF1 e1 e2
    subst hc1
    have a1 := sp_atL (g := g) (d := d + 1) (a := 6) (k := k) hL1 rfl (by decide) (by omega)
    have p1 := sp_put (g := g) (d := d + 1) (a := 6) (k := k) (y := (hh_a h1 6).getD k 0 + 1) hL1 rfl (by decide) (by omega)
    refine ⟨_, sg_X2_hear_47 hL1 a1 p1 rfl, hh_F_tr hF1 (hh_F_tr (hh_F_sa (by decide)) (hh_F_si (by decide))), ?_⟩
    rw [cC_si (j := 5) p1.2 (by decide), (cC_sa hL1).2.2.2.2.1, hh_i_sa (by decide)]
    rw [show hh_a h1 6 = ct_he (cC h1 1) from rfl, e1, show hh_i h1 1 11 = ct_i (cC h1 1) 5 from rfl, e2]
  by_cases hp : 0 < ct_pl (cC h 1) k o
  · have op := sp_optionIn (g := g) (d := d) (k := k) (p := ct_pl (cC h 1) k o - 1) hL rfl hk (by omega)
    have p1 := sp_put (g := g) (d := d + 1) (a := 4) (k := 4 * k + ct_pl (cC h 1) k o) (y := ct_opt (cC h 1) k (ct_pl (cC h 1) k o - 1)) hL rfl (by decide) (by omega)
    have p2 := sp_put (g := g) (d := d + 1) (a := 4) (k := 4 * k + ct_pl (cC h 1) k o - 1) (y := o) p1.2 rfl (by decide) (by omega)
    have eu : Int32.ofNat (ct_pl (cC h 1) k o) - 1 = Int32.ofNat (ct_pl (cC h 1) k o - 1) := ii_u _ 1 hp
    have eu2 : Int32.ofNat (4 * k + ct_pl (cC h 1) k o) - 1 = Int32.ofNat (4 * k + ct_pl (cC h 1) k o - 1) := ii_u _ 1 (by omega)
    have ec : cC (hh_sa (hh_sa h 4 0 ((hh_a h 4).set (4 * k + ct_pl (cC h 1) k o) (ct_opt (cC h 1) k (ct_pl (cC h 1) k o - 1)))) 4 0 ((hh_a (hh_sa h 4 0 ((hh_a h 4).set (4 * k + ct_pl (cC h 1) k o) (ct_opt (cC h 1) k (ct_pl (cC h 1) k o - 1)))) 4).set (4 * k + ct_pl (cC h 1) k o - 1) o)) 1 = cc_ra (cC h 1) (((ct_ra (cC h 1)).set (4 * k + ct_pl (cC h 1) k o) (ct_opt (cC h 1) k (ct_pl (cC h 1) k o - 1))).set (4 * k + ct_pl (cC h 1) k o - 1) o) := by
      rw [(cC_sa p1.2).2.2.1, (cC_sa hL).2.2.1, hh_a_sa (hh_L_lt hL (by decide)), if_pos rfl]
      rfl
    obtain ⟨h', r1, r2, r3⟩ := tail _ _ (some (.int (Int32.ofNat (ct_pl (cC h 1) k o)))) (some (.int (4 * Int32.ofNat k + Int32.ofNat (ct_pl (cC h 1) k o)))) p2.2 ec (hh_F_tr (hh_F_sa (by decide)) (hh_F_sa (by decide))) rfl rfl
    refine ⟨h', sg_X2_hear_0 hL (tr_mono (by omega) pl) (fun t => ?_) (fun _ => sg_X2_hear_11 hL (by rw [eu]; exact op) (by rw [ii_4]; exact p1) (by rw [ii_4, eu2]; exact p2) r1), r2, ?_⟩
    · have := (ii_le (b := 0) (by omega) (by omega)).mp t
      omega
    · rw [r3, ct_hear, if_pos hp]
  · obtain ⟨h', r1, r2, r3⟩ := tail h (cC h 1) (some (.int (Int32.ofNat (ct_pl (cC h 1) k o)))) none hL rfl hh_F_rf rfl rfl
    refine ⟨h', sg_X2_hear_0 hL (tr_mono (by omega) pl) (fun _ => r1) (fun t => ?_), r2, ?_⟩
    · have := (ii_lt (a := 0) (by omega) (by omega)).mp t
      omega
    · rw [r3, ct_hear, if_neg hp]
/-- a verdict -/
def ct_shift (l : List Int32) (v : Int32) : List Int32 := (v :: l).take l.length
def ct_conc (c : CT) (v : Int32) : CT :=
  let c1 := cc_in (cc_ve c (ct_shift (ct_ve c) v)) 2 (ct_i c 2 + 1)
  let c2 := if v = 45 then cc_in c1 3 (ct_i c 3 + 1) else c1
  cc_in (cc_in c2 6 1) 7 0
theorem ct_shift_get {l : List Int32} {v : Int32} {j : Nat} : (ct_shift l v)[j]? = if j < l.length then (if j = 0 then some v else l[j - 1]?) else none := by
  unfold ct_shift
  rw [List.getElem?_take]
  cases j with
  | zero => simp
  | succ j => simp
theorem sp_conclude {c : CT} {v : Int32} (hL : hh_L h) (hc : cC h 1 = c) (hv : tr_ch v) (hve : ∀ y ∈ ct_ve c, tr_ch y) : ∃ h', tr_L g (d + 1) m_X2_conclude 0 [some (.ref 1001), some (.int v), none] [] h (.inl none, h') ∧ hh_F kC h h' ∧ cC h' 1 = ct_conc c v := by
  subst hc
  have hlen : (hh_a h 7).length = 10 := (hh_arr hL (k := 7) (t := 1) rfl).2
  -- the loop: places above i are shifted, those up to i stand
  have key : ∀ i, i < 10 → ∀ (h1 : ev_AH) (l1 : List Int32), hh_L h1 → h1 = hh_sa h 7 1 l1 → (∀ y ∈ l1, tr_ch y) → l1.length = 10 → (∀ j, j ≤ i → l1[j]? = (hh_a h 7)[j]?) → (∀ j, i < j → j < 10 → l1[j]? = (hh_a h 7)[j - 1]?) → ∀ r, (∀ (h2 : ev_AH) (l2 : List Int32) (w2 : Option Value), hh_L h2 → h2 = hh_sa h 7 1 l2 → l2.length = 10 → l2[0]? = (hh_a h 7)[0]? → (∀ j, 0 < j → j < 10 → l2[j]? = (hh_a h 7)[j - 1]?) → tr_L g (d + 1) m_X2_conclude 31 [some (.ref 1001), some (.int v), w2] [] h2 r) → tr_L g (d + 1) m_X2_conclude 3 [some (.ref 1001), some (.int v), some (.int (Int32.ofNat i))] [] h1 r := by
    intro i
    induction i with
    | zero =>
      intro _ h1 l1 hL1 e1 hch hl1 hlo hhi r k
      refine sg_X2_conclude_3 hL1 (fun _ => k h1 l1 _ hL1 e1 hl1 (hlo 0 (by omega)) (fun j hj hj2 => hhi j hj hj2)) (fun t => ?_)
      exact absurd ((ii_lt (a := 0) (b := 0) (by omega) (by omega)).mp t) (Nat.lt_irrefl 0)
    | succ i ih =>
      intro hi h1 l1 hL1 e1 hch hl1 hlo hhi r k
      refine sg_X2_conclude_3 hL1 (fun t => ?_) (fun _ => ?_)
      · have := (ii_le (b := 0) (by omega) (by omega)).mp t
        omega
      · have ea : hh_a h1 7 = l1 := by rw [e1, hh_a_sa (hh_L_lt hL (by decide)), if_pos rfl]
        have a1 := sp_atcL (g := g) (d := d) (a := 7) (k := i) hL1 rfl (by decide) (by omega) (by rw [ea]; exact hch)
        have hx : tr_ch ((hh_a h1 7).getD i 0) := by
          rw [ea]
          have : l1.getD i 0 = l1[i]'(by omega) := by simp [List.getD, show i < l1.length by omega]
          rw [this]
          exact hch _ (List.getElem_mem _)
        have p1 := sp_putc (g := g) (d := d) (a := 7) (k := i + 1) (y := (hh_a h1 7).getD i 0) hL1 rfl (by decide) (by omega) hx
        have e2 : hh_sa h1 7 1 ((hh_a h1 7).set (i + 1) ((hh_a h1 7).getD i 0)) = hh_sa h 7 1 (l1.set (i + 1) (l1.getD i 0)) := by
          rw [ea, e1, hh_sa_sa]
        refine sg_X2_conclude_7 hL1 (by rw [show Int32.ofNat (i + 1) - 1 = Int32.ofNat i from by rw [← ii_s]; simp]; exact a1) p1 ?_
        have em : Int32.ofNat (i + 1) + (-1) = Int32.ofNat i := by
          rw [← ii_s, Int32.add_assoc]
          simp
        rw [em]
        refine ih (by omega) _ (l1.set (i + 1) (l1.getD i 0)) p1.2 e2 (fun y hy => ?_) (by simp [hl1]) (fun j hj => ?_) (fun j hj hj2 => ?_) r k
        · rcases List.mem_or_eq_of_mem_set hy with h9 | h9
          · exact hch y h9
          · rw [h9, ← ea]; exact hx
        · rw [List.getElem?_set_ne (by omega)]
          exact hlo j (by omega)
        · by_cases hj3 : j = i + 1
          · subst hj3
            rw [List.getElem?_set_self (by omega), Nat.add_sub_cancel, ← hlo i (by omega)]
            simp [List.getD, show i < l1.length by omega]
          · rw [List.getElem?_set_ne (by omega)]
            exact hhi j (by omega) hj2
  have e0 : h = hh_sa h 7 1 (hh_a h 7) := (hh_sa_id (hh_arr hL (k := 7) (t := 1) (n := 10) rfl).1).symm
  -- the end
  have fin : ∃ h', (∀ (h2 : ev_AH) (l2 : List Int32) (w2 : Option Value), hh_L h2 → h2 = hh_sa h 7 1 l2 → l2.length = 10 → l2[0]? = (hh_a h 7)[0]? → (∀ j, 0 < j → j < 10 → l2[j]? = (hh_a h 7)[j - 1]?) → tr_L g (d + 1) m_X2_conclude 31 [some (.ref 1001), some (.int v), w2] [] h2 (.inl none, h')) ∧ hh_F kC h h' ∧ cC h' 1 = ct_conc (cC h 1) v := by
    have hLs : hh_L (hh_sa h 7 1 (ct_shift (hh_a h 7) v)) := hh_L_sa hL (show hh_t[7]? = some (.inl (1, 10)) from rfl) (by unfold ct_shift; rw [List.length_take, List.length_cons, hlen]; rfl)
    have hLs2 := hh_L_si (sl := 8) (x := hh_i h 1 8 + 1) hLs (show hh_t[1]? = some (.inr (1, [1002, 1003, 1004, 1005, 1006, 1007, 0, 0, 0, 0, 0, 0, 0, 0])) from rfl) rfl
    have q0 : ∀ (h2 : ev_AH) (l2 : List Int32), hh_L h2 → h2 = hh_sa h 7 1 l2 → l2.length = 10 → l2[0]? = (hh_a h 7)[0]? → (∀ j, 0 < j → j < 10 → l2[j]? = (hh_a h 7)[j - 1]?) → tr_L g d m_X8_put_ 0 [some (.ref 1007), some (.int 0), some (.int v)] [] h2 (.inl none, hh_sa h 7 1 (ct_shift (hh_a h 7) v)) := by
      intro h2 l2 hL2 e2 hl2 h20 h2j
      have p1 := sp_putc (g := g) (d := d) (a := 7) (k := 0) (y := v) hL2 rfl (by decide) (by omega) hv
      have ea : hh_a h2 7 = l2 := by rw [e2, hh_a_sa (hh_L_lt hL (by decide)), if_pos rfl]
      have e3 : l2.set 0 v = ct_shift (hh_a h 7) v := by
        apply List.ext_getElem?
        intro j
        rw [ct_shift_get, hlen]
        by_cases hj : j < 10
        · rw [if_pos hj]
          by_cases hj0 : j = 0
          · subst hj0
            rw [List.getElem?_set_self (by omega), if_pos rfl]
          · rw [List.getElem?_set_ne (by omega), if_neg hj0, h2j j (by omega) hj]
        · rw [if_neg hj, List.getElem?_eq_none (by rw [List.length_set]; omega)]
      rw [ea, e3] at p1
      have e4 : hh_sa h2 7 1 (ct_shift (hh_a h 7) v) = hh_sa h 7 1 (ct_shift (hh_a h 7) v) := by rw [e2, hh_sa_sa]
      rw [e4] at p1
      exact p1
    have ei8 : hh_i (hh_sa h 7 1 (ct_shift (hh_a h 7) v)) 1 8 = hh_i h 1 8 := hh_i_sa (by decide)
    by_cases hv45 : v = 45
    · have hLs3 := hh_L_si (sl := 9) (x := hh_i h 1 9 + 1) hLs2 (show hh_t[1]? = some (.inr (1, [1002, 1003, 1004, 1005, 1006, 1007, 0, 0, 0, 0, 0, 0, 0, 0])) from rfl) rfl
      have hLs4 := hh_L_si (sl := 12) (x := 1) hLs3 (show hh_t[1]? = some (.inr (1, [1002, 1003, 1004, 1005, 1006, 1007, 0, 0, 0, 0, 0, 0, 0, 0])) from rfl) rfl
      have ei9 : hh_i (hh_si (hh_sa h 7 1 (ct_shift (hh_a h 7) v)) 1 1 8 (hh_i h 1 8 + 1)) 1 9 = hh_i h 1 9 := by
        rw [hh_i_si hLs (show hh_t[1]? = some (.inr (1, [1002, 1003, 1004, 1005, 1006, 1007, 0, 0, 0, 0, 0, 0, 0, 0])) from rfl) (by decide), if_neg (by decide)]
        exact hh_i_sa (by decide)
      refine ⟨hh_si (hh_si (hh_si (hh_si (hh_sa h 7 1 (ct_shift (hh_a h 7) v)) 1 1 8 (hh_i h 1 8 + 1)) 1 1 9 (hh_i h 1 9 + 1)) 1 1 12 1) 1 1 13 0, fun h2 l2 w2 hL2 e2 hl2 h20 h2j => ?_, hh_F_tr (hh_F_sa (by decide)) (hh_F_tr (hh_F_si (by decide)) (hh_F_tr (hh_F_si (by decide)) (hh_F_tr (hh_F_si (by decide)) (hh_F_si (by decide))))), ?_⟩
      · refine sg_X2_conclude_31 hL2 (q0 h2 l2 hL2 e2 hl2 h20 h2j) (fun t => absurd hv45 t) (fun _ => ?_)
        rw [ei8]
        refine sg_X2_conclude_56 hLs2 ?_
        rw [ei9]
        exact sg_X2_conclude_66 hLs3 rfl
      · rw [cC_si (j := 7) hLs4 (by decide), cC_si (j := 6) hLs3 (by decide), cC_si (j := 3) hLs2 (by decide), cC_si (j := 2) hLs (by decide), (cC_sa hL).2.2.2.2.2, ct_conc, if_pos hv45]
        rfl
    · have hLs4 := hh_L_si (sl := 12) (x := 1) hLs2 (show hh_t[1]? = some (.inr (1, [1002, 1003, 1004, 1005, 1006, 1007, 0, 0, 0, 0, 0, 0, 0, 0])) from rfl) rfl
      refine ⟨hh_si (hh_si (hh_si (hh_sa h 7 1 (ct_shift (hh_a h 7) v)) 1 1 8 (hh_i h 1 8 + 1)) 1 1 12 1) 1 1 13 0, fun h2 l2 w2 hL2 e2 hl2 h20 h2j => ?_, hh_F_tr (hh_F_sa (by decide)) (hh_F_tr (hh_F_si (by decide)) (hh_F_tr (hh_F_si (by decide)) (hh_F_si (by decide)))), ?_⟩
      · refine sg_X2_conclude_31 hL2 (q0 h2 l2 hL2 e2 hl2 h20 h2j) (fun _ => ?_) (fun t => absurd t hv45)
        rw [ei8]
        exact sg_X2_conclude_66 hLs2 rfl
      · rw [cC_si (j := 7) hLs4 (by decide), cC_si (j := 6) hLs2 (by decide), cC_si (j := 2) hLs (by decide), (cC_sa hL).2.2.2.2.2, ct_conc, if_neg hv45]
        rfl
  obtain ⟨h', f1, f2, f3⟩ := fin
  exact ⟨h', sg_X2_conclude_0 hL (key 9 (by decide) h (hh_a h 7) hL e0 hve hlen (fun _ _ => rfl) (fun j h1 h2 => absurd h2 (by omega)) _ f1), f2, f3⟩
end
