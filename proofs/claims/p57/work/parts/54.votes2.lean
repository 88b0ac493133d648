/-! the methods of Votes, second half: rounds, pairs, victories, dominance -/
theorem mm_few_congr {b b' : Nat → Int32} {m : Nat} : ∀ {n : Nat}, (∀ o, o < n → b o = b' o) → mm_few b m n = mm_few b' m n
  | 0, _ => rfl
  | n + 1, h => by
    have ih := mm_few_congr (m := m) (fun o ho => h o (by omega)) (n := n)
    simp only [mm_few, ih]
    have : (m.testBit n = true ∧ ∀ f, mm_few b' m n = some f → b n ≤ b f) ↔ (m.testBit n = true ∧ ∀ f, mm_few b' m n = some f → b' n ≤ b' f) := by
      constructor
      · rintro ⟨h1, h2⟩
        exact ⟨h1, fun f hf => by have := h2 f hf; rwa [h n (by omega), h f (by have := (mm_few_lt _ _ _ _ hf).1; omega)] at this⟩
      · rintro ⟨h1, h2⟩
        exact ⟨h1, fun f hf => by have := h2 f hf; rwa [← h n (by omega), ← h f (by have := (mm_few_lt _ _ _ _ hf).1; omega)] at this⟩
    by_cases hc : (m.testBit n = true ∧ ∀ f, mm_few b' m n = some f → b' n ≤ b' f)
    · rw [if_pos hc, if_pos (this.mpr hc)]
    · rw [if_neg hc, if_neg (fun h => hc (this.mp h))]
/-- the option with more than half of the votes; 4 if there is none -/
def ct_wr (c : CT) (n m : Nat) : Nat := mm_find (fun o => decide (Int32.ofNat n < 2 * ct_vo c n m o)) 4
def ct_few (c : CT) (n m : Nat) : Option Nat := mm_few (ct_vo c n m) m 4
/-- the winner by rounds, and the number of rounds -/
def ct_vr (c : CT) (n : Nat) : Nat → Nat → Nat → Nat × Nat
  | 0, _, r => (0, r - 1)
  | f + 1, m, r => if ct_wr c n m < 4 then (ct_wr c n m, r) else match ct_few c n m with
    | some e => ct_vr c n f (m - 2 ^ e) (r + 1)
    | none => (0, r)
theorem mm_sum_1 : ∀ n, mm_sum (fun _ => 1) n = Int32.ofNat n
  | 0 => rfl
  | n + 1 => by rw [mm_sum, mm_sum_1 n, ii_s]
/-- where no option has more than half, another is left behind the next that leaves -/
theorem ct_vr_left {c : CT} {n m e : Nat} (h1 : 1 ≤ n) (h7 : n ≤ 7) (hP : ct_perm c n) (hm : m < 16) (h0 : m ≠ 0) (hw : ¬ ct_wr c n m < 4) (he : ct_few c n m = some e) : m - 2 ^ e < 16 ∧ m - 2 ^ e ≠ 0 ∧ e < 4 ∧ m.testBit e = true := by
  obtain ⟨he4, hb⟩ := mm_few_lt _ _ _ _ he
  refine ⟨Nat.lt_of_le_of_lt (Nat.sub_le _ _) hm, fun hz => hw ?_, he4, hb⟩
  have only : ∀ m, m < 16 → ∀ e, e < 4 → ∀ o, o < 4 → (m.testBit e && decide (m - 2 ^ e = 0) && m.testBit o) = true → o = e := by decide +kernel
  have ho : ∀ o, o < 4 → m.testBit o = true → o = e := fun o ho4 hbo => only m hm e he4 o ho4 (by rw [hb, decide_eq_true hz, hbo]; rfl)
  have hv : ct_vo c n m e = Int32.ofNat n := by
    rw [← mm_sum_1 n]
    refine mm_sum_congr (fun k hk => ?_)
    obtain ⟨-, o, ho4, eo, hmo⟩ := ct_fp_lt hP hk hm h0
    rw [if_pos (by rw [eo, ho o ho4 hmo])]
  have hlt : ∀ n, n < 8 → 1 ≤ n → Int32.ofNat n < 2 * Int32.ofNat n := by decide +kernel
  have sp := mm_find_spec (fun o => decide (Int32.ofNat n < 2 * ct_vo c n m o)) 4
  rcases Nat.lt_or_ge (ct_wr c n m) 4 with h | h
  · exact h
  · have := sp.2 e (Nat.lt_of_lt_of_le he4 h)
    rw [hv] at this
    exact absurd (hlt n (by omega) h1) (of_decide_eq_false this)
theorem ct_few_some {c : CT} {n m : Nat} (hm : m < 16) (h0 : m ≠ 0) : ∃ e, ct_few c n m = some e := by
  have hb : ∀ m, m < 16 → m ≠ 0 → (m.testBit 0 || m.testBit 1 || m.testBit 2 || m.testBit 3) = true := by decide +kernel
  apply mm_few_some
  have := hb m hm h0
  simp only [Bool.or_eq_true] at this
  rcases this with ((h | h) | h) | h
  · exact ⟨0, by omega, h⟩
  · exact ⟨1, by omega, h⟩
  · exact ⟨2, by omega, h⟩
  · exact ⟨3, by omega, h⟩
theorem ii_clr : ∀ m, m < 16 → ∀ e, e < 4 → m.testBit e = true → Int32.ofNat m - (1 <<< (Int32.ofNat e &&& 31)) = Int32.ofNat (m - 2 ^ e) := by decide +kernel
section
variable {g : tr_g} {d : Nat} {h : ev_AH}
theorem sp_voteInRounds {c : CT} {n : Nat} (hL : hh_L h) (hc : cC h 1 = c) (hn : ct_i c 0 = Int32.ofNat n) (h1 : 1 ≤ n) (h7 : n ≤ 7) (hP : ct_perm c n) : ∃ h', tr_L g (d + 3) m_X7_voteInRounds 0 [some (.ref 1089), some (.ref 1001), none, none, none] [] h (.inl (some (.int (Int32.ofNat (ct_vr c n 4 15 1).1))), h') ∧ hh_F [89, 92] h h' ∧ hh_i h' 89 3 = Int32.ofNat (ct_vr c n 4 15 1).2 := by
  have vt : hh_t[89]? = some (.inr (6, [1090, 1091, 1092, 0])) := rfl
  have key : ∀ f m r, r + f = 5 → 1 ≤ r → m < 16 → m ≠ 0 → (f = 0 → False ∨ True) → ∀ (h1' : ev_AH) (w : Option Value), hh_L h1' → hh_F [89, 92] h h1' → (1 < r → hh_i h1' 89 3 = Int32.ofNat (r - 1)) → ∃ h', tr_L g (d + 3) m_X7_voteInRounds 5 [some (.ref 1089), some (.ref 1001), some (.int (Int32.ofNat m)), some (.int (Int32.ofNat r)), w] [] h1' (.inl (some (.int (Int32.ofNat (ct_vr c n f m r).1))), h') ∧ hh_F [89, 92] h h' ∧ hh_i h' 89 3 = Int32.ofNat (ct_vr c n f m r).2 := by
    intro f
    induction f with
    | zero =>
      intro m r hr hr1 hm h0 _ h2 w hL2 hF2 hi
      refine ⟨h2, sg_X7_voteInRounds_5 hL2 (fun _ => sg_X7_voteInRounds_73 hL2 rfl) (fun t => ?_), hF2, hi (by omega)⟩
      have := (ii_le (b := 4) (by omega) (by omega)).mp t
      omega
    | succ f ih =>
      intro m r hr hr1 hm h0 _ h2 w hL2 hF2 hi
      have hL3 := hh_L_si (sl := 3) (x := Int32.ofNat r) hL2 vt rfl
      have hF3 : hh_F [89, 92] h (hh_si h2 89 6 3 (Int32.ofNat r)) := hh_F_tr hF2 (hh_F_si (by decide))
      have hc3 : cC (hh_si h2 89 6 3 (Int32.ofNat r)) 1 = c := (cC_F hF3 (by decide)).trans hc
      obtain ⟨h4, b1, b2, b3⟩ := sp_ballots (g := g) (d := d) hL3 hc3 hn h7 hP hm h0
      have hL4 := b1.2
      have hF4 : hh_F [89, 92] h h4 := hh_F_tr hF3 (hh_F_w b2 (by decide))
      have hc4 : cC h4 1 = c := (cC_F hF4 (by decide)).trans hc
      have hn4 : hh_i h4 1 6 = Int32.ofNat n := by rw [← hn, ← hc4]; rfl
      have hi4 : hh_i h4 89 3 = Int32.ofNat r := by
        rw [hh_F_i b2 (by decide), hh_i_si hL2 vt (by decide), if_pos ⟨rfl, rfl⟩]
      -- the look for more than half
      have look : ∀ z o, o + z = 4 → (∀ j, j < o → decide (Int32.ofNat n < 2 * ct_vo c n m j) = false) → ∃ h', tr_L g (d + 3) m_X7_voteInRounds 24 [some (.ref 1089), some (.ref 1001), some (.int (Int32.ofNat m)), some (.int (Int32.ofNat r)), some (.int (Int32.ofNat o))] [] h4 (.inl (some (.int (Int32.ofNat (ct_vr c n (f + 1) m r).1))), h') ∧ hh_F [89, 92] h h' ∧ hh_i h' 89 3 = Int32.ofNat (ct_vr c n (f + 1) m r).2 := by
        intro z
        induction z with
        | zero =>
          intro o ho hb
          have : o = 4 := by omega
          subst this
          have hw : ct_wr c n m = 4 := mm_find_no hb
          obtain ⟨e, he⟩ := ct_few_some (c := c) (n := n) hm h0
          obtain ⟨k1, k2, k3, k4⟩ := ct_vr_left h1 h7 hP hm h0 (by omega) he
          have fe := sp_fewest (g := g) (d := d + 1) hL4 hm
          have ef : mm_few (fun o => (hh_a h4 92).getD o 0) m 4 = some e := by
            rw [mm_few_congr b3]; exact he
          rw [ef] at fe
          obtain ⟨h', r1, r2, r3⟩ := ih (m - 2 ^ e) (r + 1) (by omega) (by omega) k1 k2 (fun _ => Or.inr trivial) h4 (some (.int (Int32.ofNat 4))) hL4 hF4 (fun _ => hi4)
          have ev : ct_vr c n (f + 1) m r = ct_vr c n f (m - 2 ^ e) (r + 1) := by
            rw [ct_vr, if_neg (by omega), he]
          rw [ev]
          refine ⟨h', sg_X7_voteInRounds_24 hL4 (fun _ => sg_X7_voteInRounds_57 hL4 fe ?_) (fun t => ?_), r2, r3⟩
          · rw [ii_s]
            have := ii_clr m hm e k3 k4
            simp only [oo_i]
            rw [this]
            exact r1
          · have := (ii_lt (a := 4) (b := 4) (by omega) (by omega)).mp t
            omega
        | succ z ihz =>
          intro o ho hb
          have a1 := sp_atL (g := g) (d := d + 2) (a := 92) (k := o) hL4 rfl (by decide) (by omega)
          rw [b3 o (by omega)] at a1
          by_cases hlt : Int32.ofNat n < 2 * ct_vo c n m o
          · have hw : ct_wr c n m = o := mm_find_at (by omega) (decide_eq_true hlt) hb
            have ev : ct_vr c n (f + 1) m r = (o, r) := by
              rw [ct_vr, hw, if_pos (by omega)]
            rw [ev]
            refine ⟨h4, sg_X7_voteInRounds_24 hL4 (fun t => ?_) (fun _ => ?_), hF4, hi4⟩
            · have := (ii_le (a := 4) (by omega) (by omega)).mp t
              omega
            · refine sg_X7_voteInRounds_30 hL4 a1 (fun t => ?_) (fun _ => sg_X7_voteInRounds_48 hL4 rfl)
              rw [hn4] at t
              exact absurd hlt (Int32.not_lt.mpr t)
          · obtain ⟨h', r1, r2, r3⟩ := ihz (o + 1) (by omega) (fun j hj => by
              by_cases hj2 : j < o
              · exact hb j hj2
              · have : j = o := by omega
                subst this
                exact decide_eq_false hlt)
            refine ⟨h', sg_X7_voteInRounds_24 hL4 (fun t => ?_) (fun _ => ?_), r2, r3⟩
            · have := (ii_le (a := 4) (by omega) (by omega)).mp t
              omega
            · refine sg_X7_voteInRounds_30 hL4 a1 (fun _ => sg_X7_voteInRounds_51 hL4 (by rw [ii_s]; exact r1)) (fun t => ?_)
              rw [hn4] at t
              exact absurd t hlt
      obtain ⟨h', r1, r2, r3⟩ := look 4 0 (by omega) (fun j hj => absurd hj (by omega))
      refine ⟨h', sg_X7_voteInRounds_5 hL2 (fun t => ?_) (fun _ => sg_X7_voteInRounds_10 hL2 b1 r1), r2, r3⟩
      have := (ii_lt (a := 4) (by omega) (by omega)).mp t
      omega
  obtain ⟨h', r1, r2, r3⟩ := key 4 15 1 (by omega) (by omega) (by omega) (by omega) (fun _ => Or.inr trivial) h none hL hh_F_rf (fun t => absurd t (by omega))
  exact ⟨h', sg_X7_voteInRounds_0 hL r1, r2, r3⟩
end
/-! pairs -/
def bp (l : List Int32) (i : Nat) : List Int32 := l.set i (l.getD i 0 + 1)
def cq (r : Nat → Nat) (a : Nat) : Nat → Nat → List Int32 → List Int32
  | 0, _, l => l
  | m + 1, q, l => cq r a m (q + 1) (bp l (4 * a + r q))
def cp (r : Nat → Nat) : Nat → Nat → List Int32 → List Int32
  | 0, _, l => l
  | m + 1, p, l => cp r m (p + 1) (cq r (r p) (3 - p) (p + 1) l)
theorem bp_len {l : List Int32} {i : Nat} : (bp l i).length = l.length := by rw [bp, List.length_set]
theorem bp_get {l : List Int32} {i j : Nat} (hj : j < l.length) : (bp l i).getD j 0 = l.getD j 0 + (if j = i then 1 else 0) := by
  by_cases e : j = i
  · subst e
    rw [if_pos rfl]
    simp [bp, List.getD, hj]
  · rw [if_neg e, Int32.add_zero]
    simp [bp, List.getD, Ne.symm e]
theorem cq_len {r : Nat → Nat} {a : Nat} : ∀ m q l, (cq r a m q l).length = l.length
  | 0, _, _ => rfl
  | m + 1, q, l => by rw [cq, cq_len m, bp_len]
theorem cp_len {r : Nat → Nat} : ∀ m p l, (cp r m p l).length = l.length
  | 0, _, _ => rfl
  | m + 1, p, l => by rw [cp, cp_len m, cq_len]
def eI (i j : Nat) : Int32 := if i = j then 1 else 0
theorem cp_get {r : Nat → Nat} {l : List Int32} {j : Nat} (hj : j < l.length) : (cp r 4 0 l).getD j 0 = l.getD j 0 + (eI j (4 * r 0 + r 1) + (eI j (4 * r 0 + r 2) + (eI j (4 * r 0 + r 3) + (eI j (4 * r 1 + r 2) + (eI j (4 * r 1 + r 3) + eI j (4 * r 2 + r 3)))))) := by
  show (bp (bp (bp (bp (bp (bp l (4 * r 0 + r 1)) (4 * r 0 + r 2)) (4 * r 0 + r 3)) (4 * r 1 + r 2)) (4 * r 1 + r 3)) (4 * r 2 + r 3)).getD j 0 = _
  rw [bp_get (by simp only [bp_len]; exact hj), bp_get (by simp only [bp_len]; exact hj), bp_get (by simp only [bp_len]; exact hj), bp_get (by simp only [bp_len]; exact hj), bp_get (by simp only [bp_len]; exact hj), bp_get hj]
  simp only [eI, Int32.add_assoc]
def posR (r : List Nat) (a : Nat) : Nat := mm_find (fun p => Int32.ofNat (r.getD p 0) == Int32.ofNat a) 3
theorem PERMS_cnt : ∀ r ∈ PERMS, ∀ a, a < 4 → ∀ b, b < 4 → eI (4 * a + b) (4 * r.getD 0 0 + r.getD 1 0) + (eI (4 * a + b) (4 * r.getD 0 0 + r.getD 2 0) + (eI (4 * a + b) (4 * r.getD 0 0 + r.getD 3 0) + (eI (4 * a + b) (4 * r.getD 1 0 + r.getD 2 0) + (eI (4 * a + b) (4 * r.getD 1 0 + r.getD 3 0) + eI (4 * a + b) (4 * r.getD 2 0 + r.getD 3 0))))) = if posR r a < posR r b then 1 else 0 := by decide +kernel
/-- how many of the first n cats prefer a to b -/
def ct_lk (c : CT) (n a b : Nat) : Int32 := mm_sum (fun k => if ct_pl c k (Int32.ofNat a) < ct_pl c k (Int32.ofNat b) then 1 else 0) n
theorem ct_pl_pos {c : CT} {k a : Nat} {r : List Nat} (hr : ∀ p, p < 4 → ct_opt c k p = Int32.ofNat (r.getD p 0)) : ct_pl c k (Int32.ofNat a) = posR r a := mm_find_congr (fun p hp => by rw [hr p (by omega)])
section
variable {g : tr_g} {d : Nat} {h : ev_AH}
theorem sp_countPairs {c : CT} {n : Nat} (hL : hh_L h) (hc : cC h 1 = c) (hn : ct_i c 0 = Int32.ofNat n) (h7 : n ≤ 7) (hP : ct_perm c n) : ∃ h', tr_L g (d + 2) m_X7_countPairs 0 [some (.ref 1089), some (.ref 1001), none, none, none, none, none] [] h (.inl none, h') ∧ hh_F [90] h h' ∧ ∀ a, a < 4 → ∀ b, b < 4 → (hh_a h' 90).getD (4 * a + b) 0 = ct_lk c n a b := by
  -- one row: the places behind p
  have kq : ∀ (r : List Nat) (k : Nat), k < 7 → r ∈ PERMS → (∀ p, p < 4 → ct_opt c k p = Int32.ofNat (r.getD p 0)) → ∀ m q p a, q + m = 4 → p < 4 → a < 4 → ∀ (h1 : ev_AH), hh_L h1 → hh_F [90] h h1 → ∃ h2, hh_L h2 ∧ hh_F [90] h h2 ∧ hh_a h2 90 = cq (fun p => r.getD p 0) a m q (hh_a h1 90) ∧ ∀ res, (∀ (w4 w5 w6 : Option Value), tr_L g (d + 2) m_X7_countPairs 112 [some (.ref 1089), some (.ref 1001), some (.int (Int32.ofNat k)), some (.int (Int32.ofNat p)), w4, w5, w6] [] h2 res) → ∀ w : Option Value, tr_L g (d + 2) m_X7_countPairs 60 [some (.ref 1089), some (.ref 1001), some (.int (Int32.ofNat k)), some (.int (Int32.ofNat p)), some (.int (Int32.ofNat a)), some (.int (Int32.ofNat q)), w] [] h1 res := by
    intro r k hk hr hrp m
    induction m with
    | zero =>
      intro q p a hq hp ha h1 hL1 hF1
      refine ⟨h1, hL1, hF1, rfl, fun res kk w => sg_X7_countPairs_60 hL1 (fun _ => kk _ _ _) (fun t => ?_)⟩
      have := (ii_lt (b := 4) (by omega) (by omega)).mp t
      omega
    | succ m ih =>
      intro q p a hq hp ha h1 hL1 hF1
      have hc1 : cC h1 1 = c := (cC_F hF1 (by decide)).trans hc
      have a1 := sp_atL (g := g) (d := d + 1) (a := 4) (k := 4 * k + q) hL1 rfl (by decide) (by omega)
      rw [show (hh_a h1 4).getD (4 * k + q) 0 = ct_opt c k q by rw [← hc1]; rfl, hrp q (by omega)] at a1
      have hlt := PERMS_lt r hr q (by omega)
      have p1 := sp_pair (g := g) (d := d + 1) (a := a) (b := r.getD q 0) hL1
      have a2 := sp_atL (g := g) (d := d + 1) (a := 90) (k := 4 * a + r.getD q 0) hL1 rfl (by decide) (by omega)
      have p2 := sp_put (g := g) (d := d + 1) (a := 90) (k := 4 * a + r.getD q 0) (y := (hh_a h1 90).getD (4 * a + r.getD q 0) 0 + 1) hL1 rfl (by decide) (by omega)
      obtain ⟨h2, q1, q2, q3, q4⟩ := ih (q + 1) p a (by omega) hp ha _ p2.2 (hh_F_tr hF1 (hh_F_sa (by decide)))
      refine ⟨h2, q1, q2, ?_, fun res kk w => sg_X7_countPairs_60 hL1 (fun t => ?_) (fun _ => ?_)⟩
      · rw [q3, hh_a_sa (hh_L_lt hL1 (by decide)), if_pos rfl]
        rfl
      · have := (ii_le (a := 4) (by omega) (by omega)).mp t
        omega
      · refine sg_X7_countPairs_66 hL1 (by rw [ii_4]; exact a1) p1 a2 p2 ?_
        rw [ii_s]
        exact q4 res kk _
  -- one cat
  have kp : ∀ (r : List Nat) (k : Nat), k < 7 → r ∈ PERMS → (∀ p, p < 4 → ct_opt c k p = Int32.ofNat (r.getD p 0)) → ∀ m p, p + m = 4 → ∀ (h1 : ev_AH), hh_L h1 → hh_F [90] h h1 → ∃ h2, hh_L h2 ∧ hh_F [90] h h2 ∧ hh_a h2 90 = cp (fun p => r.getD p 0) m p (hh_a h1 90) ∧ ∀ res, (∀ (w3 w4 w5 w6 : Option Value), tr_L g (d + 2) m_X7_countPairs 118 [some (.ref 1089), some (.ref 1001), some (.int (Int32.ofNat k)), w3, w4, w5, w6] [] h2 res) → ∀ w4 w5 w6 : Option Value, tr_L g (d + 2) m_X7_countPairs 36 [some (.ref 1089), some (.ref 1001), some (.int (Int32.ofNat k)), some (.int (Int32.ofNat p)), w4, w5, w6] [] h1 res := by
    intro r k hk hr hrp m
    induction m with
    | zero =>
      intro p hp h1 hL1 hF1
      refine ⟨h1, hL1, hF1, rfl, fun res kk w4 w5 w6 => sg_X7_countPairs_36 hL1 (fun _ => kk _ _ _ _) (fun t => ?_)⟩
      have := (ii_lt (b := 4) (by omega) (by omega)).mp t
      omega
    | succ m ih =>
      intro p hp h1 hL1 hF1
      have hc1 : cC h1 1 = c := (cC_F hF1 (by decide)).trans hc
      have a1 := sp_atL (g := g) (d := d + 1) (a := 4) (k := 4 * k + p) hL1 rfl (by decide) (by omega)
      rw [show (hh_a h1 4).getD (4 * k + p) 0 = ct_opt c k p by rw [← hc1]; rfl, hrp p (by omega)] at a1
      have hlt := PERMS_lt r hr p (by omega)
      obtain ⟨h2, q1, q2, q3, q4⟩ := kq r k hk hr hrp (3 - p) (p + 1) p (r.getD p 0) (by omega) (by omega) hlt h1 hL1 hF1
      obtain ⟨h3, s1, s2, s3, s4⟩ := ih (p + 1) (by omega) h2 q1 q2
      refine ⟨h3, s1, s2, by rw [s3, q3]; rfl, fun res kk w4 w5 w6 => sg_X7_countPairs_36 hL1 (fun t => ?_) (fun _ => ?_)⟩
      · have := (ii_le (a := 4) (by omega) (by omega)).mp t
        omega
      · refine sg_X7_countPairs_41 hL1 (by rw [ii_4]; exact a1) ?_
        rw [ii_s]
        refine q4 res (fun w4 w5 w6 => sg_X7_countPairs_112 q1 ?_) _
        rw [ii_s]
        exact s4 res kk _ _ _
  -- all cats
  have kc : ∀ z k, k + z = n → ∀ (h1 : ev_AH), hh_L h1 → hh_F [90] h h1 → (∀ a, a < 4 → ∀ b, b < 4 → (hh_a h1 90).getD (4 * a + b) 0 = ct_lk c k a b) → ∃ h', (∀ w3 w4 w5 w6 : Option Value, tr_L g (d + 2) m_X7_countPairs 26 [some (.ref 1089), some (.ref 1001), some (.int (Int32.ofNat k)), w3, w4, w5, w6] [] h1 (.inl none, h')) ∧ hh_F [90] h h' ∧ ∀ a, a < 4 → ∀ b, b < 4 → (hh_a h' 90).getD (4 * a + b) 0 = ct_lk c n a b := by
    intro z
    induction z with
    | zero =>
      intro k hk h1 hL1 hF1 hb
      have : k = n := by omega
      subst this
      have hn' : hh_i h1 1 6 = Int32.ofNat k := by rw [hh_F_i hF1 (by decide), ← hn, ← hc]; rfl
      refine ⟨h1, fun w3 w4 w5 w6 => sg_X7_countPairs_26 hL1 (fun _ => sg_X7_countPairs_124 hL1 rfl) (fun t => ?_), hF1, hb⟩
      rw [hn'] at t
      have := (ii_lt (by omega) (by omega)).mp t
      omega
    | succ z ih =>
      intro k hk h1 hL1 hF1 hb
      have hn' : hh_i h1 1 6 = Int32.ofNat n := by rw [hh_F_i hF1 (by decide), ← hn, ← hc]; rfl
      obtain ⟨r, hr, hrp⟩ := hP k (by omega)
      have hlen : (hh_a h1 90).length = 16 := (hh_arr hL1 (k := 90) (t := 0) rfl).2
      obtain ⟨h2, q1, q2, q3, q4⟩ := kp r k (by omega) hr hrp 4 0 (by omega) h1 hL1 hF1
      obtain ⟨h', r1, r2, r3⟩ := ih (k + 1) (by omega) h2 q1 q2 (fun a ha b hb2 => by
        rw [q3, cp_get (by omega), hb a ha b hb2, PERMS_cnt r hr a ha b hb2, ct_lk, ct_lk]
        simp only [mm_sum]
        rw [ct_pl_pos hrp, ct_pl_pos hrp])
      refine ⟨h', fun w3 w4 w5 w6 => sg_X7_countPairs_26 hL1 (fun t => ?_) (fun _ => sg_X7_countPairs_34 hL1 (q4 _ (fun w3 w4 w5 w6 => sg_X7_countPairs_118 q1 ?_) _ _ _)), r2, r3⟩
      · rw [hn'] at t
        have := (ii_le (by omega) (by omega)).mp t
        omega
      · rw [ii_s]
        exact r1 _ _ _ _
  -- the pairs are cleared
  have k0 : ∀ z j, j + z = 16 → ∀ (h1 : ev_AH), hh_L h1 → hh_F [90] h h1 → (∀ i, i < j → (hh_a h1 90).getD i 0 = 0) → ∃ h', tr_L g (d + 2) m_X7_countPairs 2 [some (.ref 1089), some (.ref 1001), some (.int (Int32.ofNat j)), none, none, none, none] [] h1 (.inl none, h') ∧ hh_F [90] h h' ∧ ∀ a, a < 4 → ∀ b, b < 4 → (hh_a h' 90).getD (4 * a + b) 0 = ct_lk c n a b := by
    intro z
    induction z with
    | zero =>
      intro j hj h1 hL1 hF1 hb
      obtain ⟨h', r1, r2, r3⟩ := kc n 0 (by omega) h1 hL1 hF1 (fun a ha b hb2 => by rw [hb (4 * a + b) (by omega)]; rfl)
      refine ⟨h', sg_X7_countPairs_2 hL1 (fun _ => sg_X7_countPairs_24 hL1 (r1 _ _ _ _)) (fun t => ?_), r2, r3⟩
      have := (ii_lt (b := 16) (by omega) (by omega)).mp t
      omega
    | succ z ih =>
      intro j hj h1 hL1 hF1 hb
      have hlen : (hh_a h1 90).length = 16 := (hh_arr hL1 (k := 90) (t := 0) rfl).2
      have hLn := hh_L_ss (j := j) (x := 0) hL1 (show hh_t[90]? = some (.inl (0, 16)) from rfl)
      obtain ⟨h', r1, r2, r3⟩ := ih (j + 1) (by omega) _ hLn (hh_F_tr hF1 (hh_F_sa (by decide))) (fun i hi => by
        rw [hh_a_sa (hh_L_lt hL1 (by decide)), if_pos rfl]
        by_cases e : j = i
        · subst e
          simp [List.getD, hlen, show j < 16 by omega]
        · have := hb i (by omega)
          simp [List.getD, e] at this ⊢
          exact this)
      refine ⟨h', sg_X7_countPairs_2 hL1 (fun t => ?_) (fun _ => sg_X7_countPairs_11 hL1 (e0 := rfl) (b0 := by omega) ?_), r2, r3⟩
      · have := (ii_le (a := 16) (by omega) (by omega)).mp t
        omega
      · rw [ii_s]
        exact r1
  obtain ⟨h', r1, r2, r3⟩ := k0 16 0 (by omega) h hL hh_F_rf (fun i hi => absurd hi (by omega))
  exact ⟨h', sg_X7_countPairs_0 hL r1, r2, r3⟩
/-- what stands among the pairs -/
def ct_pr (c : CT) (n : Nat) (h : ev_AH) : Prop := ∀ a, a < 4 → ∀ b, b < 4 → (hh_a h 90).getD (4 * a + b) 0 = ct_lk c n a b
theorem sp_preferring {c : CT} {n a b : Nat} (hL : hh_L h) (hp : ct_pr c n h) (ha : a < 4) (hb : b < 4) : tr_L g (d + 1) m_X7_preferring 0 [some (.ref 1089), some (.int (Int32.ofNat a)), some (.int (Int32.ofNat b))] [] h (.inl (some (.int (ct_lk c n a b))), h) := by
  have a1 := sp_atL (g := g) (d := d) (a := 90) (k := 4 * a + b) hL rfl (by decide) (by omega)
  rw [hp a ha b hb] at a1
  exact sg_X7_preferring_0 hL (sp_pair hL) a1 rfl
def ct_vi (c : CT) (n a b : Nat) : Int32 := if ct_lk c n b a < ct_lk c n a b then ct_lk c n a b else 0
theorem sp_victory {c : CT} {n a b : Nat} (hL : hh_L h) (hp : ct_pr c n h) (ha : a < 4) (hb : b < 4) : tr_L g (d + 1) m_X7_victory 0 [some (.ref 1089), some (.int (Int32.ofNat a)), some (.int (Int32.ofNat b)), none] [] h (.inl (some (.int (ct_vi c n a b))), h) := by
  have a1 := sp_atL (g := g) (d := d) (a := 90) (k := 4 * a + b) hL rfl (by decide) (by omega)
  have a2 := sp_atL (g := g) (d := d) (a := 90) (k := 4 * b + a) hL rfl (by decide) (by omega)
  rw [hp a ha b hb] at a1
  rw [hp b hb a ha] at a2
  refine sg_X7_victory_0 hL (sp_pair hL) a1 (sp_pair hL) a2 (fun t => sg_X7_victory_33 hL ?_) (fun t => sg_X7_victory_29 hL ?_)
  · rw [ct_vi, if_neg (Int32.not_lt.mpr t)]
  · rw [ct_vi, if_pos t]
/-- the first option over which o is not dominant; 4 if there is none -/
def ct_nd (c : CT) (n o : Nat) : Nat := mm_find (fun b => decide (b ≠ o) && decide (2 * ct_lk c n o b ≤ Int32.ofNat n)) 4
theorem sp_dominates {c : CT} {n o : Nat} (hL : hh_L h) (hc : cC h 1 = c) (hn : ct_i c 0 = Int32.ofNat n) (h7 : n ≤ 7) (hP : ct_perm c n) (ho : o < 4) : ∃ h', tr_L g (d + 3) m_X7_dominates 0 [some (.ref 1089), some (.ref 1001), some (.int (Int32.ofNat o)), none] [] h (.inl (some (.int (if ct_nd c n o < 4 then 0 else 1))), h') ∧ hh_F [90] h h' := by
  obtain ⟨h1, b1, b2, b3⟩ := sp_countPairs (g := g) (d := d) hL hc hn h7 hP
  have hL1 := b1.2
  have hc1 : cC h1 1 = c := (cC_F b2 (by decide)).trans hc
  have hn1 : hh_i h1 1 6 = Int32.ofNat n := by rw [← hn, ← hc1]; rfl
  refine ⟨h1, sg_X7_dominates_0 hL b1 ?_, b2⟩
  have key : ∀ z b, b + z = 4 → (∀ j, j < b → (decide (j ≠ o) && decide (2 * ct_lk c n o j ≤ Int32.ofNat n)) = false) → tr_L g (d + 3) m_X7_dominates 7 [some (.ref 1089), some (.ref 1001), some (.int (Int32.ofNat o)), some (.int (Int32.ofNat b))] [] h1 (.inl (some (.int (if ct_nd c n o < 4 then 0 else 1))), h1) := by
    intro z
    induction z with
    | zero =>
      intro b hb hbs
      have : b = 4 := by omega
      subst this
      have e : ct_nd c n o = 4 := mm_find_no hbs
      refine sg_X7_dominates_7 hL1 (fun _ => sg_X7_dominates_40 hL1 (by rw [e]; rfl)) (fun t => ?_)
      have := (ii_lt (a := 4) (b := 4) (by omega) (by omega)).mp t
      omega
    | succ z ih =>
      intro b hb hbs
      have nxt : (decide (b ≠ o) && decide (2 * ct_lk c n o b ≤ Int32.ofNat n)) = false → tr_L g (d + 3) m_X7_dominates 34 [some (.ref 1089), some (.ref 1001), some (.int (Int32.ofNat o)), some (.int (Int32.ofNat b))] [] h1 (.inl (some (.int (if ct_nd c n o < 4 then 0 else 1))), h1) := fun hf => by
        refine sg_X7_dominates_34 hL1 ?_
        rw [ii_s]
        refine ih (b + 1) (by omega) (fun j hj => ?_)
        by_cases hj2 : j < b
        · exact hbs j hj2
        · have : j = b := by omega
          subst this
          exact hf
      refine sg_X7_dominates_7 hL1 (fun t => ?_) (fun _ => ?_)
      · have := (ii_le (a := 4) (by omega) (by omega)).mp t
        omega
      · refine sg_X7_dominates_12 hL1 (fun t => nxt ?_) (fun t => ?_)
        · have := (ii_eq (by omega) (by omega)).mp t
          subst this
          simp
        · have hne : b ≠ o := fun e => t (by rw [e])
          refine sg_X7_dominates_17 hL1 (tr_mono (by omega) (sp_preferring (d := d) hL1 b3 ho (by omega))) (fun t2 => nxt ?_) (fun t2 => sg_X7_dominates_32 hL1 ?_)
          · rw [hn1] at t2
            rw [decide_eq_false (Int32.not_le.mpr t2), Bool.and_false]
          · rw [hn1] at t2
            have e : ct_nd c n o = b := mm_find_at (by omega) (by rw [decide_eq_true hne, decide_eq_true t2]; rfl) hbs
            rw [e, if_pos (by omega)]
  exact key 4 0 (by omega) (fun j hj => absurd hj (by omega))
end
