/-! THE MODEL: its row behind a testimony, a verdict, a retrial -/
def sHear (s : List Int32) (k pl : Nat) (o : Int32) : List Int32 :=
  let s1 := if 0 < pl then (s.set (54 + 10 * k + 2 + pl) (s.getD (54 + 10 * k + 2 + pl - 1) 0)).set (54 + 10 * k + 2 + pl - 1) o else s
  (s1.set (54 + 10 * k + 1) (s1.getD (54 + 10 * k + 1) 0 + 1)).set 5 (s.getD 5 0 + 1)
theorem mR_hear {s : List Int32} {c : CT} {n k : Nat} {o : Int32} (hn : ct_ln c) (h7 : n ≤ 7) (hk : k < n) (m : mR s c n) : mR (sHear s k (ct_pl c k o) o) (ct_hear c k o) n := by
  obtain ⟨m1, ⟨a0, a1, a2, a3, a4, a5, a6, a7, a8⟩, m3, m4, m5⟩ := m
  obtain ⟨l1, l2, l3, l4, l5, l6, l7⟩ := hn
  have hp := ct_pl_le (c := c) (k := k) (x := o)
  generalize hpl : ct_pl c k o = pl at hp
  have g : ∀ w, (sHear s k pl o).getD w 0 = if 5 = w then s.getD 5 0 + 1 else if 54 + 10 * k + 1 = w then s.getD (54 + 10 * k + 1) 0 + 1 else if 0 < pl ∧ 54 + 10 * k + 2 + pl - 1 = w then o else if 0 < pl ∧ 54 + 10 * k + 2 + pl = w then s.getD (54 + 10 * k + 2 + pl - 1) 0 else s.getD w 0 := by
    intro w
    unfold sHear
    simp only
    by_cases h0 : 0 < pl
    · rw [if_pos h0, gs (by simp; omega), gs (by simp; omega), gs (by simp; omega), gs (by omega), gs (by simp; omega), gs (by omega)]
      simp only [h0, true_and]
      rw [if_neg (show ¬ 54 + 10 * k + 2 + pl - 1 = 54 + 10 * k + 1 by omega), if_neg (show ¬ 54 + 10 * k + 2 + pl = 54 + 10 * k + 1 by omega)]
    · rw [if_neg h0, gs (by simp; omega), gs (by omega)]
      simp only [h0, false_and, if_false]
  have tr : ∀ j, (ct_ra (ct_hear c k o)).getD j 0 = if 0 < pl ∧ 4 * k + pl - 1 = j then o else if 0 < pl ∧ 4 * k + pl = j then (ct_ra c).getD (4 * k + pl - 1) 0 else (ct_ra c).getD j 0 := by
    intro j
    unfold ct_hear
    rw [hpl]
    by_cases h0 : 0 < pl
    · simp only [if_pos h0]
      show ((((ct_ra c).set (4 * k + pl) (ct_opt c k (pl - 1))).set (4 * k + pl - 1) o)).getD j 0 = _
      rw [gs (by simp; omega), gs (by omega)]
      simp only [h0, true_and]
      rw [show ct_opt c k (pl - 1) = (ct_ra c).getD (4 * k + pl - 1) 0 by unfold ct_opt; rw [show 4 * k + (pl - 1) = 4 * k + pl - 1 by omega]]
    · simp only [if_neg h0, h0, false_and, if_false]
      rfl
  have th : ∀ j, (ct_he (ct_hear c k o)).getD j 0 = if k = j then (ct_he c).getD k 0 + 1 else (ct_he c).getD j 0 := by
    intro j
    unfold ct_hear
    exact gs (by omega) j
  have ti : ∀ j, ct_i (ct_hear c k o) j = if 5 = j then ct_i c 5 + 1 else ct_i c j := by
    intro j
    unfold ct_hear
    have e : ∀ c1 : CT, ct_in (if 0 < pl then c1 else c) = ct_in (if 0 < pl then c1 else c) := fun _ => rfl
    rw [hpl]
    by_cases h0 : 0 < pl
    · simp only [if_pos h0]
      exact gs (by show 5 < (ct_in c).length; omega) j
    · simp only [if_neg h0]
      exact gs (by show 5 < (ct_in c).length; omega) j
  have re : ct_ve (ct_hear c k o) = ct_ve c ∧ ct_ce (ct_hear c k o) = ct_ce c ∧ ct_co (ct_hear c k o) = ct_co c ∧ ct_fi (ct_hear c k o) = ct_fi c := by
    unfold ct_hear
    simp only
    split <;> exact ⟨rfl, rfl, rfl, rfl⟩
  obtain ⟨re1, re2, re3, re4⟩ := re
  have low : ∀ w, w < 54 → w ≠ 5 → (sHear s k pl o).getD w 0 = s.getD w 0 := fun w hw h5 => by
    rw [g, if_neg (by omega), if_neg (by omega), if_neg (by omega), if_neg (by omega)]
  have len : (sHear s k pl o).length = 124 := by
    unfold sHear
    simp only
    rw [List.length_set, List.length_set]
    split
    · rw [List.length_set, List.length_set]; exact m1
    · exact m1
  refine ⟨len, ?_, ?_, ?_, ?_⟩
  · refine ⟨?_, ?_, ?_, ?_, ?_, ?_, ?_, ?_, ?_⟩
    · rw [low _ (by omega) (by omega), ti, if_neg (by omega)]; exact a0
    · rw [low _ (by omega) (by omega), ti, if_neg (by omega)]; exact a1
    · rw [low _ (by omega) (by omega), ti, if_neg (by omega)]; exact a2
    · rw [low _ (by omega) (by omega), ti, if_neg (by omega)]; exact a3
    · rw [low _ (by omega) (by omega), ti, if_neg (by omega)]; exact a4
    · rw [g, if_pos rfl, ti, if_pos rfl, a5]
    · rw [low _ (by omega) (by omega), ti, if_neg (by omega)]; exact a6
    · rw [low _ (by omega) (by omega), ti, if_neg (by omega)]; exact a7
    · rw [low _ (by omega) (by omega), ti, if_neg (show ¬ 5 = 2 by omega)]; exact a8
  · intro j hj
    rw [low _ (by omega) (by omega), re1]
    exact m3 j hj
  · intro j hj
    rw [low _ (by omega) (by omega), re3]
    exact m4 j hj
  · intro j hj
    obtain ⟨b1, b2, b3⟩ := m5 j hj
    rw [re2, re4]
    refine ⟨?_, ?_, fun p hp' => ⟨?_, ?_⟩⟩
    · rw [g, if_neg (by omega), if_neg (by omega), if_neg (by omega), if_neg (by omega)]
      exact b1
    · rw [th]
      by_cases e : k = j
      · subst e
        rw [if_pos rfl, g, if_neg (by omega), if_pos rfl, b2]
      · rw [if_neg e, g, if_neg (by omega), if_neg (by omega), if_neg (by omega), if_neg (by omega)]
        exact b2
    · rw [tr, g]
      by_cases h0 : 0 < pl
      · by_cases e1 : k = j ∧ p + 1 = pl
        · obtain ⟨rfl, e2⟩ := e1
          rw [if_neg (by omega), if_neg (by omega), if_pos ⟨h0, by omega⟩, if_pos ⟨h0, by omega⟩]
        · by_cases e2 : k = j ∧ p = pl
          · obtain ⟨rfl, e3⟩ := e2
            rw [if_neg (by omega), if_neg (by omega), if_neg (by omega), if_pos ⟨h0, by omega⟩, if_neg (by omega), if_pos ⟨h0, by omega⟩]
            have := (b3 (pl - 1) (by omega)).1
            rw [show 54 + 10 * k + 2 + pl - 1 = 54 + 10 * k + 2 + (pl - 1) by omega, show 4 * k + pl - 1 = 4 * k + (pl - 1) by omega]
            exact this
          · rw [if_neg (by omega), if_neg (by omega), if_neg (by omega), if_neg (by omega), if_neg (by omega), if_neg (by omega)]
            exact (b3 p hp').1
      · rw [if_neg (by omega), if_neg (by omega), if_neg (by omega), if_neg (by omega), if_neg (by omega), if_neg (by omega)]
        exact (b3 p hp').1
    · rw [g, if_neg (by omega), if_neg (by omega), if_neg (by omega), if_neg (by omega)]
      exact (b3 p hp').2
/-- the row behind a verdict, place by place -/
def sConc (s : List Int32) (v : Int32) (z : Nat) : Int32 := if z = 8 then (if s.getD 8 0 < 10 then s.getD 8 0 + 1 else s.getD 8 0) else if z = 9 then v else if 10 ≤ z ∧ z ≤ 18 then s.getD (z - 1) 0 else if z = 7 then 0 else if z = 6 then 1 else if z = 2 then s.getD 2 0 + 1 else if z = 3 then s.getD 3 0 + (if v = 45 then 1 else 0) else s.getD z 0
theorem mR_conc {s s' : List Int32} {c : CT} {n : Nat} {v : Int32} (hn : ct_ln c) (h7 : n ≤ 7) (m : mR s c n) (hB : ∃ k : Nat, k < 100000 ∧ ct_i c 2 = Int32.ofNat k) (hl : s'.length = 124) (hz : ∀ z, s'.getD z 0 = sConc s v z) : mR s' (ct_conc c v) n := by
  obtain ⟨m1, ⟨a0, a1, a2, a3, a4, a5, a6, a7, a8⟩, m3, m4, m5⟩ := m
  obtain ⟨l1, l2, l3, l4, l5, l6, l7⟩ := hn
  have ti : ∀ j, ct_i (ct_conc c v) j = if 7 = j then 0 else if 6 = j then 1 else if 3 = j ∧ v = 45 then ct_i c 3 + 1 else if 2 = j then ct_i c 2 + 1 else ct_i c j := by
    intro j
    unfold ct_conc
    by_cases hv : v = 45
    · simp only [if_pos hv]
      show (((((ct_in c).set 2 (ct_i c 2 + 1)).set 3 (ct_i c 3 + 1)).set 6 1).set 7 0).getD j 0 = _
      rw [gs (by simp; omega), gs (by simp; omega), gs (by simp; omega), gs (by omega)]
      simp only [hv, and_true]
      rfl
    · simp only [if_neg hv]
      show ((((ct_in c).set 2 (ct_i c 2 + 1)).set 6 1).set 7 0).getD j 0 = _
      rw [gs (by simp; omega), gs (by simp; omega), gs (by omega)]
      simp only [hv, and_false, if_false]
      rfl
  have re : ct_ve (ct_conc c v) = ct_shift (ct_ve c) v ∧ ct_ce (ct_conc c v) = ct_ce c ∧ ct_co (ct_conc c v) = ct_co c ∧ ct_fi (ct_conc c v) = ct_fi c ∧ ct_ra (ct_conc c v) = ct_ra c ∧ ct_he (ct_conc c v) = ct_he c := by
    unfold ct_conc
    simp only
    split <;> exact ⟨rfl, rfl, rfl, rfl, rfl, rfl⟩
  obtain ⟨re1, re2, re3, re4, re5, re6⟩ := re
  have up : ∀ w, 19 ≤ w → s'.getD w 0 = s.getD w 0 := fun w hw => by
    rw [hz]
    unfold sConc
    rw [if_neg (by omega), if_neg (by omega), if_neg (by omega), if_neg (by omega), if_neg (by omega), if_neg (by omega), if_neg (by omega)]
  refine ⟨hl, ?_, ?_, ?_, ?_⟩
  · simp only [hz, ti]
    unfold sConc
    refine ⟨?_, ?_, ?_, ?_, ?_, ?_, ?_, ?_, ?_⟩
    · simp; exact a0
    · simp; exact a1
    · simp; exact a2
    · by_cases hv : v = 45
      · simp [hv]; exact a3
      · simp [hv]; exact a3
    · simp; exact a4
    · simp; exact a5
    · simp
    · simp
    · obtain ⟨k, hk, e⟩ := hB
      simp only [a8, e, if_true, show ¬ (7 = 2) by omega, show ¬ (6 = 2) by omega, show ¬ (3 = 2) by omega, false_and, if_false]
      rw [ii_s]
      by_cases hk10 : k < 10
      · have t1 : Int32.ofNat k < 10 := (ii_lt (b := 10) (by omega) (by omega)).mpr hk10
        rw [if_pos t1, if_pos t1, ii_s]
        by_cases hk9 : k + 1 < 10
        · rw [if_pos (show Int32.ofNat (k + 1) < 10 from (ii_lt (b := 10) (by omega) (by omega)).mpr hk9)]
        · rw [if_neg (show ¬ Int32.ofNat (k + 1) < 10 from fun t => hk9 ((ii_lt (b := 10) (by omega) (by omega)).mp t))]
          have : k = 9 := by omega
          rw [this]
          rfl
      · have t1 : ¬ Int32.ofNat k < 10 := fun t => hk10 ((ii_lt (b := 10) (by omega) (by omega)).mp t)
        rw [if_neg t1, if_neg Int32.lt_irrefl, if_neg (show ¬ Int32.ofNat (k + 1) < 10 from fun t => hk10 (by have := (ii_lt (b := 10) (by omega) (by omega)).mp t; omega))]
  · intro k hk
    rw [hz, re1]
    unfold sConc
    by_cases h0 : k = 0
    · subst h0
      rw [if_neg (by omega), if_pos (by omega)]
      simp [List.getD, ct_shift_get, l6]
    · rw [if_neg (by omega), if_neg (by omega), if_pos (by omega)]
      have := m3 (k - 1) (by omega)
      rw [show 9 + k - 1 = 9 + (k - 1) by omega, this]
      simp [List.getD, ct_shift_get, l6, h0, hk]
  · intro k hk
    rw [up _ (by omega), re3]
    exact m4 k hk
  · intro k hk
    obtain ⟨b1, b2, b3⟩ := m5 k hk
    rw [re2, re4, re5, re6]
    refine ⟨?_, ?_, fun p hp => ⟨?_, ?_⟩⟩
    · rw [up _ (by omega)]; exact b1
    · rw [up _ (by omega)]; exact b2
    · rw [up _ (by omega)]; exact (b3 p hp).1
    · rw [up _ (by omega)]; exact (b3 p hp).2
theorem mR_again {s s' : List Int32} {c : CT} {n : Nat} (hn : ct_ln c) (h7 : n ≤ 7) (m : mR s c n) (hl : s'.length = 124) (h6 : s'.getD 6 0 = 0) (h4 : s'.getD 4 0 = s.getD 4 0 + 1) (hlo : ∀ z, z < 54 → z ≠ 4 → z ≠ 6 → s'.getD z 0 = s.getD z 0) (hk : ∀ k, k < n → s'.getD (54 + 10 * k) 0 = s.getD (54 + 10 * k) 0 ∧ s'.getD (54 + 10 * k + 1) 0 = s.getD (54 + 10 * k + 1) 0 ∧ ∀ p, p < 4 → s'.getD (54 + 10 * k + 2 + p) 0 = s.getD (54 + 10 * k + 6 + p) 0 ∧ s'.getD (54 + 10 * k + 6 + p) 0 = s.getD (54 + 10 * k + 6 + p) 0) : mR s' (ct_again c n) n := by
  obtain ⟨m1, ⟨a0, a1, a2, a3, a4, a5, a6, a7, a8⟩, m3, m4, m5⟩ := m
  obtain ⟨l1, l2, l3, l4, l5, l6, l7⟩ := hn
  have ti : ∀ j, ct_i (ct_again c n) j = if 6 = j then 0 else if 4 = j then ct_i c 4 + 1 else ct_i c j := by
    intro j
    show (((ct_in c).set 4 (ct_i c 4 + 1)).set 6 0).getD j 0 = _
    rw [gs (by simp; omega), gs (by omega)]
    rfl
  refine ⟨hl, ?_, ?_, ?_, ?_⟩
  · refine ⟨?_, ?_, ?_, ?_, ?_, ?_, ?_, ?_, ?_⟩
    · rw [hlo _ (by omega) (by omega) (by omega), ti, if_neg (by omega), if_neg (by omega)]; exact a0
    · rw [hlo _ (by omega) (by omega) (by omega), ti, if_neg (by omega), if_neg (by omega)]; exact a1
    · rw [hlo _ (by omega) (by omega) (by omega), ti, if_neg (by omega), if_neg (by omega)]; exact a2
    · rw [hlo _ (by omega) (by omega) (by omega), ti, if_neg (by omega), if_neg (by omega)]; exact a3
    · rw [h4, ti, if_neg (by omega), if_pos rfl, a4]
    · rw [hlo _ (by omega) (by omega) (by omega), ti, if_neg (by omega), if_neg (by omega)]; exact a5
    · rw [h6, ti, if_pos rfl]
    · rw [hlo _ (by omega) (by omega) (by omega), ti, if_neg (by omega), if_neg (by omega)]; exact a7
    · rw [hlo _ (by omega) (by omega) (by omega), ti, if_neg (show ¬ 6 = 2 by omega), if_neg (show ¬ 4 = 2 by omega)]; exact a8
  · intro k hk
    rw [hlo _ (by omega) (by omega) (by omega)]
    exact m3 k hk
  · intro k hk
    rw [hlo _ (by omega) (by omega) (by omega)]
    exact m4 k hk
  · intro k hkn
    obtain ⟨b1, b2, b3⟩ := m5 k hkn
    obtain ⟨k1, k2, k3⟩ := hk k hkn
    refine ⟨by rw [k1]; exact b1, by rw [k2]; exact b2, fun p hp => ⟨?_, by rw [(k3 p hp).2]; exact (b3 p hp).2⟩⟩
    rw [(k3 p hp).1, (b3 p hp).2]
    show _ = (rw_k (ct_ra c) (ct_fi c) n).getD (4 * k + p) 0
    rw [rw_k_get, if_pos (by omega)]
