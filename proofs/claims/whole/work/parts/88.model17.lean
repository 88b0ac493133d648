/-! THE MODEL: its row behind a change of the court -/
def ct_ln (c : CT) : Prop := (ct_co c).length = 35 ∧ (ct_ce c).length = 7 ∧ (ct_ra c).length = 28 ∧ (ct_fi c).length = 28 ∧ (ct_he c).length = 7 ∧ (ct_ve c).length = 10 ∧ (ct_in c).length = 8
theorem cC_ln {h : ev_AH} (hL : hh_L h) : ct_ln (cC h 1) := ⟨(hh_arr hL (k := 2) (t := 1) rfl).2, (hh_arr hL (k := 3) (t := 0) rfl).2, (hh_arr hL (k := 4) (t := 0) rfl).2, (hh_arr hL (k := 5) (t := 0) rfl).2, (hh_arr hL (k := 6) (t := 0) rfl).2, (hh_arr hL (k := 7) (t := 1) rfl).2, rfl⟩
theorem gs {l : List Int32} {j : Nat} {x : Int32} (hj : j < l.length) (z : Nat) : (l.set j x).getD z 0 = if j = z then x else l.getD z 0 := by
  by_cases e : j = z
  · subst e
    rw [if_pos rfl, getD_set_eq hj]
  · rw [if_neg e, getD_set_ne e]
theorem ci_in {c : CT} {k j : Nat} {x : Int32} (h : ct_ln c) (hk : k < 8) : ct_i (cc_in c k x) j = if k = j then x else ct_i c j := by
  have : k < (ct_in c).length := by rw [h.2.2.2.2.2.2]; exact hk
  exact gs this j
theorem ln_in {c : CT} {k : Nat} {x : Int32} (h : ct_ln c) : ct_ln (cc_in c k x) := ⟨h.1, h.2.1, h.2.2.1, h.2.2.2.1, h.2.2.2.2.1, h.2.2.2.2.2.1, by show ((ct_in c).set k x).length = 8; rw [List.length_set]; exact h.2.2.2.2.2.2⟩
/-- the numbers of the row -/
def mR9 (f : Nat → Int32) (c : CT) : Prop := f 0 = ct_i c 1 ∧ f 1 = ct_i c 0 ∧ f 2 = ct_i c 2 ∧ f 3 = ct_i c 3 ∧ f 4 = ct_i c 4 ∧ f 5 = ct_i c 5 ∧ f 6 = ct_i c 6 ∧ f 7 = ct_i c 7 ∧ f 8 = (if ct_i c 2 < 10 then ct_i c 2 else 10)
theorem mR_meth {s : List Int32} {c : CT} {n : Nat} {x : Int32} (hn : ct_ln c) (m : mR s c n) : mR (s.set 0 x) (cc_in c 1 x) n := by
  obtain ⟨m1, ⟨a0, a1, a2, a3, a4, a5, a6, a7, a8⟩, m3, m4, m5⟩ := m
  have g : ∀ z, (s.set 0 x).getD z 0 = if 0 = z then x else s.getD z 0 := gs (by omega)
  have i : ∀ j, ct_i (cc_in c 1 x) j = if 1 = j then x else ct_i c j := fun j => ci_in hn (by omega)
  refine ⟨by rw [List.length_set]; exact m1, ?_, ?_, ?_, ?_⟩
  · simp only [g, i, a1, a2, a3, a4, a5, a6, a7, a8]
    simp
  · intro k hk
    rw [g, if_neg (by omega)]
    exact m3 k hk
  · intro q hq
    rw [g, if_neg (by omega)]
    exact m4 q hq
  · intro k hk
    obtain ⟨b1, b2, b3⟩ := m5 k hk
    refine ⟨?_, ?_, fun p hp => ⟨?_, ?_⟩⟩
    · rw [g, if_neg (by omega)]; exact b1
    · rw [g, if_neg (by omega)]; exact b2
    · rw [g, if_neg (by omega)]; exact (b3 p hp).1
    · rw [g, if_neg (by omega)]; exact (b3 p hp).2
/-- the row with a new cat -/
def sSeat (s : List Int32) (n q : Nat) (x y z : Int32) : List Int32 :=
  let s1 := ((s.set (54 + 10 * n) (Int32.ofNat q)).set (54 + 10 * n + 1) 0)
  let s2 := (((s1.set (54 + 10 * n + 2) x).set (54 + 10 * n + 3) y).set (54 + 10 * n + 4) z).set (54 + 10 * n + 5) (6 - x - y - z)
  let s3 := (((s2.set (54 + 10 * n + 6) x).set (54 + 10 * n + 7) y).set (54 + 10 * n + 8) z).set (54 + 10 * n + 9) (6 - x - y - z)
  (((s3.set (19 + q) 0).set 7 1).set 1 (Int32.ofNat (n + 1)))
theorem mR_seat {s : List Int32} {c : CT} {n q : Nat} {x y z : Int32} (hn : ct_ln c) (h7 : n < 7) (hq : q < 35) (m : mR s c n) : mR (sSeat s n q x y z) (ct_seat c n q x y z) (n + 1) := by
  obtain ⟨m1, ⟨a0, a1, a2, a3, a4, a5, a6, a7, a8⟩, m3, m4, m5⟩ := m
  obtain ⟨l1, l2, l3, l4, l5, l6, l7⟩ := hn
  have g : ∀ w, (sSeat s n q x y z).getD w 0 = if 1 = w then Int32.ofNat (n + 1) else if 7 = w then 1 else if 19 + q = w then 0 else if 54 + 10 * n + 9 = w then 6 - x - y - z else if 54 + 10 * n + 8 = w then z else if 54 + 10 * n + 7 = w then y else if 54 + 10 * n + 6 = w then x else if 54 + 10 * n + 5 = w then 6 - x - y - z else if 54 + 10 * n + 4 = w then z else if 54 + 10 * n + 3 = w then y else if 54 + 10 * n + 2 = w then x else if 54 + 10 * n + 1 = w then 0 else if 54 + 10 * n = w then Int32.ofNat q else s.getD w 0 := by
    intro w
    unfold sSeat
    simp only
    rw [gs (by simp; omega), gs (by simp; omega), gs (by simp; omega), gs (by simp; omega), gs (by simp; omega), gs (by simp; omega), gs (by simp; omega), gs (by simp; omega), gs (by simp; omega), gs (by simp; omega), gs (by simp; omega), gs (by simp; omega), gs (by omega)]
  have ti : ∀ j, ct_i (ct_seat c n q x y z) j = if 7 = j then 1 else if 0 = j then Int32.ofNat (n + 1) else ct_i c j := by
    intro j
    show (((ct_in c).set 0 (Int32.ofNat (n + 1))).set 7 1).getD j 0 = _
    rw [gs (by simp; omega), gs (by omega)]
    rfl
  have tr : ∀ j, (ct_ra (ct_seat c n q x y z)).getD j 0 = if 4 * n + 3 = j then 6 - x - y - z else if 4 * n + 2 = j then z else if 4 * n + 1 = j then y else if 4 * n = j then x else (ct_ra c).getD j 0 := by
    intro j
    show ((((((ct_ra c).set (4 * n + 0) x).set (4 * n + 1) y).set (4 * n + 2) z).set (4 * n + 3) (6 - x - y - z))).getD j 0 = _
    rw [gs (by simp; omega), gs (by simp; omega), gs (by simp; omega), gs (by omega)]
    rfl
  have tf : ∀ j, (ct_fi (ct_seat c n q x y z)).getD j 0 = if 4 * n + 3 = j then 6 - x - y - z else if 4 * n + 2 = j then z else if 4 * n + 1 = j then y else if 4 * n = j then x else (ct_fi c).getD j 0 := by
    intro j
    show ((((((ct_fi c).set (4 * n + 0) x).set (4 * n + 1) y).set (4 * n + 2) z).set (4 * n + 3) (6 - x - y - z))).getD j 0 = _
    rw [gs (by simp; omega), gs (by simp; omega), gs (by simp; omega), gs (by omega)]
    rfl
  have tc : ∀ j, (ct_co (ct_seat c n q x y z)).getD j 0 = if q = j then 99 else (ct_co c).getD j 0 := fun j => gs (by omega) j
  have te : ∀ j, (ct_ce (ct_seat c n q x y z)).getD j 0 = if n = j then Int32.ofNat q else (ct_ce c).getD j 0 := fun j => gs (by omega) j
  have th : ∀ j, (ct_he (ct_seat c n q x y z)).getD j 0 = if n = j then 0 else (ct_he c).getD j 0 := fun j => gs (by omega) j
  refine ⟨by simp [sSeat]; exact m1, ?_, ?_, ?_, ?_⟩
  · simp only [g, ti]
    have f : ∀ k, k < 9 → ¬ (19 + q = k) ∧ ¬ (54 + 10 * n + 9 = k) ∧ ¬ (54 + 10 * n + 8 = k) ∧ ¬ (54 + 10 * n + 7 = k) ∧ ¬ (54 + 10 * n + 6 = k) ∧ ¬ (54 + 10 * n + 5 = k) ∧ ¬ (54 + 10 * n + 4 = k) ∧ ¬ (54 + 10 * n + 3 = k) ∧ ¬ (54 + 10 * n + 2 = k) ∧ ¬ (54 + 10 * n + 1 = k) ∧ ¬ (54 + 10 * n = k) := fun k hk => by omega
    refine ⟨?_, ?_, ?_, ?_, ?_, ?_, ?_, ?_, ?_⟩ <;> (simp [f]; try first | exact a0 | exact a2 | exact a3 | exact a4 | exact a5 | exact a6 | exact a8)
  · intro k hk
    rw [g]
    simp only [show ¬ (1 = 9 + k) by omega, show ¬ (7 = 9 + k) by omega, show ¬ (19 + q = 9 + k) by omega, show ¬ (54 + 10 * n + 9 = 9 + k) by omega, show ¬ (54 + 10 * n + 8 = 9 + k) by omega, show ¬ (54 + 10 * n + 7 = 9 + k) by omega, show ¬ (54 + 10 * n + 6 = 9 + k) by omega, show ¬ (54 + 10 * n + 5 = 9 + k) by omega, show ¬ (54 + 10 * n + 4 = 9 + k) by omega, show ¬ (54 + 10 * n + 3 = 9 + k) by omega, show ¬ (54 + 10 * n + 2 = 9 + k) by omega, show ¬ (54 + 10 * n + 1 = 9 + k) by omega, show ¬ (54 + 10 * n = 9 + k) by omega, if_false]
    exact m3 k hk
  · intro k hk
    rw [g, tc]
    simp only [show ¬ (1 = 19 + k) by omega, show ¬ (7 = 19 + k) by omega, show ¬ (54 + 10 * n + 9 = 19 + k) by omega, show ¬ (54 + 10 * n + 8 = 19 + k) by omega, show ¬ (54 + 10 * n + 7 = 19 + k) by omega, show ¬ (54 + 10 * n + 6 = 19 + k) by omega, show ¬ (54 + 10 * n + 5 = 19 + k) by omega, show ¬ (54 + 10 * n + 4 = 19 + k) by omega, show ¬ (54 + 10 * n + 3 = 19 + k) by omega, show ¬ (54 + 10 * n + 2 = 19 + k) by omega, show ¬ (54 + 10 * n + 1 = 19 + k) by omega, show ¬ (54 + 10 * n = 19 + k) by omega, if_false]
    by_cases e : q = k
    · subst e
      simp
    · rw [if_neg (by omega), if_neg e]
      exact m4 k hk
  · intro k hk
    by_cases e : k = n
    · subst e
      refine ⟨?_, ?_, fun p hp => ?_⟩
      · rw [g, te, if_pos rfl]
        simp only [show ¬ (1 = 54 + 10 * k) by omega, show ¬ (7 = 54 + 10 * k) by omega, show ¬ (19 + q = 54 + 10 * k) by omega, show ¬ (54 + 10 * k + 9 = 54 + 10 * k) by omega, show ¬ (54 + 10 * k + 8 = 54 + 10 * k) by omega, show ¬ (54 + 10 * k + 7 = 54 + 10 * k) by omega, show ¬ (54 + 10 * k + 6 = 54 + 10 * k) by omega, show ¬ (54 + 10 * k + 5 = 54 + 10 * k) by omega, show ¬ (54 + 10 * k + 4 = 54 + 10 * k) by omega, show ¬ (54 + 10 * k + 3 = 54 + 10 * k) by omega, show ¬ (54 + 10 * k + 2 = 54 + 10 * k) by omega, show ¬ (54 + 10 * k + 1 = 54 + 10 * k) by omega, if_false, if_true]
      · rw [g, th, if_pos rfl]
        simp only [show ¬ (1 = 54 + 10 * k + 1) by omega, show ¬ (7 = 54 + 10 * k + 1) by omega, show ¬ (19 + q = 54 + 10 * k + 1) by omega, show ¬ (54 + 10 * k + 9 = 54 + 10 * k + 1) by omega, show ¬ (54 + 10 * k + 8 = 54 + 10 * k + 1) by omega, show ¬ (54 + 10 * k + 7 = 54 + 10 * k + 1) by omega, show ¬ (54 + 10 * k + 6 = 54 + 10 * k + 1) by omega, show ¬ (54 + 10 * k + 5 = 54 + 10 * k + 1) by omega, show ¬ (54 + 10 * k + 4 = 54 + 10 * k + 1) by omega, show ¬ (54 + 10 * k + 3 = 54 + 10 * k + 1) by omega, show ¬ (54 + 10 * k + 2 = 54 + 10 * k + 1) by omega, if_false, if_true]
      · rw [g, g, tr, tf]
        have hp4 : p = 0 ∨ p = 1 ∨ p = 2 ∨ p = 3 := by omega
        rcases hp4 with rfl | rfl | rfl | rfl
        · constructor
          · rw [if_neg (by omega), if_neg (by omega), if_neg (by omega), if_neg (by omega), if_neg (by omega), if_neg (by omega), if_neg (by omega), if_neg (by omega), if_neg (by omega), if_neg (by omega), if_pos (by omega), if_neg (by omega), if_neg (by omega), if_neg (by omega), if_pos (by omega)]
          · rw [if_neg (by omega), if_neg (by omega), if_neg (by omega), if_neg (by omega), if_neg (by omega), if_neg (by omega), if_pos (by omega), if_neg (by omega), if_neg (by omega), if_neg (by omega), if_pos (by omega)]
        · constructor
          · rw [if_neg (by omega), if_neg (by omega), if_neg (by omega), if_neg (by omega), if_neg (by omega), if_neg (by omega), if_neg (by omega), if_neg (by omega), if_neg (by omega), if_pos (by omega), if_neg (by omega), if_neg (by omega), if_pos (by omega)]
          · rw [if_neg (by omega), if_neg (by omega), if_neg (by omega), if_neg (by omega), if_neg (by omega), if_pos (by omega), if_neg (by omega), if_neg (by omega), if_pos (by omega)]
        · constructor
          · rw [if_neg (by omega), if_neg (by omega), if_neg (by omega), if_neg (by omega), if_neg (by omega), if_neg (by omega), if_neg (by omega), if_neg (by omega), if_pos (by omega), if_neg (by omega), if_pos (by omega)]
          · rw [if_neg (by omega), if_neg (by omega), if_neg (by omega), if_neg (by omega), if_pos (by omega), if_neg (by omega), if_pos (by omega)]
        · constructor
          · rw [if_neg (by omega), if_neg (by omega), if_neg (by omega), if_neg (by omega), if_neg (by omega), if_neg (by omega), if_neg (by omega), if_pos (by omega), if_pos (by omega)]
          · rw [if_neg (by omega), if_neg (by omega), if_neg (by omega), if_pos (by omega), if_pos (by omega)]
    · have hkn : k < n := by omega
      obtain ⟨b1, b2, b3⟩ := m5 k hkn
      have g' : ∀ w, w < 10 → (sSeat s n q x y z).getD (54 + 10 * k + w) 0 = s.getD (54 + 10 * k + w) 0 := fun w hw => by
        rw [g, if_neg (by omega), if_neg (by omega), if_neg (by omega), if_neg (by omega), if_neg (by omega), if_neg (by omega), if_neg (by omega), if_neg (by omega), if_neg (by omega), if_neg (by omega), if_neg (by omega), if_neg (by omega), if_neg (by omega)]
      refine ⟨?_, ?_, fun p hp => ⟨?_, ?_⟩⟩
      · rw [te, if_neg (by omega), ← b1]
        exact g' 0 (by omega)
      · rw [th, if_neg (by omega), ← b2]
        exact g' 1 (by omega)
      · rw [tr, if_neg (by omega), if_neg (by omega), if_neg (by omega), if_neg (by omega), ← (b3 p hp).1]
        have z := g' (2 + p) (by omega)
        rw [← Nat.add_assoc] at z
        exact z
      · rw [tf, if_neg (by omega), if_neg (by omega), if_neg (by omega), if_neg (by omega), ← (b3 p hp).2]
        have z := g' (6 + p) (by omega)
        rw [← Nat.add_assoc] at z
        exact z
/-- the row with another content -/
theorem mR_chg {s : List Int32} {c : CT} {n q : Nat} {x v : Int32} (hn : ct_ln c) (hq : q < 35) (m : mR s c n) (hx : x = 46 ∨ x = 47 ∨ x = 92) (hc : (ct_co c).getD q 0 = 46 ∨ (ct_co c).getD q 0 = 47 ∨ (ct_co c).getD q 0 = 92) (hv : v = if s.getD (19 + q) 0 = (if x = 46 then 0 else x) then s.getD 7 0 else 1) : mR ((s.set 7 v).set (19 + q) (if x = 46 then 0 else x)) (ct_chg c q x) n := by
  obtain ⟨m1, ⟨a0, a1, a2, a3, a4, a5, a6, a7, a8⟩, m3, m4, m5⟩ := m
  have e1 := m4 q hq
  have g : ∀ w, ((s.set 7 v).set (19 + q) (if x = 46 then 0 else x)).getD w 0 = if 19 + q = w then (if x = 46 then 0 else x) else if 7 = w then v else s.getD w 0 := fun w => by
    rw [gs (by simp; omega), gs (by omega)]
  have f : ∀ k, k < 9 → ¬ (19 + q = k) := fun k hk => by omega
  have same : ((ct_co c).getD q 0 = x) ↔ s.getD (19 + q) 0 = (if x = 46 then 0 else x) := by
    rw [e1]
    rcases hx with rfl | rfl | rfl <;> rcases hc with e | e | e <;> rw [e] <;> decide
  have co' : ∀ j, (ct_co (ct_chg c q x)).getD j 0 = if q = j then x else (ct_co c).getD j 0 := fun j => by
    unfold ct_chg
    split
    · rename_i h
      split
      · rename_i h2
        subst h2
        exact h
      · rfl
    · exact gs (by rw [hn.1]; exact hq) j
  have ti : ∀ j, ct_i (ct_chg c q x) j = if 7 = j then v else ct_i c j := fun j => by
    unfold ct_chg
    split
    · rename_i h
      rw [hv, if_pos (same.mp h)]
      split
      · rename_i h2
        rw [← h2, a7]
      · rfl
    · rename_i h
      rw [hv, if_neg (fun t => h (same.mpr t))]
      exact ci_in (c := cc_co c ((ct_co c).set q x)) ⟨by rw [show ct_co (cc_co c ((ct_co c).set q x)) = (ct_co c).set q x from rfl, List.length_set]; exact hn.1, hn.2⟩ (by omega)
  have re : ct_ve (ct_chg c q x) = ct_ve c ∧ ct_ce (ct_chg c q x) = ct_ce c ∧ ct_he (ct_chg c q x) = ct_he c ∧ ct_ra (ct_chg c q x) = ct_ra c ∧ ct_fi (ct_chg c q x) = ct_fi c := by
    unfold ct_chg
    split <;> exact ⟨rfl, rfl, rfl, rfl, rfl⟩
  obtain ⟨re1, re2, re3, re4, re5⟩ := re
  refine ⟨by simp; exact m1, ?_, ?_, ?_, ?_⟩
  · simp only [g, ti]
    refine ⟨?_, ?_, ?_, ?_, ?_, ?_, ?_, ?_, ?_⟩ <;> (simp [f]; try first | exact a0 | exact a1 | exact a2 | exact a3 | exact a4 | exact a5 | exact a6 | exact a8)
  · intro k hk
    rw [g, if_neg (by omega), if_neg (by omega), re1]
    exact m3 k hk
  · intro k hk
    rw [g, co']
    by_cases e : q = k
    · subst e
      rw [if_pos rfl, if_pos rfl]
      rcases hx with rfl | rfl | rfl <;> decide
    · rw [if_neg (by omega), if_neg (by omega), if_neg e]
      exact m4 k hk
  · intro k hk
    obtain ⟨b1, b2, b3⟩ := m5 k hk
    rw [re2, re3, re4, re5]
    refine ⟨?_, ?_, fun p hp => ⟨?_, ?_⟩⟩
    · rw [g, if_neg (by omega), if_neg (by omega)]; exact b1
    · rw [g, if_neg (by omega), if_neg (by omega)]; exact b2
    · rw [g, if_neg (by omega), if_neg (by omega)]; exact (b3 p hp).1
    · rw [g, if_neg (by omega), if_neg (by omega)]; exact (b3 p hp).2
