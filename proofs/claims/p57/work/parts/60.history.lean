/-! History; what arguments must be -/
theorem is_court1 : is_court 1 := ⟨rfl, rfl, rfl, rfl, rfl, rfl, rfl⟩
theorem is_court8 : is_court 8 := ⟨rfl, rfl, rfl, rfl, rfl, rfl, rfl⟩
theorem is_slot {j : Nat} (hj : j < 9) : is_court (17 + 7 * j) := by
  have : j = 0 ∨ j = 1 ∨ j = 2 ∨ j = 3 ∨ j = 4 ∨ j = 5 ∨ j = 6 ∨ j = 7 ∨ j = 8 := by omega
  rcases this with rfl | rfl | rfl | rfl | rfl | rfl | rfl | rfl | rfl <;> exact ⟨rfl, rfl, rfl, rfl, rfl, rfl, rfl⟩
theorem slot_ref {j : Nat} (hj : j < 9) : ([1017, 1024, 1031, 1038, 1045, 1052, 1059, 1066, 1073] : List Nat)[j]? = some (17 + 7 * j + 1000) := by
  have : j = 0 ∨ j = 1 ∨ j = 2 ∨ j = 3 ∨ j = 4 ∨ j = 5 ∨ j = 6 ∨ j = 7 ∨ j = 8 := by omega
  rcases this with rfl | rfl | rfl | rfl | rfl | rfl | rfl | rfl | rfl <;> rfl
abbrev kS (j : Nat) : List Nat := [17 + 7 * j, 17 + 7 * j + 1, 17 + 7 * j + 2, 17 + 7 * j + 3, 17 + 7 * j + 4, 17 + 7 * j + 5, 17 + 7 * j + 6]
/-- the past: where the oldest kept court lies, and the kept courts -/
def hi_R (h : ev_AH) (o : Nat) (P : List CT) : Prop := o < 9 ∧ P.length ≤ 8 ∧ hh_i h 15 1 = Int32.ofNat o ∧ hh_i h 15 2 = Int32.ofNat P.length ∧ ∀ (i : Nat) (c : CT), P[i]? = some c → cC h (17 + 7 * ((o + i) % 9)) = c
section
variable {g : tr_g} {d : Nat} {h : ev_AH}
theorem ht15 : hh_t[15]? = some (.inr (2, [1016, 0, 0])) := rfl
theorem sp_slot {o k : Nat} (hL : hh_L h) (ho : o < 9) (hk : k ≤ 8) (h1 : hh_i h 15 1 = Int32.ofNat o) (h2 : hh_i h 15 2 = Int32.ofNat k) : tr_L g d m_X3_slotOfMarked 0 [some (.ref 1015), none] [] h (.inl (some (.ref (17 + 7 * ((o + k) % 9) + 1000))), h) := by
  have e : (hh_i h 15 1 + hh_i h 15 2) - (hh_i h 15 1 + hh_i h 15 2) / 9 * 9 = Int32.ofNat ((o + k) % 9) := by
    rw [h1, h2, ii_a]
    exact ii_r (b := 9) (by omega) (by omega)
  have hlt : (o + k) % 9 < 9 := by omega
  refine sg_X3_slotOfMarked_0 hL (fun t => ?_) (fun _ => ?_)
  · rw [e] at t
    exact absurd t (Int32.not_lt.mpr (ii_nn (by omega)))
  · rw [e]
    refine sg_X3_slotOfMarked_17 hL (fun t => ?_) (fun _ => sg_X3_slotOfMarked_26 hL (e0 := rfl) (b0 := slot_ref hlt) (hr := rfl))
    have := (ii_le (a := 9) (by omega) (by omega)).mp t
    omega
theorem sp_mark {o k : Nat} {c : CT} (hL : hh_L h) (hc : cC h 1 = c) (hok : ct_ok c) (ho : o < 9) (hk : k ≤ 8) (h1 : hh_i h 15 1 = Int32.ofNat o) (h2 : hh_i h 15 2 = Int32.ofNat k) : ∃ h', tr_L g (d + 2) m_X3_mark 0 [some (.ref 1015), some (.ref 1001), none] [] h (.inl none, h') ∧ hh_F (kS ((o + k) % 9)) h h' ∧ cC h' (17 + 7 * ((o + k) % 9)) = c := by
  have hlt : (o + k) % 9 < 9 := by omega
  have s1 := sp_slot (g := g) (d := d + 1) hL ho hk h1 h2
  have ks := is_slot hlt
  obtain ⟨h', r1, r2, r3⟩ := sp_copyFrom (g := g) (d := d) hL ks is_court1 (by omega) hc hok
  exact ⟨h', sg_X3_mark_0 hL (c_0 := s1) (m0 := (hh_obj hL ks.1).1) (c_1 := r1) (hr := rfl), r2, r3⟩
theorem sp_return {o k : Nat} {c : CT} (hL : hh_L h) (hc : cC h (17 + 7 * ((o + k) % 9)) = c) (hok : ct_ok c) (ho : o < 9) (hk : k ≤ 8) (h1 : hh_i h 15 1 = Int32.ofNat o) (h2 : hh_i h 15 2 = Int32.ofNat k) : ∃ h', tr_L g (d + 2) m_X3_returnToMarked 0 [some (.ref 1015), some (.ref 1001), none] [] h (.inl none, h') ∧ hh_F kC h h' ∧ cC h' 1 = c := by
  have hlt : (o + k) % 9 < 9 := by omega
  have s1 := sp_slot (g := g) (d := d + 1) hL ho hk h1 h2
  have ks := is_slot hlt
  obtain ⟨h', r1, r2, r3⟩ := sp_copyFrom (g := g) (d := d) hL is_court1 ks (by omega) hc hok
  exact ⟨h', sg_X3_returnToMarked_0 hL s1 r1 rfl, r2, r3⟩
/-- the past, one court more: the oldest one falls out where there are 8 -/
def hi_push (P : List CT) (c : CT) : List CT := if P.length < 8 then P ++ [c] else P.drop 1 ++ [c]
theorem hi_R_F {ks : List Nat} {o : Nat} {P : List CT} {h' : ev_AH} (hF : hh_F ks h h') (hk : ∀ k, 15 ≤ k → k < 80 → k ∉ ks) (hr : hi_R h o P) : hi_R h' o P := by
  obtain ⟨a1, a2, a3, a4, a5⟩ := hr
  refine ⟨a1, a2, by rw [hh_F_i hF (hk 15 (by omega) (by omega))]; exact a3, by rw [hh_F_i hF (hk 15 (by omega) (by omega))]; exact a4, fun i c hi => ?_⟩
  rw [cC_F hF (fun j hj => hk _ (by omega) (by omega))]
  exact a5 i c hi
/-- what the marked court is becomes the latest kept one -/
theorem sp_keepMarked {o : Nat} {P : List CT} {c : CT} (hL : hh_L h) (hr : hi_R h o P) (hm : cC h (17 + 7 * ((o + P.length) % 9)) = c) : ∃ h' o', tr_L g d m_X3_keepMarked 0 [some (.ref 1015)] [] h (.inl none, h') ∧ hh_F [15] h h' ∧ hi_R h' o' (hi_push P c) := by
  obtain ⟨a1, a2, a3, a4, a5⟩ := hr
  by_cases hlt : P.length < 8
  · have hL1 := hh_L_si (sl := 2) (x := Int32.ofNat (P.length + 1)) hL ht15 rfl
    have F1 : hh_F [15] h (hh_si h 15 2 2 (Int32.ofNat (P.length + 1))) := hh_F_si (by decide)
    refine ⟨hh_si h 15 2 2 (Int32.ofNat (P.length + 1)), o, sg_X3_keepMarked_0 hL (fun t => ?_) (fun _ => sg_X3_keepMarked_9 hL (by rw [a4, ii_s])), F1, a1, ?_, ?_, ?_, fun i c' hi => ?_⟩
    · rw [a4] at t
      have := (ii_le (a := 8) (by omega) (by omega)).mp t
      omega
    · rw [hi_push, if_pos hlt]
      simp
      omega
    · rw [hh_i_sis hL ht15 (by decide), if_neg (by decide)]
      exact a3
    · rw [hh_i_sis hL ht15 (by decide), if_pos rfl, hi_push, if_pos hlt]
      simp
    · rw [cC_F F1 (fun j hj => by simp; omega)]
      rw [hi_push, if_pos hlt] at hi
      by_cases hi2 : i < P.length
      · rw [List.getElem?_append_left hi2] at hi
        exact a5 i c' hi
      · rw [List.getElem?_append_right (by omega)] at hi
        have : i = P.length := by
          have := (List.getElem?_eq_some_iff.mp hi).1
          simp at this
          omega
        subst this
        simp at hi
        rw [← hi]
        exact hm
  · have h8 : P.length = 8 := by omega
    have e : (hh_i h 15 1 + 1) - (hh_i h 15 1 + 1) / 9 * 9 = Int32.ofNat ((o + 1) % 9) := by
      rw [a3, ii_s]
      exact ii_r (b := 9) (by omega) (by omega)
    have F1 : hh_F [15] h (hh_si h 15 2 1 (Int32.ofNat ((o + 1) % 9))) := hh_F_si (by decide)
    refine ⟨hh_si h 15 2 1 (Int32.ofNat ((o + 1) % 9)), (o + 1) % 9, sg_X3_keepMarked_0 hL (fun _ => sg_X3_keepMarked_22 hL (by rw [e])) (fun t => ?_), F1, by omega, ?_, ?_, ?_, fun i c' hi => ?_⟩
    · rw [a4] at t
      have := (ii_lt (b := 8) (by omega) (by omega)).mp t
      omega
    · rw [hi_push, if_neg hlt]
      simp
      omega
    · rw [hh_i_sis hL ht15 (by decide), if_pos rfl]
    · rw [hh_i_sis hL ht15 (by decide), if_neg (by decide), a4, hi_push, if_neg hlt]
      simp [h8]
    · rw [cC_F F1 (fun j hj => by simp; omega)]
      rw [hi_push, if_neg hlt] at hi
      have hl7 : (P.drop 1).length = 7 := by simp [h8]
      by_cases hi2 : i < 7
      · rw [List.getElem?_append_left (by omega), List.getElem?_drop] at hi
        have := a5 (1 + i) c' hi
        rw [show ((o + 1) % 9 + i) % 9 = (o + (1 + i)) % 9 by omega]
        exact this
      · rw [List.getElem?_append_right (by omega), hl7] at hi
        have : i = 7 := by
          have := (List.getElem?_eq_some_iff.mp hi).1
          simp at this
          omega
        subst this
        simp at hi
        rw [← hi, show ((o + 1) % 9 + 7) % 9 = (o + P.length) % 9 by omega]
        exact hm
theorem sp_markR {o : Nat} {P : List CT} {c : CT} (hL : hh_L h) (hc : cC h 1 = c) (hok : ct_ok c) (hr : hi_R h o P) : ∃ h', tr_L g (d + 2) m_X3_mark 0 [some (.ref 1015), some (.ref 1001), none] [] h (.inl none, h') ∧ hh_F (kS ((o + P.length) % 9)) h h' ∧ hi_R h' o P ∧ cC h' (17 + 7 * ((o + P.length) % 9)) = c := by
  obtain ⟨a1, a2, a3, a4, a5⟩ := hr
  obtain ⟨h', r1, r2, r3⟩ := sp_mark (g := g) (d := d) hL hc hok a1 a2 a3 a4
  refine ⟨h', r1, r2, ⟨a1, a2, ?_, ?_, fun i c' hi => ?_⟩, r3⟩
  · rw [hh_F_i r2 (by simp; omega)]; exact a3
  · rw [hh_F_i r2 (by simp; omega)]; exact a4
  · have hil : i < P.length := (List.getElem?_eq_some_iff.mp hi).1
    have hne : (o + i) % 9 ≠ (o + P.length) % 9 := by omega
    rw [cC_F r2 (fun j hj => by simp; omega)]
    exact a5 i c' hi
theorem sp_keep {o : Nat} {P : List CT} {c : CT} (hL : hh_L h) (hc : cC h 1 = c) (hok : ct_ok c) (hr : hi_R h o P) : ∃ h' o', tr_L g (d + 3) m_X3_keep 0 [some (.ref 1015), some (.ref 1001)] [] h (.inl none, h') ∧ hh_F (15 :: kS ((o + P.length) % 9)) h h' ∧ hi_R h' o' (hi_push P c) := by
  obtain ⟨h1, r1, r2, r3, r4⟩ := sp_markR (g := g) (d := d) hL hc hok hr
  obtain ⟨h2, o2, s1, s2, s3⟩ := sp_keepMarked (g := g) (d := d + 2) r1.2 r3 r4
  exact ⟨h2, o2, sg_X3_keep_0 hL r1 s1 rfl, hh_F_tr (hh_F_w r2 (fun k hk => List.mem_cons_of_mem _ hk)) (hh_F_w s2 (fun k hk => by rw [List.mem_singleton.mp hk]; exact List.mem_cons_self)), s3⟩
theorem sp_stepBack {o : Nat} {P : List CT} {c : CT} (hL : hh_L h) (hok : ct_ok c) (hr : hi_R h o (P ++ [c])) : ∃ h', tr_L g (d + 3) m_X3_stepBack 0 [some (.ref 1015), some (.ref 1001)] [] h (.inl none, h') ∧ hh_F (15 :: kC) h h' ∧ hi_R h' o P ∧ cC h' 1 = c := by
  obtain ⟨a1, a2, a3, a4, a5⟩ := hr
  have a2' : P.length + 1 ≤ 8 := by simpa using a2
  have a4' : hh_i h 15 2 = Int32.ofNat (P.length + 1) := by simpa using a4
  have hL1 := hh_L_si (sl := 2) (x := Int32.ofNat P.length) hL ht15 rfl
  have F1 : hh_F [15] h (hh_si h 15 2 2 (Int32.ofNat P.length)) := hh_F_si (by decide)
  have b1 : hh_i (hh_si h 15 2 2 (Int32.ofNat P.length)) 15 1 = Int32.ofNat o := by
    rw [hh_i_sis hL ht15 (by decide), if_neg (by decide)]; exact a3
  have b2 : hh_i (hh_si h 15 2 2 (Int32.ofNat P.length)) 15 2 = Int32.ofNat P.length := by
    rw [hh_i_sis hL ht15 (by decide), if_pos rfl]
  have hc : cC (hh_si h 15 2 2 (Int32.ofNat P.length)) (17 + 7 * ((o + P.length) % 9)) = c := by
    rw [cC_F F1 (fun j hj => by simp; omega)]
    exact a5 P.length c (by simp)
  obtain ⟨h', r1, r2, r3⟩ := sp_return (g := g) (d := d) hL1 hc hok a1 (by omega) b1 b2
  have e : hh_i h 15 2 - 1 = Int32.ofNat P.length := by
    rw [a4']
    exact ii_u _ 1 (by omega)
  refine ⟨h', sg_X3_stepBack_0 hL (fun t => ?_) (fun _ => sg_X3_stepBack_7 hL (by rw [e]; exact r1) rfl), hh_F_tr (hh_F_w F1 (fun k hk => by rw [List.mem_singleton.mp hk]; exact List.mem_cons_self)) (hh_F_w r2 (fun k hk => List.mem_cons_of_mem _ hk)), ⟨a1, by omega, ?_, ?_, fun i c' hi => ?_⟩, r3⟩
  · rw [a4'] at t
    have := (ii_le (b := 0) (by omega) (by omega)).mp t
    omega
  · rw [hh_F_i r2 (by decide)]; exact b1
  · rw [hh_F_i r2 (by decide)]; exact b2
  · have hil : i < P.length := (List.getElem?_eq_some_iff.mp hi).1
    rw [cC_F r2 (fun j hj => by simp; omega), cC_F F1 (fun j hj => by simp; omega)]
    exact a5 i c' (by rw [List.getElem?_append_left hil]; exact hi)
/-! arguments: a cell, a port, an option, a cat; or an exception -/
theorem fa_cell {x : Int32} : (∃ q, q < 35 ∧ x = Int32.ofNat q ∧ fa_X8_isCell x = 1) ∨ ((∀ q, q < 35 → x ≠ Int32.ofNat q) ∧ fa_X8_isCell x = 0) := by
  unfold fa_X8_isCell
  by_cases h0 : x < 0
  · right
    refine ⟨fun q hq e => ?_, if_pos h0⟩
    rw [e] at h0
    exact absurd h0 (Int32.not_lt.mpr (ii_nn (by omega)))
  · rw [if_neg h0]
    by_cases h1 : x < 35
    · rw [if_pos h1]
      obtain ⟨q, hq, e⟩ := ii_of2 (n := 35) (by omega) (Int32.not_lt.mp h0) h1
      exact Or.inl ⟨q, hq, e, rfl⟩
    · rw [if_neg h1]
      right
      refine ⟨fun q hq e => h1 ?_, rfl⟩
      rw [e]
      exact (ii_lt (b := 35) (by omega) (by omega)).mpr hq
theorem fa_port {x : Int32} : (∃ q, q < 24 ∧ x = Int32.ofNat q ∧ fa_X8_isPort x = 1) ∨ ((∀ q, q < 24 → x ≠ Int32.ofNat q) ∧ fa_X8_isPort x = 0) := by
  unfold fa_X8_isPort
  by_cases h0 : x < 0
  · right
    refine ⟨fun q hq e => ?_, if_pos h0⟩
    rw [e] at h0
    exact absurd h0 (Int32.not_lt.mpr (ii_nn (by omega)))
  · rw [if_neg h0]
    by_cases h1 : x < 24
    · rw [if_pos h1]
      obtain ⟨q, hq, e⟩ := ii_of2 (n := 24) (by omega) (Int32.not_lt.mp h0) h1
      exact Or.inl ⟨q, hq, e, rfl⟩
    · rw [if_neg h1]
      right
      refine ⟨fun q hq e => h1 ?_, rfl⟩
      rw [e]
      exact (ii_lt (b := 24) (by omega) (by omega)).mpr hq
theorem fa_option {x : Int32} : (∃ o, o < 4 ∧ x = Int32.ofNat (97 + o) ∧ fa_X8_isOption x = 1) ∨ ((∀ o, o < 4 → x ≠ Int32.ofNat (97 + o)) ∧ fa_X8_isOption x = 0) := by
  unfold fa_X8_isOption
  by_cases h0 : x < 97
  · right
    refine ⟨fun q hq e => ?_, if_pos h0⟩
    rw [e] at h0
    have := (ii_lt (b := 97) (by omega) (by omega)).mp h0
    omega
  · rw [if_neg h0]
    by_cases h1 : 100 < x
    · rw [if_pos h1]
      right
      refine ⟨fun q hq e => ?_, rfl⟩
      rw [e] at h1
      have := (ii_lt (a := 100) (by omega) (by omega)).mp h1
      omega
    · rw [if_neg h1]
      have h2 := Int32.not_lt.mp h0
      have h3 : (0 : Int32) ≤ x := Int32.le_trans (by decide) h2
      obtain ⟨q, hq, e⟩ := ii_of h3
      subst e
      have h4 := (ii_le (a := 97) (by omega) (by omega)).mp h2
      have h5 : q ≤ 100 := (ii_le (b := 100) (by omega) (by omega)).mp (Int32.not_lt.mp h1)
      exact Or.inl ⟨q - 97, by omega, by rw [show 97 + (q - 97) = q by omega], rfl⟩
theorem ii_idx {o : Nat} (ho : o < 4) : Int32.ofNat (97 + o) - 97 = Int32.ofNat o := by
  have := ii_u (97 + o) 97 (by omega)
  rw [show 97 + o - 97 = o by omega] at this
  exact this
theorem sp_reqCell {x : Int32} (hL : hh_L h) : tr_L g (d + 1) m_X8_requireCell 0 [some (.int x)] [] h (if fa_X8_isCell x = 0 then (.inr 0, hh_x h) else (.inl none, h)) := by
  by_cases e : fa_X8_isCell x = 0
  · rw [if_pos e]
    exact sg_X8_requireCell_0 hL (sa_X8_isCell hL) (fun t => absurd e t) (fun _ => sg_X8_requireCell_7 hL rfl)
  · rw [if_neg e]
    exact sg_X8_requireCell_0 hL (sa_X8_isCell hL) (fun _ => sg_X8_requireCell_18 hL rfl) (fun t => absurd t e)
theorem sp_reqPort {x : Int32} (hL : hh_L h) : tr_L g (d + 1) m_X8_requirePort 0 [some (.int x)] [] h (if fa_X8_isPort x = 0 then (.inr 1, hh_x h) else (.inl none, h)) := by
  by_cases e : fa_X8_isPort x = 0
  · rw [if_pos e]
    exact sg_X8_requirePort_0 hL (sa_X8_isPort hL) (fun t => absurd e t) (fun _ => sg_X8_requirePort_7 hL rfl)
  · rw [if_neg e]
    exact sg_X8_requirePort_0 hL (sa_X8_isPort hL) (fun _ => sg_X8_requirePort_18 hL rfl) (fun t => absurd t e)
theorem sp_reqOption {x : Int32} (hL : hh_L h) : tr_L g (d + 1) m_X8_requireOption 0 [some (.int x)] [] h (if fa_X8_isOption x = 0 then (.inr 1, hh_x h) else (.inl none, h)) := by
  by_cases e : fa_X8_isOption x = 0
  · rw [if_pos e]
    exact sg_X8_requireOption_0 hL (sa_X8_isOption hL) (fun t => absurd e t) (fun _ => sg_X8_requireOption_7 hL rfl)
  · rw [if_neg e]
    exact sg_X8_requireOption_0 hL (sa_X8_isOption hL) (fun _ => sg_X8_requireOption_18 hL rfl) (fun t => absurd t e)
/-- two different options -/
def fa_pairB (x y : Int32) : Bool := decide (fa_X8_isOption x ≠ 0 ∧ fa_X8_isOption y ≠ 0 ∧ x ≠ y)
theorem sp_reqPair {x y : Int32} (hL : hh_L h) : tr_L g (d + 2) m_X8_requirePair 0 [some (.int x), some (.int y)] [] h (if fa_pairB x y then (.inl none, h) else (.inr 1, hh_x h)) := by
  have r1 := sp_reqOption (g := g) (d := d) (x := x) hL
  have r2 := sp_reqOption (g := g) (d := d) (x := y) hL
  by_cases e1 : fa_X8_isOption x = 0
  · rw [if_pos e1] at r1
    rw [if_neg (by simp [fa_pairB, e1])]
    exact sx_X8_requirePair_0_1 (h1 := h) hL (cx := r1) (hr := rfl)
  · rw [if_neg e1] at r1
    by_cases e2 : fa_X8_isOption y = 0
    · rw [if_pos e2] at r2
      rw [if_neg (by simp [fa_pairB, e2])]
      exact sx_X8_requirePair_0_5 (h2 := h) hL (c_0 := r1) (cx := r2) (hr := rfl)
    · rw [if_neg e2] at r2
      by_cases e3 : x = y
      · rw [if_neg (by simp [fa_pairB, e3])]
        exact sg_X8_requirePair_0 hL r1 r2 (fun t => absurd e3 t) (fun _ => sg_X8_requirePair_13 hL rfl)
      · rw [if_pos (by simp [fa_pairB, e1, e2, e3])]
        exact sg_X8_requirePair_0 hL r1 r2 (fun _ => sg_X8_requirePair_24 hL rfl) (fun t => absurd t e3)
/-- a cat -/
theorem fa_cat {x : Int32} {n : Nat} (hn : n ≤ 7) : (∃ k, k < n ∧ x = Int32.ofNat k) ∨ (∀ k, k < n → x ≠ Int32.ofNat k) := by
  by_cases h : ∃ k, k < n ∧ x = Int32.ofNat k
  · exact Or.inl h
  · exact Or.inr (fun k hk e => h ⟨k, hk, e⟩)
theorem sp_reqCat {x : Int32} {n : Nat} (hL : hh_L h) (hn : hh_i h 1 6 = Int32.ofNat n) (h7 : n ≤ 7) : ((∃ k, k < n ∧ x = Int32.ofNat k) → tr_L g d m_X8_requireCat 0 [some (.ref 1000), some (.int x)] [] h (.inl none, h)) ∧ ((∀ k, k < n → x ≠ Int32.ofNat k) → tr_L g d m_X8_requireCat 0 [some (.ref 1000), some (.int x)] [] h (.inr 0, hh_x h)) := by
  constructor
  · rintro ⟨k, hk, rfl⟩
    refine sg_X8_requireCat_0 hL (fun t => absurd t (Int32.not_lt.mpr (ii_nn (by omega)))) (fun _ => sg_X8_requireCat_4 hL (fun _ => sg_X8_requireCat_26 hL rfl) (fun t => ?_))
    rw [hn] at t
    have := (ii_le (by omega) (by omega)).mp t
    omega
  · intro hx
    refine sg_X8_requireCat_0 hL (fun _ => sg_X8_requireCat_15 hL rfl) (fun t => sg_X8_requireCat_4 hL (fun t2 => ?_) (fun _ => sg_X8_requireCat_15 hL rfl))
    rw [hn] at t2
    obtain ⟨k, hk, e⟩ := ii_of2 (n := n) (by omega) t t2
    exact absurd e (hx k hk)
end
