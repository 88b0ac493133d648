/-! the other methods of Court; the ray -/
section
variable {g : tr_g} {d : Nat} {h : ev_AH}
def ct_may (c : CT) : Int32 := if ct_i c 6 = 0 then 0 else if (ct_ve c).getD 0 0 = 45 then 1 else if ct_i c 7 = 0 then 0 else 1
theorem sp_mayRetry {c : CT} (hL : hh_L h) (hc : cC h 1 = c) (hve : ∀ y ∈ ct_ve c, tr_ch y) : tr_L g (d + 1) m_X2_mayRetry 0 [some (.ref 1001)] [] h (.inl (some (.int (ct_may c))), h) := by
  subst hc
  have a1 := sp_atcL (g := g) (d := d) (a := 7) (k := 0) hL rfl (by decide) (by omega) hve
  refine sg_X2_mayRetry_0 hL (fun t => sg_X2_mayRetry_31 hL ?_) (fun t => ?_)
  · rw [ct_may, if_pos (show ct_i (cC h 1) 6 = 0 from t)]
  · refine sg_X2_mayRetry_7 hL a1 (fun t2 => sg_X2_mayRetry_27 hL ?_) (fun t2 => ?_)
    · rw [ct_may, if_neg (show ct_i (cC h 1) 6 ≠ 0 from t), if_pos (show (ct_ve (cC h 1)).getD 0 0 = 45 from t2)]
    · refine sg_X2_mayRetry_20 hL (fun t3 => sg_X2_mayRetry_31 hL ?_) (fun t3 => sg_X2_mayRetry_27 hL ?_)
      · rw [ct_may, if_neg (show ct_i (cC h 1) 6 ≠ 0 from t), if_neg (show (ct_ve (cC h 1)).getD 0 0 ≠ 45 from t2), if_pos (show ct_i (cC h 1) 7 = 0 from t3)]
      · rw [ct_may, if_neg (show ct_i (cC h 1) 6 ≠ 0 from t), if_neg (show (ct_ve (cC h 1)).getD 0 0 ≠ 45 from t2), if_neg (show ct_i (cC h 1) 7 ≠ 0 from t3)]
/-! a ranking is reset: places p of the row that begins at b are taken from f -/
def rw_p (l f : List Int32) (b : Nat) : Nat → List Int32
  | 0 => l
  | p + 1 => (rw_p l f b p).set (b + p) (f.getD (b + p) 0)
def rw_k (l f : List Int32) : Nat → List Int32
  | 0 => l
  | k + 1 => rw_p (rw_k l f k) f (4 * k) 4
theorem rw_p_len {l f : List Int32} {b : Nat} : ∀ p, (rw_p l f b p).length = l.length
  | 0 => rfl
  | p + 1 => by rw [rw_p, List.length_set, rw_p_len p]
theorem rw_k_len {l f : List Int32} : ∀ k, (rw_k l f k).length = l.length
  | 0 => rfl
  | k + 1 => by rw [rw_k, rw_p_len, rw_k_len k]
theorem rw_p_get {l f : List Int32} {b j : Nat} : ∀ p, (rw_p l f b p).getD j 0 = if b ≤ j ∧ j < b + p ∧ j < l.length then f.getD j 0 else l.getD j 0
  | 0 => by rw [rw_p, if_neg (by omega)]
  | p + 1 => by
    have ih := rw_p_get (l := l) (f := f) (b := b) (j := j) p
    rw [rw_p]
    by_cases e : b + p = j
    · subst e
      by_cases hl : b + p < l.length
      · rw [if_pos (by omega)]
        simp [List.getD, rw_p_len, hl]
      · rw [if_neg (by omega), List.set_eq_of_length_le (by rw [rw_p_len]; omega), ih, if_neg (by omega)]
    · have : ((rw_p l f b p).set (b + p) (f.getD (b + p) 0)).getD j 0 = (rw_p l f b p).getD j 0 := by
        simp [List.getD, e]
      rw [this, ih]
      by_cases h1 : b ≤ j ∧ j < b + p ∧ j < l.length
      · rw [if_pos h1, if_pos (by omega)]
      · rw [if_neg h1, if_neg (by omega)]
theorem rw_k_get {l f : List Int32} {j : Nat} : ∀ k, (rw_k l f k).getD j 0 = if j < 4 * k ∧ j < l.length then f.getD j 0 else l.getD j 0
  | 0 => by rw [rw_k, if_neg (by omega)]
  | k + 1 => by
    rw [rw_k, rw_p_get, rw_k_get k, rw_k_len]
    by_cases h1 : 4 * k ≤ j ∧ j < 4 * k + 4 ∧ j < l.length
    · rw [if_pos h1, if_pos (by omega)]
    · rw [if_neg h1]
      by_cases h2 : j < 4 * k ∧ j < l.length
      · rw [if_pos h2, if_pos (by omega)]
      · rw [if_neg h2, if_neg (by omega)]
/-- does the row of the cat k differ from its first one, in one of the first p places -/
def ct_difp (c : CT) (k p : Nat) : Bool := decide (∃ j, j < p ∧ ct_opt c k j ≠ (ct_fi c).getD (4 * k + j) 0)
def ct_dif (c : CT) (k : Nat) : Bool := ct_difp c k 4
theorem getD_set_self {l : List Int32} {j : Nat} : l.set j (l.getD j 0) = l := by
  by_cases hj : j < l.length
  · have : l.getD j 0 = l[j] := by simp [List.getD, hj]
    rw [this, List.set_getElem_self]
  · exact List.set_eq_of_length_le (by omega)
theorem sp_resetRanking {c : CT} {k : Nat} (hL : hh_L h) (hc : cC h 1 = c) (hk : k < 7) : ∃ h', tr_L g (d + 2) m_X2_resetRanking 0 [some (.ref 1001), some (.int (Int32.ofNat k)), none, none, none] [] h (.inl (some (.int (if ct_dif c k then 1 else 0))), h') ∧ hh_F kC h h' ∧ cC h' 1 = cc_ra c (rw_p (ct_ra c) (ct_fi c) (4 * k) 4) := by
  subst hc
  have hl4 : (hh_a h 4).length = 28 := (hh_arr hL (k := 4) (t := 0) rfl).2
  have key : ∀ m p, p + m = 4 → ∀ (h1 : ev_AH) (w : Option Value), hh_L h1 → hh_F kC h h1 → cC h1 1 = cc_ra (cC h 1) (rw_p (ct_ra (cC h 1)) (ct_fi (cC h 1)) (4 * k) p) → ∃ h', tr_L g (d + 2) m_X2_resetRanking 4 [some (.ref 1001), some (.int (Int32.ofNat k)), some (.int (if ct_difp (cC h 1) k p then 1 else 0)), some (.int (Int32.ofNat p)), w] [] h1 (.inl (some (.int (if ct_dif (cC h 1) k then 1 else 0))), h') ∧ hh_F kC h h' ∧ cC h' 1 = cc_ra (cC h 1) (rw_p (ct_ra (cC h 1)) (ct_fi (cC h 1)) (4 * k) 4) := by
    intro m
    induction m with
    | zero =>
      intro p hp h1 w hL1 hF1 hc1
      have : p = 4 := by omega
      subst this
      refine ⟨h1, sg_X2_resetRanking_4 hL1 (fun _ => sg_X2_resetRanking_56 hL1 ?_ rfl) (fun t => ?_), hF1, hc1⟩
      · split
        · exact Or.inr rfl
        · exact Or.inl rfl
      · have := (ii_lt (a := 4) (b := 4) (by omega) (by omega)).mp t
        omega
    | succ m ih =>
      intro p hp h1 w hL1 hF1 hc1
      have a1 := sp_atL (g := g) (d := d + 1) (a := 5) (k := 4 * k + p) hL1 rfl (by decide) (by omega)
      have ef : (hh_a h1 5).getD (4 * k + p) 0 = (ct_fi (cC h 1)).getD (4 * k + p) 0 := by
        rw [show hh_a h1 5 = ct_fi (cC h1 1) from rfl, hc1]
        rfl
      have o1 := sp_optionIn (g := g) (d := d) (k := k) (p := p) hL1 rfl (by omega) (by omega)
      have eo : ct_opt (cC h1 1) k p = ct_opt (cC h 1) k p := by
        rw [hc1]
        show (rw_p (ct_ra (cC h 1)) (ct_fi (cC h 1)) (4 * k) p).getD (4 * k + p) 0 = _
        rw [rw_p_get, if_neg (by omega)]
        rfl
      rw [ef] at a1
      rw [eo] at o1
      by_cases hd : ct_opt (cC h 1) k p = (ct_fi (cC h 1)).getD (4 * k + p) 0
      · have e2 : ct_difp (cC h 1) k (p + 1) = ct_difp (cC h 1) k p := by
          unfold ct_difp
          apply decide_eq_decide.mpr
          constructor
          · rintro ⟨j, hj, hne⟩
            refine ⟨j, ?_, hne⟩
            by_cases hjp : j = p
            · subst hjp
              exact absurd hd hne
            · omega
          · rintro ⟨j, hj, hne⟩
            exact ⟨j, by omega, hne⟩
        have e3 : cC h1 1 = cc_ra (cC h 1) (rw_p (ct_ra (cC h 1)) (ct_fi (cC h 1)) (4 * k) (p + 1)) := by
          rw [hc1, rw_p, ← hd]
          have : (rw_p (ct_ra (cC h 1)) (ct_fi (cC h 1)) (4 * k) p).getD (4 * k + p) 0 = ct_opt (cC h 1) k p := by
            rw [rw_p_get, if_neg (by omega)]
            rfl
          rw [← this, getD_set_self]
        obtain ⟨h', r1, r2, r3⟩ := ih (p + 1) (by omega) h1 (some (.int ((ct_fi (cC h 1)).getD (4 * k + p) 0))) hL1 hF1 e3
        refine ⟨h', sg_X2_resetRanking_4 hL1 (fun t => ?_) (fun _ => ?_), r2, r3⟩
        · have := (ii_le (a := 4) (by omega) (by omega)).mp t
          omega
        · refine sg_X2_resetRanking_9 hL1 (by rw [ii_4]; exact a1) o1 (fun _ => ?_) (fun t => absurd hd t)
          refine sg_X2_resetRanking_50 hL1 ?_
          rw [ii_s, ← e2]
          exact r1
      · have p1 := sp_put (g := g) (d := d + 1) (a := 4) (k := 4 * k + p) (y := (ct_fi (cC h 1)).getD (4 * k + p) 0) hL1 rfl (by decide) (by omega)
        have e2 : ct_difp (cC h 1) k (p + 1) = true := by
          unfold ct_difp
          exact decide_eq_true ⟨p, by omega, hd⟩
        have e3 : cC (hh_sa h1 4 0 ((hh_a h1 4).set (4 * k + p) ((ct_fi (cC h 1)).getD (4 * k + p) 0))) 1 = cc_ra (cC h 1) (rw_p (ct_ra (cC h 1)) (ct_fi (cC h 1)) (4 * k) (p + 1)) := by
          rw [(cC_sa hL1).2.2.1, show hh_a h1 4 = ct_ra (cC h1 1) from rfl, hc1]
          rfl
        obtain ⟨h', r1, r2, r3⟩ := ih (p + 1) (by omega) _ (some (.int ((ct_fi (cC h 1)).getD (4 * k + p) 0))) p1.2 (hh_F_tr hF1 (hh_F_sa (by decide))) e3
        refine ⟨h', sg_X2_resetRanking_4 hL1 (fun t => ?_) (fun _ => ?_), r2, r3⟩
        · have := (ii_le (a := 4) (by omega) (by omega)).mp t
          omega
        · refine sg_X2_resetRanking_9 hL1 (by rw [ii_4]; exact a1) o1 (fun t => absurd t hd) (fun _ => ?_)
          refine sg_X2_resetRanking_34 hL1 (by rw [ii_4]; exact p1) ?_
          rw [ii_s]
          rw [e2] at r1
          exact r1
  obtain ⟨h', r1, r2, r3⟩ := key 4 0 (by omega) h none hL hh_F_rf rfl
  refine ⟨h', sg_X2_resetRanking_0 hL ?_, r2, r3⟩
  have e0 : ct_difp (cC h 1) k 0 = false := by
    unfold ct_difp
    exact decide_eq_false (fun ⟨j, hj, _⟩ => absurd hj (by omega))
  rw [e0] at r1
  exact r1
def ct_again (c : CT) (n : Nat) : CT := cc_in (cc_in (cc_ra c (rw_k (ct_ra c) (ct_fi c) n)) 4 (ct_i c 4 + 1)) 6 0
def ct_chgd (c : CT) (n : Nat) : Int32 := mm_sum (fun k => if ct_dif c k then 1 else 0) n
theorem sp_startAgain {c : CT} {n : Nat} (hL : hh_L h) (hc : cC h 1 = c) (hn : ct_i c 0 = Int32.ofNat n) (h7 : n ≤ 7) : ∃ h', tr_L g (d + 3) m_X2_startAgain 0 [some (.ref 1001), none, none] [] h (.inl (some (.int (ct_chgd c n))), h') ∧ hh_F kC h h' ∧ cC h' 1 = ct_again c n := by
  subst hc
  have key : ∀ m k, k + m = n → ∀ (h1 : ev_AH), hh_L h1 → hh_F kC h h1 → cC h1 1 = cc_ra (cC h 1) (rw_k (ct_ra (cC h 1)) (ct_fi (cC h 1)) k) → ∃ h', tr_L g (d + 3) m_X2_startAgain 4 [some (.ref 1001), some (.int (ct_chgd (cC h 1) k)), some (.int (Int32.ofNat k))] [] h1 (.inl (some (.int (ct_chgd (cC h 1) n))), h') ∧ hh_F kC h h' ∧ cC h' 1 = ct_again (cC h 1) n := by
    intro m
    induction m with
    | zero =>
      intro k hk h1 hL1 hF1 hc1
      have : k = n := by omega
      subst this
      have hn' : hh_i h1 1 6 = Int32.ofNat k := by
        rw [show hh_i h1 1 6 = ct_i (cC h1 1) 0 from rfl, hc1]
        exact hn
      have hL2 := hh_L_si (sl := 10) (x := hh_i h1 1 10 + 1) hL1 (show hh_t[1]? = some (.inr (1, [1002, 1003, 1004, 1005, 1006, 1007, 0, 0, 0, 0, 0, 0, 0, 0])) from rfl) rfl
      refine ⟨_, sg_X2_startAgain_4 hL1 (fun _ => sg_X2_startAgain_29 hL1 rfl) (fun t => ?_), hh_F_tr hF1 (hh_F_tr (hh_F_si (by decide)) (hh_F_si (by decide))), ?_⟩
      · rw [hn'] at t
        have := (ii_lt (by omega) (by omega)).mp t
        omega
      · rw [cC_si (j := 6) hL2 (by decide), cC_si (j := 4) hL1 (by decide), hc1, show hh_i h1 1 10 = ct_i (cC h1 1) 4 from rfl, hc1]
        rfl
    | succ m ih =>
      intro k hk h1 hL1 hF1 hc1
      have hn' : hh_i h1 1 6 = Int32.ofNat n := by
        rw [show hh_i h1 1 6 = ct_i (cC h1 1) 0 from rfl, hc1]
        exact hn
      obtain ⟨h2, r1, f1, c1⟩ := sp_resetRanking (g := g) (d := d) (k := k) hL1 rfl (by omega)
      have ed : ct_dif (cC h1 1) k = ct_dif (cC h 1) k := by
        unfold ct_dif ct_difp
        apply decide_eq_decide.mpr
        have : ∀ j, j < 4 → ct_opt (cC h1 1) k j = ct_opt (cC h 1) k j := fun j hj => by
          rw [hc1]
          show (rw_k (ct_ra (cC h 1)) (ct_fi (cC h 1)) k).getD (4 * k + j) 0 = _
          rw [rw_k_get, if_neg (by omega)]
          rfl
        have e2 : ct_fi (cC h1 1) = ct_fi (cC h 1) := by rw [hc1]; rfl
        constructor
        · rintro ⟨j, hj, hne⟩
          exact ⟨j, hj, by rw [← this j hj, ← e2]; exact hne⟩
        · rintro ⟨j, hj, hne⟩
          exact ⟨j, hj, by rw [this j hj, e2]; exact hne⟩
      have ec : cC h2 1 = cc_ra (cC h 1) (rw_k (ct_ra (cC h 1)) (ct_fi (cC h 1)) (k + 1)) := by
        rw [c1, hc1]
        rfl
      rw [ed] at r1
      obtain ⟨h', q1, q2, q3⟩ := ih (k + 1) (by omega) h2 r1.2 (hh_F_tr hF1 f1) ec
      refine ⟨h', sg_X2_startAgain_4 hL1 (fun t => ?_) (fun _ => ?_), q2, q3⟩
      · rw [hn'] at t
        have := (ii_le (by omega) (by omega)).mp t
        omega
      · refine sg_X2_startAgain_12 hL1 r1 (fun t => ?_) (fun t => ?_)
        · refine sg_X2_startAgain_23 r1.2 ?_
          rw [ii_s]
          have : ct_chgd (cC h 1) (k + 1) = ct_chgd (cC h 1) k := by
            show ct_chgd (cC h 1) k + (if ct_dif (cC h 1) k then 1 else 0) = _
            rw [t, Int32.add_zero]
          rw [this] at q1
          exact q1
        · refine sg_X2_startAgain_20 r1.2 ?_
          rw [ii_s]
          have : ct_chgd (cC h 1) (k + 1) = ct_chgd (cC h 1) k + 1 := by
            show ct_chgd (cC h 1) k + (if ct_dif (cC h 1) k then 1 else 0) = _
            split at t
            · rename_i hd
              rw [if_pos hd]
            · exact absurd rfl t
          rw [this] at q1
          exact q1
  obtain ⟨h', q1, q2, q3⟩ := key n 0 (by omega) h hL hh_F_rf rfl
  exact ⟨h', sg_X2_startAgain_0 hL q1, q2, q3⟩
/-- does the cat o come ahead of the cat k -/
def ct_bef (c : CT) (o k : Nat) : Bool := decide (0 < (ct_he c).getD o 0 - (ct_he c).getD k 0 ∨ ((ct_he c).getD o 0 - (ct_he c).getD k 0 = 0 ∧ (ct_ce c).getD o 0 < (ct_ce c).getD k 0))
def ct_ah (c : CT) (n k : Nat) : Int32 := mm_sum (fun o => if ct_bef c o k then 1 else 0) n
theorem sp_catsAhead {c : CT} {n k : Nat} (hL : hh_L h) (hc : cC h 1 = c) (hn : ct_i c 0 = Int32.ofNat n) (h7 : n ≤ 7) (hk : k < 1000) : tr_L g (d + 1) m_X2_catsAhead 0 [some (.ref 1001), some (.int (Int32.ofNat k)), none, none, none] [] h (.inl (some (.int (ct_ah c n k))), h) := by
  subst hc
  have hn' : hh_i h 1 6 = Int32.ofNat n := hn
  have key : ∀ m o w, o + m = n → tr_L g (d + 1) m_X2_catsAhead 4 [some (.ref 1001), some (.int (Int32.ofNat k)), some (.int (ct_ah (cC h 1) o k)), some (.int (Int32.ofNat o)), w] [] h (.inl (some (.int (ct_ah (cC h 1) n k))), h) := by
    intro m
    induction m with
    | zero =>
      intro o w ho
      have : o = n := by omega
      subst this
      refine sg_X2_catsAhead_4 hL (fun _ => sg_X2_catsAhead_69 hL rfl) (fun t => ?_)
      rw [hn'] at t
      have := (ii_lt (by omega) (by omega)).mp t
      omega
    | succ m ih =>
      intro o w ho
      have he := fun i (hi : i < 2147483648) => sp_atL (g := g) (d := d) (a := 6) (k := i) hL rfl (by decide) hi
      have ce := fun i (hi : i < 2147483648) => sp_atL (g := g) (d := d) (a := 3) (k := i) hL rfl (by decide) hi
      have yes : ct_bef (cC h 1) o k = true → ∀ w, tr_L g (d + 1) m_X2_catsAhead 60 [some (.ref 1001), some (.int (Int32.ofNat k)), some (.int (ct_ah (cC h 1) o k)), some (.int (Int32.ofNat o)), w] [] h (.inl (some (.int (ct_ah (cC h 1) n k))), h) := fun hb w => by
        refine sg_X2_catsAhead_60 hL ?_
        rw [ii_s]
        have := ih (o + 1) w (by omega)
        rw [show ct_ah (cC h 1) (o + 1) k = ct_ah (cC h 1) o k + (if ct_bef (cC h 1) o k then 1 else 0) from rfl, if_pos hb] at this
        exact this
      have no : ct_bef (cC h 1) o k = false → ∀ w, tr_L g (d + 1) m_X2_catsAhead 63 [some (.ref 1001), some (.int (Int32.ofNat k)), some (.int (ct_ah (cC h 1) o k)), some (.int (Int32.ofNat o)), w] [] h (.inl (some (.int (ct_ah (cC h 1) n k))), h) := fun hb w => by
        refine sg_X2_catsAhead_63 hL ?_
        rw [ii_s]
        have := ih (o + 1) w (by omega)
        rw [show ct_ah (cC h 1) (o + 1) k = ct_ah (cC h 1) o k + (if ct_bef (cC h 1) o k then 1 else 0) from rfl, if_neg (by rw [hb]; exact Bool.false_ne_true), Int32.add_zero] at this
        exact this
      refine sg_X2_catsAhead_4 hL (fun t => ?_) (fun _ => ?_)
      · rw [hn'] at t
        have := (ii_le (by omega) (by omega)).mp t
        omega
      · refine sg_X2_catsAhead_12 hL (he o (by omega)) (he k (by omega)) (fun t => yes (decide_eq_true (Or.inl t)) _) (fun t => ?_)
        refine sg_X2_catsAhead_36 hL (fun t2 => no (decide_eq_false ?_) _) (fun t2 => ?_)
        · rintro (h1 | h1)
          · exact absurd h1 (Int32.not_lt.mpr t)
          · exact t2 h1.1
        · refine sg_X2_catsAhead_41 hL (ce o (by omega)) (ce k (by omega)) (fun t3 => no (decide_eq_false ?_) _) (fun t3 => yes (decide_eq_true (Or.inr ⟨t2, t3⟩)) _)
          rintro (h1 | h1)
          · exact absurd h1 (Int32.not_lt.mpr t)
          · exact absurd h1.2 (Int32.not_lt.mpr t3)
  exact sg_X2_catsAhead_0 hL (key n 0 none (by omega))
end
/-! THE RAY: from the cell q in the direction w; at most m steps; length and bounces so far -/
def ry (co : Nat → Int32) : Nat → Nat → Nat → Nat → Nat → Option (Nat ⊕ Nat) × Nat × Nat
  | 0, _, _, len, b => (none, len, b)
  | m + 1, q, w, len, b => if co q = 99 then (some (.inl q), len + 1, b) else
    if bx_nb q (bx_refl (co q) w) = 35 then (some (.inr (bx_port q (bx_refl (co q) w))), len + 1, if co q = 46 then b else b + 1) else
    ry co m (bx_nb q (bx_refl (co q) w)) (bx_refl (co q) w) (len + 1) (if co q = 46 then b else b + 1)
def ct_c (c : CT) (q : Nat) : Int32 := (ct_co c).getD q 0
def ct_ry (c : CT) (p : Nat) : Option (Nat ⊕ Nat) × Nat × Nat := ry (ct_c c) 140 (bx_cell p) (bx_dir p) 0 0
def ry_ex : Option (Nat ⊕ Nat) → Int32
  | some (.inr e) => Int32.ofNat e
  | _ => -1
def ry_cat (c : CT) (n : Nat) : Option (Nat ⊕ Nat) → Int32
  | some (.inl q) => ii_o (ct_cat c n (Int32.ofNat q)) n
  | _ => -1
theorem bx_nb_cases {q w : Nat} (hq : q < 35) (hw : w < 4) : (bx_nb q w = 35 ∧ bx_nbI q w = -1) ∨ (bx_nb q w < 35 ∧ bx_nbI q w = Int32.ofNat (bx_nb q w) ∧ bx_nbI q w ≠ -1) := by
  have hle := bx_lt hq hw
  by_cases e : bx_nb q w = 35
  · exact Or.inl ⟨e, by rw [bx_nbI, if_pos e]⟩
  · right
    have h0 : ∀ k, k < 35 → Int32.ofNat k ≠ -1 := by decide +kernel
    rw [bx_nbI, if_neg e]
    exact ⟨by omega, rfl, h0 _ (by omega)⟩
section
variable {g : tr_g} {d : Nat} {h : ev_AH}
theorem ray_t : hh_t[80]? = some (.inr (3, [0, 0, 0, 0])) := rfl
/-- the ray's object after the port's ray was followed -/
def ry_set (h : ev_AH) (ex cat len b : Int32) : ev_AH := hh_si (hh_si (hh_si (hh_si h 80 3 0 ex) 80 3 1 cat) 80 3 2 len) 80 3 3 b
def ry_is (h h' : ev_AH) (ex cat : Int32) (len b : Nat) : Prop := hh_L h' ∧ hh_F [80] h h' ∧ hh_i h' 80 0 = ex ∧ hh_i h' 80 1 = cat ∧ hh_i h' 80 2 = Int32.ofNat len ∧ hh_i h' 80 3 = Int32.ofNat b
theorem ry_si {h h' : ev_AH} {ex cat : Int32} {len b : Nat} (hy : ry_is h h' ex cat len b) {sl : Nat} (hs : sl < 4) {x : Int32} : hh_L (hh_si h' 80 3 sl x) ∧ hh_F [80] h (hh_si h' 80 3 sl x) ∧ ∀ j, hh_i (hh_si h' 80 3 sl x) 80 j = if sl = j then x else hh_i h' 80 j := by
  have hf : ([0, 0, 0, 0] : List Nat)[sl]? = some 0 := by
    have : sl = 0 ∨ sl = 1 ∨ sl = 2 ∨ sl = 3 := by omega
    rcases this with rfl | rfl | rfl | rfl <;> rfl
  refine ⟨hh_L_si hy.1 ray_t hf, hh_F_tr hy.2.1 (hh_F_si (by decide)), fun j => ?_⟩
  rw [hh_i_si hy.1 ray_t (by simpa using hs)]
  simp
theorem sp_follow {c : CT} {n p : Nat} (hL : hh_L h) (hc : cC h 1 = c) (hn : ct_i c 0 = Int32.ofNat n) (h7 : n ≤ 7) (hco : ∀ y ∈ ct_co c, tr_ch y) (hp : p < 24) : ∃ h', tr_L g (d + 2) m_X5_follow 0 [some (.ref 1080), some (.ref 1001), some (.int (Int32.ofNat p)), none, none, none, none, none] [] h (.inl none, h') ∧ ry_is h h' (ry_ex (ct_ry c p).1) (ry_cat c n (ct_ry c p).1) (ct_ry c p).2.1 (ct_ry c p).2.2 := by
  have key : ∀ m st q w len b, st + m = 140 → q < 35 → w < 4 → ∀ (h1 : ev_AH) (w6 w7 : Option Value), ry_is h h1 (-1) (-1) len b → ∃ h', tr_L g (d + 2) m_X5_follow 34 [some (.ref 1080), some (.ref 1001), some (.int (Int32.ofNat p)), some (.int (Int32.ofNat q)), some (.int (Int32.ofNat w)), some (.int (Int32.ofNat st)), w6, w7] [] h1 (.inl none, h') ∧ ry_is h h' (ry_ex (ry (ct_c c) m q w len b).1) (ry_cat c n (ry (ct_c c) m q w len b).1) (ry (ct_c c) m q w len b).2.1 (ry (ct_c c) m q w len b).2.2 := by
    intro m
    induction m with
    | zero =>
      intro st q w len b hst hq hw h1 w6 w7 hy
      have : st = 140 := by omega
      subst this
      refine ⟨h1, sg_X5_follow_34 hy.1 (fun _ => sg_X5_follow_139 hy.1 rfl) (fun t => ?_), hy⟩
      have := (ii_lt (a := 140) (b := 140) (by omega) (by omega)).mp t
      omega
    | succ m ih =>
      intro st q w len b hst hq hw h1 w6 w7 hy
      obtain ⟨q1, q2, q3⟩ := ry_si hy (sl := 2) (by decide) (x := hh_i h1 80 2 + 1)
      have hy2 : ry_is h (hh_si h1 80 3 2 (hh_i h1 80 2 + 1)) (-1) (-1) (len + 1) b := by
        refine ⟨q1, q2, ?_, ?_, ?_, ?_⟩
        · rw [q3, if_neg (by decide)]; exact hy.2.2.1
        · rw [q3, if_neg (by decide)]; exact hy.2.2.2.1
        · rw [q3, if_pos rfl, hy.2.2.2.2.1, ii_s]
        · rw [q3, if_neg (by decide)]; exact hy.2.2.2.2.2
      have hc2 : cC (hh_si h1 80 3 2 (hh_i h1 80 2 + 1)) 1 = c := (cC_F q2 (by decide)).trans hc
      have a1 := sp_atcL (g := g) (d := d + 1) (a := 2) (k := q) q1 rfl (by decide) (by omega) (by rw [show hh_a (hh_si h1 80 3 2 (hh_i h1 80 2 + 1)) 2 = ct_co (cC (hh_si h1 80 3 2 (hh_i h1 80 2 + 1)) 1) from rfl, hc2]; exact hco)
      have ea : (hh_a (hh_si h1 80 3 2 (hh_i h1 80 2 + 1)) 2).getD q 0 = ct_c c q := by
        rw [show hh_a (hh_si h1 80 3 2 (hh_i h1 80 2 + 1)) 2 = ct_co (cC (hh_si h1 80 3 2 (hh_i h1 80 2 + 1)) 1) from rfl, hc2]
        rfl
      rw [ea] at a1
      have hlt : (140 : Int32) ≤ Int32.ofNat st → False := fun t => by
        have := (ii_le (a := 140) (by omega) (by omega)).mp t
        omega
      by_cases h99 : ct_c c q = 99
      · have fc := sp_findCat (g := g) (d := d) (x := Int32.ofNat q) q1 hc2 hn h7
        obtain ⟨s1, s2, s3⟩ := ry_si hy2 (sl := 1) (by decide) (x := ii_o (ct_cat c n (Int32.ofNat q)) n)
        refine ⟨_, sg_X5_follow_34 hy.1 (fun t => (hlt t).elim) (fun _ => sg_X5_follow_42 hy.1 a1 (fun t => absurd h99 t) (fun _ => sg_X5_follow_69 q1 fc rfl)), ?_⟩
        simp only [ry]
        rw [if_pos h99]
        refine ⟨s1, s2, ?_, ?_, ?_, ?_⟩
        · rw [s3, if_neg (by decide)]; exact hy2.2.2.1
        · rw [s3, if_pos rfl]; rfl
        · rw [s3, if_neg (by decide)]; exact hy2.2.2.2.2.1
        · rw [s3, if_neg (by decide)]; exact hy2.2.2.2.2.2
      · have hw' : bx_refl (ct_c c q) w < 4 := bx_refl_lt hw
        -- behind the look for a mirror
        have tail : ∀ (h3 : ev_AH), ry_is h h3 (-1) (-1) (len + 1) (if ct_c c q = 46 then b else b + 1) → ∃ h', tr_L g (d + 2) m_X5_follow 96 [some (.ref 1080), some (.ref 1001), some (.int (Int32.ofNat p)), some (.int (Int32.ofNat q)), some (.int (Int32.ofNat w)), some (.int (Int32.ofNat st)), some (.int (ct_c c q)), w7] [] h3 (.inl none, h') ∧ ry_is h h' (ry_ex (ry (ct_c c) (m + 1) q w len b).1) (ry_cat c n (ry (ct_c c) (m + 1) q w len b).1) (ry (ct_c c) (m + 1) q w len b).2.1 (ry (ct_c c) (m + 1) q w len b).2.2 := by
          intro h3 hy3
          have r1 := sp_refl (g := g) (d := d + 1) (c := ct_c c q) hy3.1 hw
          have n1 := sp_nb (g := g) (d := d + 1) hy3.1 hq hw'
          simp only [ry]
          rw [if_neg h99]
          rcases bx_nb_cases hq hw' with ⟨e1, e2⟩ | ⟨e1, e2, e3⟩
          · have p1 := sp_portAt (g := g) (d := d + 1) hy3.1 hq hw'
            obtain ⟨s1, s2, s3⟩ := ry_si hy3 (sl := 0) (by decide) (x := Int32.ofNat (bx_port q (bx_refl (ct_c c q) w)))
            refine ⟨_, sg_X5_follow_96 hy3.1 r1 n1 (fun t => absurd e2 t) (fun _ => sg_X5_follow_119 hy3.1 p1 rfl), ?_⟩
            rw [if_pos e1]
            refine ⟨s1, s2, ?_, ?_, ?_, ?_⟩
            · rw [s3, if_pos rfl]; rfl
            · rw [s3, if_neg (by decide)]; exact hy3.2.2.2.1
            · rw [s3, if_neg (by decide)]; exact hy3.2.2.2.2.1
            · rw [s3, if_neg (by decide)]; exact hy3.2.2.2.2.2
          · obtain ⟨h', r2, r3⟩ := ih (st + 1) (bx_nb q (bx_refl (ct_c c q) w)) (bx_refl (ct_c c q) w) (len + 1) (if ct_c c q = 46 then b else b + 1) (by omega) e1 hw' h3 (some (.int (ct_c c q))) (some (.int (bx_nbI q (bx_refl (ct_c c q) w)))) hy3
            refine ⟨h', sg_X5_follow_96 hy3.1 r1 n1 (fun _ => sg_X5_follow_130 hy3.1 rfl ?_) (fun t => absurd t e3), ?_⟩
            · rw [ii_s]
              rw [e2] at r2 ⊢
              exact r2
            · rw [if_neg (by omega)]
              exact r3
        by_cases h46 : ct_c c q = 46
        · rw [if_pos h46] at tail
          obtain ⟨h', r1, r2⟩ := tail _ hy2
          exact ⟨h', sg_X5_follow_34 hy.1 (fun t => (hlt t).elim) (fun _ => sg_X5_follow_42 hy.1 a1 (fun _ => sg_X5_follow_79 q1 (fun _ => r1) (fun t => absurd h46 t)) (fun t => absurd t h99)), r2⟩
        · rw [if_neg h46] at tail
          obtain ⟨s1, s2, s3⟩ := ry_si hy2 (sl := 3) (by decide) (x := hh_i (hh_si h1 80 3 2 (hh_i h1 80 2 + 1)) 80 3 + 1)
          have hy3 : ry_is h (hh_si (hh_si h1 80 3 2 (hh_i h1 80 2 + 1)) 80 3 3 (hh_i (hh_si h1 80 3 2 (hh_i h1 80 2 + 1)) 80 3 + 1)) (-1) (-1) (len + 1) (b + 1) := by
            refine ⟨s1, s2, ?_, ?_, ?_, ?_⟩
            · rw [s3, if_neg (by decide)]; exact hy2.2.2.1
            · rw [s3, if_neg (by decide)]; exact hy2.2.2.2.1
            · rw [s3, if_neg (by decide)]; exact hy2.2.2.2.2.1
            · rw [s3, if_pos rfl, hy2.2.2.2.2.2, ii_s]
          obtain ⟨h', r1, r2⟩ := tail _ hy3
          exact ⟨h', sg_X5_follow_34 hy.1 (fun t => (hlt t).elim) (fun _ => sg_X5_follow_42 hy.1 a1 (fun _ => sg_X5_follow_79 q1 (fun t => absurd t h46) (fun _ => sg_X5_follow_86 q1 r1)) (fun t => absurd t h99)), r2⟩
  have f0 : ∀ sl : Nat, sl < 4 → ([0, 0, 0, 0] : List Nat)[sl]? = some 0 := by decide
  have b0 := hh_L_si (sl := 0) (x := -1) hL ray_t (f0 0 (by decide))
  have b1 := hh_L_si (sl := 1) (x := -1) b0 ray_t (f0 1 (by decide))
  have b2 := hh_L_si (sl := 2) (x := 0) b1 ray_t (f0 2 (by decide))
  have b3 := hh_L_si (sl := 3) (x := 0) b2 ray_t (f0 3 (by decide))
  have hy0 : ry_is h (hh_si (hh_si (hh_si (hh_si h 80 3 0 (-1)) 80 3 1 (-1)) 80 3 2 0) 80 3 3 0) (-1) (-1) 0 0 := by
    refine ⟨b3, hh_F_tr (hh_F_si (by decide)) (hh_F_tr (hh_F_si (by decide)) (hh_F_tr (hh_F_si (by decide)) (hh_F_si (by decide)))), ?_, ?_, ?_, ?_⟩
    · rw [hh_i_si b2 ray_t (by decide), if_neg (by decide), hh_i_si b1 ray_t (by decide), if_neg (by decide), hh_i_si b0 ray_t (by decide), if_neg (by decide), hh_i_si hL ray_t (by decide), if_pos ⟨rfl, rfl⟩]
    · rw [hh_i_si b2 ray_t (by decide), if_neg (by decide), hh_i_si b1 ray_t (by decide), if_neg (by decide), hh_i_si b0 ray_t (by decide), if_pos ⟨rfl, rfl⟩]
    · rw [hh_i_si b2 ray_t (by decide), if_neg (by decide), hh_i_si b1 ray_t (by decide), if_pos ⟨rfl, rfl⟩]; rfl
    · rw [hh_i_si b2 ray_t (by decide), if_pos ⟨rfl, rfl⟩]; rfl
  obtain ⟨hbc, hbd⟩ := bx_facts p hp
  obtain ⟨h', r1, r2⟩ := key 140 0 (bx_cell p) (bx_dir p) 0 0 (by omega) hbc hbd _ none none hy0
  exact ⟨h', sg_X5_follow_0 hL (sp_cellAt b3 hp) (sp_dirAt b3 hp) r1, r2⟩
end
