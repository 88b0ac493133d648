/-! THE MODEL: its row s against a court; plain methods -/
/-- what stands in the model's row, told by a court -/
def mR (s : List Int32) (c : CT) (n : Nat) : Prop := s.length = 124 ∧ (s.getD 0 0 = ct_i c 1 ∧ s.getD 1 0 = ct_i c 0 ∧ s.getD 2 0 = ct_i c 2 ∧ s.getD 3 0 = ct_i c 3 ∧ s.getD 4 0 = ct_i c 4 ∧ s.getD 5 0 = ct_i c 5 ∧ s.getD 6 0 = ct_i c 6 ∧ s.getD 7 0 = ct_i c 7 ∧ s.getD 8 0 = (if ct_i c 2 < 10 then ct_i c 2 else 10)) ∧ (∀ k, k < 10 → s.getD (9 + k) 0 = (ct_ve c).getD k 0) ∧ (∀ q, q < 35 → s.getD (19 + q) 0 = (if (ct_co c).getD q 0 = 99 ∨ (ct_co c).getD q 0 = 46 then 0 else (ct_co c).getD q 0)) ∧ ∀ k, k < n → s.getD (54 + 10 * k) 0 = (ct_ce c).getD k 0 ∧ s.getD (54 + 10 * k + 1) 0 = (ct_he c).getD k 0 ∧ ∀ p, p < 4 → s.getD (54 + 10 * k + 2 + p) 0 = (ct_ra c).getD (4 * k + p) 0 ∧ s.getD (54 + 10 * k + 6 + p) 0 = (ct_fi c).getD (4 * k + p) 0
/-- what a query of the model needs -/
def mQ (h : ev_AH) (c : CT) (n : Nat) : Prop := mR (hh_a h 100) c n ∧ pQ c n
theorem mQ_F {ks : List Nat} {h h' : ev_AH} {c : CT} {n : Nat} (hF : hh_F ks h h') (hk : 100 ∉ ks) (q : mQ h c n) : mQ h' c n := ⟨by rw [hh_F_a hF hk]; exact q.1, q.2⟩
theorem ht99 : hh_t[99]? = some (.inr (8, [1100, 1101, 1102, 1103, 1104, 1105, 0, 0, 0, 0, 0, 0, 0, 0, 0, 0, 0, 0, 0, 0, 0, 1106, 0, 1107, 1108, 0, 0, 0])) := rfl
theorem ht100 : hh_t[100]? = some (.inl (0, 124)) := rfl
section
variable {g : tr_g} {d : Nat} {h h' : ev_AH} {c : CT} {n : Nat}
theorem m_n (q : mQ h c n) : (hh_a h 100).getD 1 0 = Int32.ofNat n := by rw [q.1.2.1.2.1]; exact q.2.1
theorem sp_of {k w : Nat} (hL : hh_L h) (hk : k < 7) (hw : w < 10) : tr_L g d m_X9_of 0 [some (.ref 1099), some (.int (Int32.ofNat k)), some (.int (Int32.ofNat w))] [] h (.inl (some (.int ((hh_a h 100).getD (54 + 10 * k + w) 0))), h) := by
  refine sg_X9_of_0 hL (j0 := 54 + 10 * k + w) ?_ (by omega) rfl
  rw [show (54 : Int32) = Int32.ofNat 54 from rfl, show (10 : Int32) = Int32.ofNat 10 from rfl, ii_m, ii_a, ii_a]
theorem sp_catOn {x : Int32} (hL : hh_L h) (q : mQ h c n) : tr_L g (d + 1) m_X9_catOn 0 [some (.ref 1099), some (.int x), none] [] h (.inl (some (.int (ii_o (ct_cat c n x) n))), h) := by
  have h7 := q.2.2.1
  have e1 := m_n q
  have hsp := mm_find_spec (fun k => (ct_ce c).getD k 0 == x) n
  have loop : ∀ (m k : Nat), k + m = n → (∀ j, j < k → ((ct_ce c).getD j 0 == x) = false) → tr_L g (d + 1) m_X9_catOn 2 [some (.ref 1099), some (.int x), some (.int (Int32.ofNat k))] [] h (.inl (some (.int (ii_o (ct_cat c n x) n))), h) := by
    intro m
    induction m with
    | zero =>
      intro k hk hb
      have : k = n := by omega
      subst this
      have ec : ct_cat c k x = k := mm_find_no hb
      rw [ec, ii_o, if_neg (Nat.lt_irrefl _)]
      exact sg_X9_catOn_2 hL (j0 := 1) rfl (by omega) (fun _ => sg_X9_catOn_30 hL rfl) (fun t => by rw [e1] at t; exact absurd ((ii_lt (by omega) (by omega)).mp t) (by omega))
    | succ m ih =>
      intro k hk hb
      have hkn : k < n := by omega
      have r1 := sp_of (g := g) (d := d) (k := k) (w := 0) hL (by omega) (by omega)
      rw [show 54 + 10 * k + 0 = 54 + 10 * k from rfl, (q.1.2.2.2.2 k hkn).1] at r1
      refine sg_X9_catOn_2 hL (j0 := 1) rfl (by omega) (fun t => by rw [e1] at t; exact absurd ((ii_le (by omega) (by omega)).mp t) (by omega)) (fun _ => sg_X9_catOn_12 hL r1 (fun t => ?_) (fun t => ?_))
      · refine sg_X9_catOn_24 hL ?_
        rw [ii_s]
        refine ih (k + 1) (by omega) (fun j hj => ?_)
        by_cases hjk : j = k
        · subst hjk
          exact beq_eq_false_iff_ne.mpr t
        · exact hb j (by omega)
      · have ec : ct_cat c n x = k := mm_find_at hkn (beq_iff_eq.mpr t) hb
        rw [ec, ii_o, if_pos hkn]
        exact sg_X9_catOn_22 hL rfl
  exact sg_X9_catOn_0 hL (loop n 0 (by omega) (fun j hj => absurd hj (by omega)))
theorem ht99_7 {x : Int32} {sl : Nat} (hL : hh_L h) (h1 : (6 ≤ sl ∧ sl ≤ 20) ∨ sl = 22 ∨ (25 ≤ sl ∧ sl ≤ 27)) : hh_L (hh_si h 99 8 sl x) := by
  have : sl = 6 ∨ sl = 7 ∨ sl = 8 ∨ sl = 9 ∨ sl = 10 ∨ sl = 11 ∨ sl = 12 ∨ sl = 13 ∨ sl = 14 ∨ sl = 15 ∨ sl = 16 ∨ sl = 17 ∨ sl = 18 ∨ sl = 19 ∨ sl = 20 ∨ sl = 22 ∨ sl = 25 ∨ sl = 26 ∨ sl = 27 := by omega
  rcases this with rfl | rfl | rfl | rfl | rfl | rfl | rfl | rfl | rfl | rfl | rfl | rfl | rfl | rfl | rfl | rfl | rfl | rfl | rfl <;> exact hh_L_si hL ht99 rfl
/-- thrown is noted, or not -/
theorem sp_isThrown {b : Bool} {x : Int32} (hL : hh_L h) : tr_L g d m_X9_isThrown 0 [some (.ref 1099), some (.int (bI b)), some (.int x)] [] h (.inl (some (.int (bI b))), hh_si h 99 8 7 (if b then x else 0)) := by
  cases b with
  | true => exact sg_X9_isThrown_0 hL (fun t => absurd t (by decide)) (fun _ => sg_X9_isThrown_5 hL (Or.inr rfl) rfl)
  | false => exact sg_X9_isThrown_0 hL (fun _ => sg_X9_isThrown_9 hL (Or.inl rfl) rfl) (fun t => absurd rfl t)
theorem sp_isRej {b : Bool} {x1 x2 x3 : Int32} (hL : hh_L h) : tr_L g (d + 1) m_X9_isRejected 0 [some (.ref 1099), some (.int (bI b)), some (.int x1), some (.int x2), some (.int x3)] [] h (.inl (some (.int (bI b))), if b then hh_si (hh_si (hh_si h 99 8 12 x1) 99 8 13 x2) 99 8 7 x3 else hh_si h 99 8 7 0) := by
  cases b with
  | true =>
    have L2 := ht99_7 (sl := 13) (x := x2) (ht99_7 (sl := 12) (x := x1) hL (by omega)) (by omega)
    have r := sp_isThrown (g := g) (d := d) (b := true) (x := x3) L2
    exact sg_X9_isRejected_0 hL (fun t => absurd t (by decide)) (fun _ => sg_X9_isRejected_4 hL (sg_X9_isRejected_14 L2 r (Or.inr rfl) rfl))
  | false =>
    have r := sp_isThrown (g := g) (d := d) (b := false) (x := x3) hL
    exact sg_X9_isRejected_0 hL (fun _ => sg_X9_isRejected_14 hL r (Or.inl rfl) rfl) (fun t => absurd rfl t)
end
