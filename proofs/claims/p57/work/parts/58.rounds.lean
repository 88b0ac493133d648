/-! the methods of Courses, by rounds -/
def ebl (t q : Nat) (k : Int32) (E : Nat → Nat) : Nat → Nat → Nat → Nat
  | 0, _, l => l
  | m + 1, w, l => ebl t q k E m (w + 1) (if t = bx_opp w then l else if E (4 * q + w) + (if t = bx_refl k w then 0 else 1) < l then E (4 * q + w) + (if t = bx_refl k w then 0 else 1) else l)
def eb (co : Nat → Int32) (E : Nat → Nat) (x : Nat) : Nat := if bx_nb (x / 4) (bx_opp (x % 4)) = 35 then 1000 else if co (bx_nb (x / 4) (bx_opp (x % 4))) = 99 then 1000 else ebl (x % 4) (bx_nb (x / 4) (bx_opp (x % 4))) (co (bx_nb (x / 4) (bx_opp (x % 4)))) E 4 0 1000
def la (co : Nat → Int32) : Nat → Nat → (Nat → Nat) → Bool → (Nat → Nat) × Bool
  | 0, _, E, b => (E, b)
  | m + 1, x, E, b => if eb co E x < E x then la co m (x + 1) (upE E x (eb co E x)) true else la co m (x + 1) E b
def sr (co : Nat → Int32) : Nat → (Nat → Nat) → Nat → Nat
  | 0, E => E
  | m + 1, E => if (la co 140 0 E false).2 then sr co m (la co 140 0 E false).1 else (la co 140 0 E false).1
theorem ebl_le {t q : Nat} {k : Int32} {E : Nat → Nat} : ∀ m w l, ebl t q k E m w l ≤ l
  | 0, _, _ => Nat.le_refl _
  | m + 1, w, l => by
    rw [ebl]
    refine Nat.le_trans (ebl_le m (w + 1) _) ?_
    split
    · exact Nat.le_refl _
    · have hm : ∀ a l : Nat, (if a < l then a else l) ≤ l := fun a l => by split <;> omega
      exact hm _ _
theorem eb_le {co : Nat → Int32} {E : Nat → Nat} {x : Nat} : eb co E x ≤ 1000 := by
  unfold eb
  repeat' split
  · exact Nat.le_refl _
  · exact Nat.le_refl _
  · exact ebl_le 4 0 1000
section
variable {g : tr_g} {d : Nat} {h : ev_AH}
theorem sp_startL {p : Nat} (hL : hh_L h) (hp : p < 24) : ∃ h', tr_L g (d + 1) m_X1_start 0 [some (.ref 1086), some (.int (Int32.ofNat p)), none] [] h (.inl (some (.int (Int32.ofNat (pe p)))), h') ∧ hh_F [87] h h' ∧ eR h' 87 (E0 p) := by
  obtain ⟨hbc, hbd⟩ := bx_facts p hp
  have key : ∀ m x, x + m = 140 → ∀ (h1 : ev_AH), hh_L h1 → hh_F [87] h h1 → (∀ i, i < x → (hh_a h1 87).getD i 0 = 1000) → ∃ h', tr_L g (d + 1) m_X1_start 2 [some (.ref 1086), some (.int (Int32.ofNat p)), some (.int (Int32.ofNat x))] [] h1 (.inl (some (.int (Int32.ofNat (pe p)))), h') ∧ hh_F [87] h h' ∧ eR h' 87 (E0 p) := by
    intro m
    induction m with
    | zero =>
      intro x hx h1 hL1 hF1 hi
      have hx0 : x = 140 := hx
      subst hx0
      have p1 := sp_put (g := g) (d := d) (a := 87) (k := pe p) (y := 0) hL1 rfl (by decide) (by have := pe_lt hp; omega)
      refine ⟨_, sg_X1_start_l_2 hL1 (fun _ => sg_X1_start_l_26 hL1 (sp_cellAt hL1 hp) (sp_dirAt hL1 hp) (sp_side hL1) p1 rfl) (fun t => ?_), hh_F_tr hF1 (hh_F_sa (by decide)), ?_⟩
      · have := (ii_lt (a := 140) (b := 140) (by omega) (by omega)).mp t
        omega
      · exact eR_set (E := fun _ => 1000) (e := 0) hL1 rfl rfl (fun i hi2 => ⟨hi i hi2, Nat.le_refl _⟩) (by omega)
    | succ m ih =>
      intro x hx h1 hL1 hF1 hi
      have hlen : (hh_a h1 87).length = 140 := (hh_arr hL1 (k := 87) (t := 0) rfl).2
      have hLn := hh_L_ss (j := x) (x := 1000) hL1 (show hh_t[87]? = some (.inl (0, 140)) from rfl)
      obtain ⟨h', r1, r2, r3⟩ := ih (x + 1) (by omega) _ hLn (hh_F_tr hF1 (hh_F_sa (by decide))) (fun i hi2 => by
        rw [hh_a_sa (hh_L_lt hL1 (by decide)), if_pos rfl]
        by_cases e : x = i
        · subst e
          exact getD_set_eq (by omega)
        · rw [getD_set_ne e]
          exact hi i (by omega))
      refine ⟨h', sg_X1_start_l_2 hL1 (fun t => ?_) (fun _ => sg_X1_start_l_11 hL1 (e0 := rfl) (b0 := by omega) ?_), r2, r3⟩
      · have := (ii_le (a := 140) (by omega) (by omega)).mp t
        omega
      · rw [ii_s]
        exact r1
  obtain ⟨h', r1, r2, r3⟩ := key 140 0 (by omega) h hL hh_F_rf (fun i hi => absurd hi (by omega))
  exact ⟨h', sg_X1_start_l_0 hL r1, r2, r3⟩
theorem sp_effortL {E : Nat → Nat} {q : Nat} (hL : hh_L h) (he : eR h 87 E) (hq : q < 35) : tr_L g (d + 1) m_X1_effortInto 0 [some (.ref 1086), some (.int (Int32.ofNat q)), none, none, none] [] h (.inl (some (.int (Int32.ofNat (ef E q)))), h) := by
  have key : ∀ m w l, w + m = 4 → l ≤ 1000 → ∀ w4 : Option Value, tr_L g (d + 1) m_X1_effortInto 6 [some (.ref 1086), some (.int (Int32.ofNat q)), some (.int (Int32.ofNat l)), some (.int (Int32.ofNat w)), w4] [] h (.inl (some (.int (Int32.ofNat (ei E q m w l)))), h) := by
    intro m
    induction m with
    | zero =>
      intro w l hw hl w4
      refine sg_X1_effortInto_l_6 hL (fun _ => sg_X1_effortInto_l_44 hL rfl) (fun t => ?_)
      have := (ii_lt (b := 4) (by omega) (by omega)).mp t
      omega
    | succ m ih =>
      intro w l hw hl w4
      have hE := he (4 * q + w) (bx_in hq (by omega))
      have a1 := sp_atL (g := g) (d := d) (a := 87) (k := 4 * q + w) hL rfl (by decide) (by omega)
      rw [hE.1] at a1
      refine sg_X1_effortInto_l_6 hL (fun t => ?_) (fun _ => sg_X1_effortInto_l_11 hL (sp_side hL) a1 (fun t => sg_X1_effortInto_l_36 hL ?_) (fun t => sg_X1_effortInto_l_31 hL ?_))
      · have := (ii_le (a := 4) (by omega) (by omega)).mp t
        omega
      · have := (ii_le (by omega) (by omega)).mp t
        rw [ii_s, ei, if_neg (by omega)]
        exact ih (w + 1) l (by omega) hl _
      · have := (ii_lt (by omega) (by omega)).mp t
        rw [ii_s, ei, if_pos this]
        exact ih (w + 1) _ (by omega) hE.2 _
  exact sg_X1_effortInto_l_0 hL (key 4 0 1000 (by omega) (by omega) _)
theorem sp_behind {c : CT} {x : Nat} {E : Nat → Nat} (hL : hh_L h) (hc : cC h 1 = c) (hco : ∀ y ∈ ct_co c, tr_ch y) (he : eR h 87 E) (hx : x < 140) : tr_L g (d + 1) m_X1_effortFromBehind 0 [some (.ref 1086), some (.ref 1001), some (.int (Int32.ofNat x)), none, none, none, none, none, none, none] [] h (.inl (some (.int (Int32.ofNat (eb (ct_c c) E x)))), h) := by
  have hq : x / 4 < 35 := by omega
  have hw : x % 4 < 4 := by omega
  have eq1 : Int32.ofNat x / 4 = Int32.ofNat (x / 4) := ii_d (b := 4) (by omega) (by omega)
  have eq2 : Int32.ofNat x - Int32.ofNat (x / 4) * 4 = Int32.ofNat (x % 4) := by
    rw [← eq1]
    exact ii_r (b := 4) (by omega) (by omega)
  have how := bx_opp_lt hw
  have o1 := sp_opp (g := g) (d := d) hL hw
  have n1 := sp_nb (g := g) (d := d) hL hq how
  rcases bx_nb_cases hq how with ⟨f1, f2⟩ | ⟨f1, f2, f3⟩
  · refine sg_X1_effortFromBehind_0 hL (by rw [eq1, eq2]; exact o1) (by rw [eq1]; exact n1) (fun _ => sg_X1_effortFromBehind_36 hL ?_) (fun t => absurd f2 t)
    rw [eb, if_pos f1]
    rfl
  · have a1 := sp_atcL (g := g) (d := d) (a := 2) (k := bx_nb (x / 4) (bx_opp (x % 4))) hL rfl (by decide) (by omega) (by rw [show hh_a h 2 = ct_co (cC h 1) from rfl, hc]; exact hco)
    rw [show (hh_a h 2).getD (bx_nb (x / 4) (bx_opp (x % 4))) 0 = ct_c c (bx_nb (x / 4) (bx_opp (x % 4))) by rw [← hc]; rfl] at a1
    refine sg_X1_effortFromBehind_0 hL (by rw [eq1, eq2]; exact o1) (by rw [eq1]; exact n1) (fun t => absurd t f3) (fun _ => ?_)
    rw [f2, eq1, eq2]
    refine sg_X1_effortFromBehind_22 hL a1 (fun t => ?_) (fun t => sg_X1_effortFromBehind_36 hL ?_)
    · have key : ∀ m w l, w + m = 4 → l ≤ 1000 → ∀ w8 w9 : Option Value, tr_L g (d + 1) m_X1_effortFromBehind 59 [some (.ref 1086), some (.ref 1001), some (.int (Int32.ofNat x)), some (.int (Int32.ofNat (x % 4))), some (.int (Int32.ofNat (bx_nb (x / 4) (bx_opp (x % 4))))), some (.int (ct_c c (bx_nb (x / 4) (bx_opp (x % 4))))), some (.int (Int32.ofNat l)), some (.int (Int32.ofNat w)), w8, w9] [] h (.inl (some (.int (Int32.ofNat (ebl (x % 4) (bx_nb (x / 4) (bx_opp (x % 4))) (ct_c c (bx_nb (x / 4) (bx_opp (x % 4)))) E m w l)))), h) := by
        intro m
        induction m with
        | zero =>
          intro w l hw2 hl w8 w9
          refine sg_X1_effortFromBehind_59 hL (fun _ => sg_X1_effortFromBehind_133 hL rfl) (fun t => ?_)
          have := (ii_lt (b := 4) (by omega) (by omega)).mp t
          omega
        | succ m ih =>
          intro w l hw2 hl w8 w9
          have hw4 : w < 4 := by omega
          have o2 := sp_opp (g := g) (d := d) hL hw4
          have olt := bx_opp_lt hw4
          refine sg_X1_effortFromBehind_59 hL (fun t => ?_) (fun _ => sg_X1_effortFromBehind_65 hL o2 (fun t2 => sg_X1_effortFromBehind_127 hL ?_) (fun t2 => ?_))
          · have := (ii_le (a := 4) (by omega) (by omega)).mp t
            omega
          · have := (ii_eq (by omega) (by omega)).mp t2
            rw [ii_s, ebl, if_pos this]
            exact ih (w + 1) l (by omega) hl _ _
          · have hne : x % 4 ≠ bx_opp w := fun e => t2 (by rw [e])
            have r2 := sp_refl (g := g) (d := d) (c := ct_c c (bx_nb (x / 4) (bx_opp (x % 4)))) hL hw4
            have rlt := bx_refl_lt (c := ct_c c (bx_nb (x / 4) (bx_opp (x % 4)))) hw4
            have hE := he (4 * bx_nb (x / 4) (bx_opp (x % 4)) + w) (bx_in f1 hw4)
            have a2 := sp_atL (g := g) (d := d) (a := 87) (k := 4 * bx_nb (x / 4) (bx_opp (x % 4)) + w) hL rfl (by decide) (by omega)
            rw [hE.1] at a2
            refine sg_X1_effortFromBehind_74 hL r2 (fun t3 => ?_) (fun t3 => ?_)
            · have hn3 : x % 4 ≠ bx_refl (ct_c c (bx_nb (x / 4) (bx_opp (x % 4)))) w := fun e => t3 (by rw [← e])
              refine sg_X1_effortFromBehind_89 hL (sp_side hL) a2 (fun t4 => sg_X1_effortFromBehind_123 hL ?_) (fun t4 => sg_X1_effortFromBehind_118 hL ?_)
              · rw [ii_s] at t4
                have := (ii_le (by omega) (by omega)).mp t4
                rw [ii_s, ebl, if_neg hne, if_neg hn3, if_neg (by omega)]
                exact ih (w + 1) l (by omega) hl _ _
              · rw [ii_s] at t4
                have := (ii_lt (by omega) (by omega)).mp t4
                rw [ii_s, ii_s, ebl, if_neg hne, if_neg hn3, if_pos this]
                exact ih (w + 1) _ (by omega) (by omega) _ _
            · have he3 : x % 4 = bx_refl (ct_c c (bx_nb (x / 4) (bx_opp (x % 4)))) w := (ii_eq (by omega) (by omega)).mp t3
              refine sg_X1_effortFromBehind_85 hL (sp_side hL) a2 (fun t4 => sg_X1_effortFromBehind_123 hL ?_) (fun t4 => sg_X1_effortFromBehind_118 hL ?_)
              · rw [Int32.add_zero] at t4
                have := (ii_le (by omega) (by omega)).mp t4
                rw [ii_s, ebl, if_neg hne, if_pos he3, if_neg (by omega)]
                exact ih (w + 1) l (by omega) hl _ _
              · rw [Int32.add_zero] at t4
                have := (ii_lt (by omega) (by omega)).mp t4
                rw [ii_s, Int32.add_zero, ebl, if_neg hne, if_pos he3, if_pos (by omega)]
                exact ih (w + 1) _ (by omega) (by omega) _ _
      refine sg_X1_effortFromBehind_40 hL a1 ?_
      rw [eb, if_neg (by omega), if_neg t]
      exact key 4 0 1000 (by omega) (by omega) _ _
    · rw [eb, if_neg (by omega), if_pos t]
      rfl
theorem sp_lowerAll {c : CT} {E : Nat → Nat} (hL : hh_L h) (hc : cC h 1 = c) (hco : ∀ y ∈ ct_co c, tr_ch y) (he : eR h 87 E) : ∃ h', tr_L g (d + 2) m_X1_lowerAll 0 [some (.ref 1086), some (.ref 1001), none, none, none] [] h (.inl (some (.int (if (la (ct_c c) 140 0 E false).2 then 1 else 0))), h') ∧ hh_F [87] h h' ∧ eR h' 87 (la (ct_c c) 140 0 E false).1 := by
  have key : ∀ m x (E : Nat → Nat) (b : Bool), x + m = 140 → ∀ (h1 : ev_AH), hh_L h1 → hh_F [87] h h1 → eR h1 87 E → ∃ h', (∀ w4 : Option Value, tr_L g (d + 2) m_X1_lowerAll 4 [some (.ref 1086), some (.ref 1001), some (.int (if b then 1 else 0)), some (.int (Int32.ofNat x)), w4] [] h1 (.inl (some (.int (if (la (ct_c c) m x E b).2 then 1 else 0))), h')) ∧ hh_F [87] h h' ∧ eR h' 87 (la (ct_c c) m x E b).1 := by
    intro m
    induction m with
    | zero =>
      intro x E b hx h1 hL1 hF1 he1
      refine ⟨h1, fun w4 => sg_X1_lowerAll_4 hL1 (fun _ => sg_X1_lowerAll_50 hL1 ?_ rfl) (fun t => ?_), hF1, he1⟩
      · cases b
        · exact Or.inl rfl
        · exact Or.inr rfl
      · have := (ii_lt (b := 140) (by omega) (by omega)).mp t
        omega
    | succ m ih =>
      intro x E b hx h1 hL1 hF1 he1
      have hx140 : x < 140 := by omega
      have hc1 : cC h1 1 = c := (cC_F hF1 (by decide)).trans hc
      have b1 := sp_behind (g := g) (d := d) hL1 hc1 hco he1 hx140
      have hE := he1 x hx140
      have a1 := sp_atL (g := g) (d := d + 1) (a := 87) (k := x) hL1 rfl (by decide) (by omega)
      rw [hE.1] at a1
      have hle := eb_le (co := ct_c c) (E := E) (x := x)
      have n4 : ∀ {P : Prop}, ((140 : Int32) ≤ Int32.ofNat x → P) := fun t2 => by
        have := (ii_le (a := 140) (by omega) (by omega)).mp t2
        omega
      by_cases hlt : eb (ct_c c) E x < E x
      · have p1 := sp_put (g := g) (d := d + 1) (a := 87) (k := x) (y := Int32.ofNat (eb (ct_c c) E x)) hL1 rfl (by decide) (by omega)
        obtain ⟨h', r1, r2, r3⟩ := ih (x + 1) _ true (by omega) _ p1.2 (hh_F_tr hF1 (hh_F_sa (by decide))) (eR_set hL1 rfl rfl he1 hle)
        refine ⟨h', fun w4 => sg_X1_lowerAll_4 hL1 (fun t => n4 t) (fun _ => sg_X1_lowerAll_11 hL1 b1 a1 (fun t => ?_) (fun _ => sg_X1_lowerAll_32 hL1 p1 ?_)), r2, ?_⟩
        · have := (ii_le (by omega) (by omega)).mp t
          omega
        · rw [ii_s, la, if_pos hlt]
          exact r1 _
        · rw [la, if_pos hlt]
          exact r3
      · obtain ⟨h', r1, r2, r3⟩ := ih (x + 1) E b (by omega) h1 hL1 hF1 he1
        refine ⟨h', fun w4 => sg_X1_lowerAll_4 hL1 (fun t => n4 t) (fun _ => sg_X1_lowerAll_11 hL1 b1 a1 (fun _ => sg_X1_lowerAll_44 hL1 ?_) (fun t => ?_)), r2, ?_⟩
        · rw [ii_s, la, if_neg hlt]
          exact r1 _
        · have := (ii_lt (by omega) (by omega)).mp t
          omega
        · rw [la, if_neg hlt]
          exact r3
  obtain ⟨h', r1, r2, r3⟩ := key 140 0 E false (by omega) h hL hh_F_rf he
  exact ⟨h', sg_X1_lowerAll_0 hL (r1 _), r2, r3⟩
theorem sp_searchL {c : CT} {p : Nat} (hL : hh_L h) (hc : cC h 1 = c) (hco : ∀ y ∈ ct_co c, tr_ch y) (hp : p < 24) : ∃ h', tr_L g (d + 3) m_X1_searchByRounds 0 [some (.ref 1086), some (.ref 1001), some (.int (Int32.ofNat p)), none, none] [] h (.inl none, h') ∧ hh_F [87] h h' ∧ eR h' 87 (sr (ct_c c) 140 (E0 p)) := by
  have key : ∀ m rd (E : Nat → Nat), rd + m = 140 → ∀ (h1 : ev_AH), hh_L h1 → hh_F [87] h h1 → eR h1 87 E → ∃ h', tr_L g (d + 3) m_X1_searchByRounds 11 [some (.ref 1086), some (.ref 1001), some (.int (Int32.ofNat p)), some (.int 1), some (.int (Int32.ofNat rd))] [] h1 (.inl none, h') ∧ hh_F [87] h h' ∧ eR h' 87 (sr (ct_c c) m E) := by
    intro m
    induction m with
    | zero =>
      intro rd E hr h1 hL1 hF1 he1
      refine ⟨h1, sg_X1_searchByRounds_11 hL1 (fun _ => sg_X1_searchByRounds_35 hL1 rfl) (fun t => ?_), hF1, he1⟩
      have := (ii_lt (b := 140) (by omega) (by omega)).mp t
      omega
    | succ m ih =>
      intro rd E hr h1 hL1 hF1 he1
      have hc1 : cC h1 1 = c := (cC_F hF1 (by decide)).trans hc
      obtain ⟨h2, l1, l2, l3⟩ := sp_lowerAll (g := g) (d := d) hL1 hc1 hco he1
      have hF2 := hh_F_tr hF1 l2
      have n4 : ∀ {P : Prop}, ((140 : Int32) ≤ Int32.ofNat rd → P) := fun t2 => by
        have := (ii_le (a := 140) (by omega) (by omega)).mp t2
        omega
      cases hb : (la (ct_c c) 140 0 E false).2 with
      | true =>
        rw [hb] at l1
        obtain ⟨h', r1, r2, r3⟩ := ih (rd + 1) _ (by omega) h2 l1.2 hF2 l3
        refine ⟨h', sg_X1_searchByRounds_11 hL1 (fun t => n4 t) (fun _ => sg_X1_searchByRounds_19 hL1 (fun t => absurd t (by decide)) (fun _ => sg_X1_searchByRounds_23 hL1 l1 rfl ?_)), r2, ?_⟩
        · rw [ii_s]
          exact r1
        · rw [sr, if_pos hb]
          exact r3
      | false =>
        rw [hb] at l1
        refine ⟨h2, sg_X1_searchByRounds_11 hL1 (fun t => n4 t) (fun _ => sg_X1_searchByRounds_19 hL1 (fun t => absurd t (by decide)) (fun _ => sg_X1_searchByRounds_23 hL1 l1 rfl (sg_X1_searchByRounds_11 l1.2 (fun _ => sg_X1_searchByRounds_35 l1.2 rfl) (fun _ => sg_X1_searchByRounds_19 l1.2 (fun _ => sg_X1_searchByRounds_35 l1.2 rfl) (fun t => absurd rfl t))))), hF2, ?_⟩
        rw [sr, hb, if_neg Bool.false_ne_true]
        exact l3
  obtain ⟨h1, u1, u2, u3⟩ := sp_startL (g := g) (d := d + 1) hL hp
  obtain ⟨h', r1, r2, r3⟩ := key 140 0 (E0 p) (by omega) h1 u1.2 u2 u3
  exact ⟨h', sg_X1_searchByRounds_0 hL u1 r1, r2, r3⟩
end
