/-! THE MODEL: the least effort as a call; orders -/
theorem ei_far {D E : Nat → Nat} {q : Nat} (hq : q < 35) (hD : ∀ x, x < 140 → D x ≤ 1000) (hE : ∀ x, x < 140 → E x = far9 (D x)) : ∀ (m w l : Nat), w + m ≤ 4 → l ≤ 1000 → ei E q m w (far9 l) = far9 (ei D q m w l)
  | 0, w, l, _, _ => rfl
  | m + 1, w, l, hw, hl => by
    have h1 := hD (4 * q + w) (by omega)
    have h2 := hE (4 * q + w) (by omega)
    rw [ei, ei, h2]
    have : (if far9 (D (4 * q + w)) < far9 l then far9 (D (4 * q + w)) else far9 l) = far9 (if D (4 * q + w) < l then D (4 * q + w) else l) := by
      unfold far9
      repeat' split
      all_goals omega
    rw [this]
    refine ei_far hq hD hE m (w + 1) _ (by omega) ?_
    split <;> omega
theorem far9_eq {v : Nat} (h : v ≤ 1000) : far9 v = 9999 ↔ v = 1000 := by
  unfold far9
  split <;> omega
section
variable {g : tr_g} {d : Nat} {h h' : ev_AH} {c : CT} {n B : Nat}
theorem sp_passM {p : Nat} {w1 : Option Value} {x2 : Int32} (q : mQ h c n) (hw : co_w c n) : ∀ (m q0 : Nat) (h2 : ev_AH) (E2 : Nat → Nat) (b2 : Bool), q0 + m = 35 → hh_L h2 → hh_F [104] h h2 → eM h2 E2 → ∃ h3 E3 b3, hh_L h3 ∧ hh_F [104] h h3 ∧ eM h3 E3 ∧ ST (ct_c c) p E2 b2 E3 b3 ∧ (b3 = false → ∀ q', q0 ≤ q' → q' < 35 → ct_c c q' ≠ 99 → ∀ w, w < 4 → ∀ t, t < 4 → eH (ct_c c) E2 (4 * q' + w) t) ∧ ∀ r, (∀ w4 w5 w6, tr_L g (d + 3) m_X9_effort 80 [some (.ref 1099), w1, some (.int x2), some (.int (bI b3)), w4, w5, w6] [] h3 r) → ∀ w5 w6, tr_L g (d + 3) m_X9_effort 47 [some (.ref 1099), w1, some (.int x2), some (.int (bI b2)), some (.int (Int32.ofNat q0)), w5, w6] [] h2 r := by
  intro m
  induction m with
  | zero =>
    intro q0 h2 E2 b2 hq L2 F2 e2
    have : q0 = 35 := by omega
    subst this
    exact ⟨h2, E2, b2, L2, F2, e2, ST_rf, fun _ q' a b => absurd b (by omega), fun r kk w5 w6 => sg_X9_effort_47 L2 (fun _ => kk _ _ _) (fun t => lp_end t)⟩
  | succ m ih =>
    intro q0 h2 E2 b2 hq L2 F2 e2
    have hq35 : q0 < 35 := by omega
    have q2 := mQ_F F2 (by decide) q
    have h7 := q.2.2.1
    have rc := sp_catOn (g := g) (d := d + 1) (x := Int32.ofNat q0) L2 q2
    by_cases h99 : ct_c c q0 = 99
    · have hc : ct_cat c n (Int32.ofNat q0) < n := (hw q0 hq35).2.mp h99
      rw [ii_o, if_pos hc] at rc
      obtain ⟨h4, E4, b4, L4, F4, e4, S4, C4, k4⟩ := ih (q0 + 1) h2 E2 b2 (by omega) L2 F2 e2
      refine ⟨h4, E4, b4, L4, F4, e4, S4, fun hb q' a b c' w hw t ht => C4 hb q' (by
        by_cases e : q' = q0
        · rw [e] at c'; exact absurd h99 c'
        · omega) b c' w hw t ht, fun r kk w5 w6 => sg_X9_effort_47 L2 (fun t => lp_no hq35 (by omega) t) (fun _ => sg_X9_effort_54 L2 (d := d + 2) rc (fun _ => sg_X9_effort_74 L2 (by rw [ii_s]; exact k4 r kk _ _)) (fun t => absurd t (Int32.not_lt.mpr (ii_nn (by omega)))))⟩
    · have hc : ¬ ct_cat c n (Int32.ofNat q0) < n := fun t => h99 ((hw q0 hq35).2.mpr t)
      rw [ii_o, if_neg hc] at rc
      obtain ⟨h3, E3, b3, r3, F3, e3, S3, C3⟩ := sp_goesOn (g := g) (d := d + 1) (p := p) L2 q2 hw hq35 h99 e2
      have L3 := r3.2
      -- the flag behind the cell
      obtain ⟨h4, E4, b4, L4, F4, e4, S4, C4, k4⟩ := ih (q0 + 1) h3 E3 (b2 || b3) (by omega) L3 (hh_F_tr F2 F3) e3
      have S3' : ST (ct_c c) p E2 b2 E3 (b2 || b3) := by
        refine ⟨S3.1, S3.2.1, fun hb => ?_, fun hb => ?_⟩
        · cases b2 with
          | true => exact absurd hb (by cases b3 <;> decide)
          | false => exact ⟨rfl, (S3.2.2.1 hb).2⟩
        · cases b2 with
          | true => exact Or.inl rfl
          | false => exact Or.inr ((S3.2.2.2 hb).resolve_left (by decide))
      refine ⟨h4, E4, b4, L4, F4, e4, ST_tr S3' S4, fun hb q' a b c' w hw t ht => ?_, fun r kk w5 w6 => sg_X9_effort_47 L2 (fun t => lp_no hq35 (by omega) t) (fun _ => sg_X9_effort_54 L2 (d := d + 2) rc (fun t => absurd t (by decide)) (fun _ => sg_X9_effort_63 L2 (d := d + 2) r3 (fun t => ?_) (fun t => ?_)))⟩
      · have hbb := (S4.2.2.1 hb).1
        have hb3 : b3 = false := by
          cases b2 with
          | true => exact absurd hbb (by cases b3 <;> decide)
          | false => exact hbb
        by_cases e : q' = q0
        · rw [e]; exact C3 hb3 w hw t ht
        · have := C4 hb q' (by omega) b c' w hw t ht
          have same := (S3.2.2.1 hb3).2
          unfold eH at this ⊢
          rw [same, same] at this
          exact this
      · have hb3 : b3 = false := by
          cases b3 with
          | true => exact absurd t (by decide)
          | false => rfl
        have z := k4 r kk w5 w6
        rw [hb3, Bool.or_false] at z
        exact sg_X9_effort_74 L3 (by rw [ii_s]; exact z)
      · have hb3 : b3 = true := by
          cases b3 with
          | true => rfl
          | false => exact absurd rfl t
        have z := k4 r kk w5 w6
        rw [hb3, Bool.or_true] at z
        exact sg_X9_effort_72 L3 (by rw [ii_s]; exact z)
theorem sp_relax {p : Nat} {w1 : Option Value} {x2 : Int32} (q : mQ h c n) (hw : co_w c n) : ∀ (N : Nat) (h2 : ev_AH) (E2 : Nat → Nat), sumN E2 140 < N → hh_L h2 → hh_F [104] h h2 → eM h2 E2 → E2 (pe p) = 0 → LE (ct_c c) p 9999 E2 → ∃ h3 E3, hh_L h3 ∧ hh_F [104] h h3 ∧ eM h3 E3 ∧ CL (ct_c c) p 9999 E3 ∧ LE (ct_c c) p 9999 E3 ∧ ∀ r, (∀ w3 w4 w5 w6, tr_ow w3 = true → tr_L g (d + 3) m_X9_effort 83 [some (.ref 1099), w1, some (.int x2), w3, w4, w5, w6] [] h3 r) → ∀ w4 w5 w6, tr_L g (d + 3) m_X9_effort 38 [some (.ref 1099), w1, some (.int x2), some (.int 1), w4, w5, w6] [] h2 r := by
  intro N
  induction N with
  | zero => intro h2 E2 hs; exact absurd hs (by omega)
  | succ N ih =>
    intro h2 E2 hs L2 F2 e2 e0 l2
    obtain ⟨h3, E3, b3, L3, F3, e3, S3, C3, k3⟩ := sp_passM (g := g) (d := d) (p := p) (w1 := w1) (x2 := x2) q hw 35 0 h2 E2 false (by omega) L2 F2 e2
    cases b3 with
    | true =>
      obtain ⟨x, hx, hl⟩ := (S3.2.2.2 rfl).resolve_left (by decide)
      have hs3 := sumN_lt (f := E3) (f' := E2) 140 (fun k _ => S3.1 k) ⟨x, hx, hl⟩
      obtain ⟨h4, E4, L4, F4, e4, c4, l4, k4⟩ := ih h3 E3 (by omega) L3 F3 e3 (by have := S3.1 (pe p); omega) (S3.2.1 l2)
      exact ⟨h4, E4, L4, F4, e4, c4, l4, fun r kk w4 w5 w6 => sg_X9_effort_38 L2 (fun t => absurd t (by decide)) (fun _ => sg_X9_effort_42 L2 (k3 r (fun w4 w5 w6 => sg_X9_effort_80 L3 (k4 r kk _ _ _)) _ _))⟩
    | false =>
      have same := (S3.2.2.1 rfl).2
      have cl : CL (ct_c c) p 9999 E3 := by
        refine ⟨by rw [same]; exact e0, fun x hx => (e3 x hx).2, fun x hx t ht ok => ?_⟩
        have := C3 rfl (x / 4) (by omega) (by omega) ok.1 (x % 4) (by omega) t ht
        rw [show 4 * (x / 4) + x % 4 = x by omega] at this
        rw [same, same]
        exact this ok
      exact ⟨h3, E3, L3, F3, e3, cl, S3.2.1 l2, fun r kk w4 w5 w6 => sg_X9_effort_38 L2 (fun t => absurd t (by decide)) (fun _ => sg_X9_effort_42 L2 (k3 r (fun w4 w5 w6 => sg_X9_effort_80 L3 (sg_X9_effort_38 L3 (fun _ => kk _ _ _ _ rfl) (fun t => absurd rfl t))) _ _))⟩
theorem sp_effortM {p k : Nat} (hL : hh_L h) (q : mQ h c n) (hw : co_w c n) (hp : p < 24) (hk : k < n) : ∃ h', tr_L g (d + 3) m_X9_effort 0 [some (.ref 1099), some (.int (Int32.ofNat p)), some (.int (Int32.ofNat k)), none, none, none, none] [] h (.inl (some (.int (Int32.ofNat (far9 (ef_Q c p k))))), h') ∧ hh_F [104] h h' := by
  have h7 := q.2.2.1
  obtain ⟨f1, f2⟩ := bx_facts p hp
  obtain ⟨c1, c2⟩ := fc_I p hp
  have hpe := pe_lt hp
  obtain ⟨q0, hq0, eq0⟩ := q.2.2.2.2.1 k hk
  have hce : ce_q c k = q0 := by unfold ce_q; rw [eq0, ii_cn (by omega)]
  -- all are far
  have fill : ∀ m j, j + m = 140 → ∀ (h2 : ev_AH), hh_L h2 → hh_F [104] h h2 → (∀ x, x < j → (hh_a h2 104).getD x 0 = 9999) → ∃ h3, hh_L h3 ∧ hh_F [104] h h3 ∧ (∀ x, x < 140 → (hh_a h3 104).getD x 0 = 9999) ∧ ∀ r, (∀ w3, tr_L g (d + 3) m_X9_effort 24 [some (.ref 1099), some (.int (Int32.ofNat p)), some (.int (Int32.ofNat k)), w3, none, none, none] [] h3 r) → tr_L g (d + 3) m_X9_effort 2 [some (.ref 1099), some (.int (Int32.ofNat p)), some (.int (Int32.ofNat k)), some (.int (Int32.ofNat j)), none, none, none] [] h2 r := by
    intro m
    induction m with
    | zero =>
      intro j hj h2 L2 F2 e2
      have : j = 140 := by omega
      subst this
      exact ⟨h2, L2, F2, e2, fun r kk => sg_X9_effort_2 L2 (fun _ => kk _) (fun t => lp_end t)⟩
    | succ m ih =>
      intro j hj h2 L2 F2 e2
      have hj140 : j < 140 := by omega
      have hl := (hh_arr L2 ht104).2
      have L3 := hh_L_ss (j := j) (x := 9999) L2 ht104
      obtain ⟨h3, s1, s2, s3, s4⟩ := ih (j + 1) (by omega) _ L3 (hh_F_tr F2 (hh_F_sa (by decide))) (fun x hx => by
        rw [hh_a_sa (hh_L_lt L2 (by decide)), if_pos rfl, gs (by omega)]
        split
        · rfl
        · exact e2 x (by omega))
      exact ⟨h3, s1, s2, s3, fun r kk => sg_X9_effort_2 L2 (fun t => lp_no hj140 (by omega) t) (fun _ => sg_X9_effort_9 L2 (j0 := j) rfl hj140 (by rw [ii_s]; exact s4 r kk))⟩
  obtain ⟨h1, L1, F1, a1, k1⟩ := fill 140 0 (by omega) h hL hh_F_rf (fun x hx => absurd hx (by omega))
  have m1 : eM h1 (fun _ => 9999) := fun x hx => ⟨a1 x hx, Nat.le_refl _⟩
  have rf := sa_X9_firstCell (g := g) (d := d + 2) (x0 := Int32.ofNat p) L1
  have rw' := sa_X9_firstWay (g := g) (d := d + 2) (x0 := Int32.ofNat p) L1
  rw [c1] at rf
  rw [c2] at rw'
  have rl := sp_lowers (g := g) (d := d + 2) (q0 := bx_cell p) (w := bx_dir p) (v := 0) L1 m1 f1 f2 (by omega)
  rw [if_pos (show 0 < (fun _ : Nat => 9999) (4 * bx_cell p + bx_dir p) from (by show 0 < 9999; omega)), decide_eq_true (show 0 < (fun _ : Nat => 9999) (4 * bx_cell p + bx_dir p) from (by show 0 < 9999; omega))] at rl
  have L2 := rl.2
  have m2 := eM_set (y := pe p) (v := 0) L1 m1 (by omega)
  have F2 : hh_F [104] h (hh_sa h1 104 0 ((hh_a h1 104).set (4 * bx_cell p + bx_dir p) (Int32.ofNat 0))) := hh_F_tr F1 (hh_F_sa (by decide))
  have z0 : upE (fun _ => 9999) (pe p) 0 (pe p) = 0 := by unfold upE; rw [if_pos rfl]
  have le0 : LE (ct_c c) p 9999 (upE (fun _ => 9999) (pe p) 0) := fun F hF x hx => by
    unfold upE
    split
    · rename_i e
      rw [e, hF.1]
      exact Nat.le_refl _
    · exact hF.2.1 x hx
  obtain ⟨h3, E3, L3, F3, m3, cl3, le3, k3⟩ := sp_relax (g := g) (d := d) (p := p) (w1 := some (.int (Int32.ofNat p))) (x2 := Int32.ofNat k) q hw _ _ _ (Nat.lt_succ_self _) L2 F2 m2 z0 le0
  have q3 := mQ_F F3 (by decide) q
  have rof := sp_of (g := g) (d := d + 2) (k := k) (w := 0) L3 (by omega) (by omega)
  rw [show 54 + 10 * k + 0 = 54 + 10 * k from rfl, (q3.1.2.2.2.2 k hk).1, eq0] at rof
  have best : ∀ m w, w + m = 4 → ∀ l w3 w6, l ≤ 9999 → tr_ow w3 = true → tr_L g (d + 3) m_X9_effort 91 [some (.ref 1099), some (.int (Int32.ofNat p)), some (.int (Int32.ofNat k)), w3, some (.int (Int32.ofNat l)), some (.int (Int32.ofNat w)), w6] [] h3 (.inl (some (.int (Int32.ofNat (ei E3 q0 m w l)))), h3) := by
    intro m
    induction m with
    | zero =>
      intro w hw l w3 w6 _ _
      have : w = 4 := by omega
      subst this
      exact sg_X9_effort_91 L3 (fun _ => sg_X9_effort_137 L3 rfl) (fun t => lp_end t)
    | succ m ih =>
      intro w hw l w3 w6 hl o3
      have hw4 : w < 4 := by omega
      obtain ⟨v1, v2⟩ := m3 (4 * q0 + w) (by omega)
      rw [ei]
      refine sg_X9_effort_91 L3 (fun t => lp_no hw4 (by omega) t) (fun _ => sg_X9_effort_97 L3 (d := d + 2) (j0 := 4 * q0 + w) rof (ii_4 _ _) (by omega) (fun t => ?_) (fun t => ?_))
      · rw [v1] at t
        have := (ii_le (by omega) (by omega)).mp t
        rw [if_neg (by omega)]
        exact sg_X9_effort_127 L3 o3 (by rw [ii_s]; exact ih (w + 1) (by omega) l w3 _ hl o3)
      · rw [v1] at t ⊢
        have := (ii_lt (by omega) (by omega)).mp t
        rw [if_pos this]
        exact sg_X9_effort_122 L3 o3 (by rw [ii_s]; exact ih (w + 1) (by omega) _ w3 _ v2 o3)
  obtain ⟨d1, d2⟩ := sq_ok (co := ct_c c) hp
  have ec := cap9 d1 d2 cl3 le3
  have ev : ei E3 q0 4 0 9999 = far9 (ef_Q c p k) := by
    have := ei_far hq0 d1.2.1 ec 4 0 1000 (by omega) (Nat.le_refl _)
    unfold ef_Q ef
    rw [hce, ← this]
    rfl
  rw [← ev]
  exact ⟨h3, sg_X9_effort_0 hL (k1 _ (fun w3 => sg_X9_effort_24 L1 (d := d + 2) rf rw' rl (k3 _ (fun w3 w4 w5 w6 o3 => sg_X9_effort_83 L3 o3 (best 4 0 (by omega) 9999 w3 w6 (by omega) o3)) none none none))), F3⟩
def cd_eff (E : Nat) : Int32 := if E = 1 then 1 else if E = 0 then 2 else 3
theorem ef_le {E : Nat → Nat} {q : Nat} : ef E q ≤ 1000 := ei_le 4 0 1000
theorem mo_effort {x y : Int32} (hL : hh_L h) (q : mQ h c n) (hw : co_w c n) : ∃ h', mU h h' (ans (an_effort ef_Q c n x y) cd_eff).2 ∧ tr_L g (d + 12) m_X9_leastEffort 0 [some (.ref 1099), some (.int x), some (.int y), none] [] h (.inl (some (.int (ans (an_effort ef_Q c n x y) cd_eff).1)), h') := by
  have h7 := q.2.2.1
  have rp := sa_X9_isPort (g := g) (d := d + 10) (x0 := x) hL
  rw [ix_port] at rp
  unfold an_effort
  rcases idx_c (m := 24) (by omega) x with ⟨p, hp, e3, e4⟩ | ⟨e3, e4⟩
  · rw [e4] at rp
    simp only [e4]
    have r1 := sp_thr0 (g := g) (d := d + 11) (x := 1) hL
    have m1 := mT_set (x := 0) hL
    have q1 := mQ_T m1 q
    have rc := sp_isCat (g := g) (d := d + 10) (x := y) r1.2 q1
    have pre : ∀ r', tr_L g (d + 12) m_X9_leastEffort 20 [some (.ref 1099), some (.int x), some (.int y), none] [] (hh_si h 99 8 7 0) r' → tr_L g (d + 12) m_X9_leastEffort 0 [some (.ref 1099), some (.int x), some (.int y), none] [] h r' := fun r' z => sg_X9_leastEffort_0 hL (d := d + 11) rp (fun _ => sg_X9_leastEffort_12 hL (d := d + 11) r1 (fun t => absurd rfl t) (fun _ => z)) (fun t => bI1 t)
    rcases idx_c (m := n) (by omega) y with ⟨k, hk, e5, e6⟩ | ⟨e5, e6⟩
    · rw [e6] at rc
      simp only [e6]
      have r2 := sp_thr0 (g := g) (d := d + 11) (x := 2) r1.2
      have m2 := mT_tr m1 (mT_set (x := 0) r1.2)
      obtain ⟨h3, r3, F3⟩ := sp_effortM (g := g) (d := d + 8) (p := p) (k := k) r2.2 (mQ_T m2 q) hw hp hk
      have L3 := r3.2
      have u3 := mU_F (mU_T m2) F3 (fun k hk => by simp at hk; omega)
      have ele : ef_Q c p k ≤ 1000 := ef_le
      have pre2 : ∀ r', (far9 (ef_Q c p k) ≠ 9999 → tr_L g (d + 12) m_X9_leastEffort 62 [some (.ref 1099), some (.int x), some (.int y), some (.int (Int32.ofNat (far9 (ef_Q c p k))))] [.ref 1099] h3 r') → (far9 (ef_Q c p k) = 9999 → tr_L g (d + 12) m_X9_leastEffort 58 [some (.ref 1099), some (.int x), some (.int y), some (.int (Int32.ofNat (far9 (ef_Q c p k))))] [.ref 1099] h3 r') → tr_L g (d + 12) m_X9_leastEffort 0 [some (.ref 1099), some (.int x), some (.int y), none] [] h r' := fun r' z1 z2 => pre r' (sg_X9_leastEffort_20 r1.2 (d := d + 11) rc (fun _ => sg_X9_leastEffort_33 r1.2 (d := d + 11) r2 (fun _ => sg_X9_leastEffort_43 r2.2 (d := d + 11) (by rw [e3, e5]; exact r3) (fun t => z1 (fun e => t (by rw [e]; rfl))) (fun t => z2 ((ii_eq (b := 9999) (by unfold far9; split <;> omega) (by omega)).mp t))) (fun t => absurd rfl t)) (fun t => bI1 t))
      by_cases h9 : ef_Q c p k = 1000
      · rw [if_pos h9]
        have r4 := sp_thr1 (g := g) (d := d + 11) (x := 3) L3
        exact ⟨_, mU_UT u3 (mT_set L3), pre2 _ (fun t => absurd ((far9_eq ele).mpr h9) t) (fun _ => sg_X9_leastEffort_58 L3 (d := d + 11) r4 (fun t => absurd t (by decide)) (fun _ => sg_X9_leastEffort_70 r4.2 rfl))⟩
      · rw [if_neg h9]
        have r4 := sp_thr0 (g := g) (d := d + 11) (x := 3) L3
        refine ⟨_, mU_UT u3 (mT_set L3), pre2 _ (fun _ => sg_X9_leastEffort_62 L3 (d := d + 11) r4 (fun _ => sg_X9_leastEffort_74 r4.2 ?_) (fun t => absurd rfl t)) (fun t => absurd ((far9_eq ele).mp t) h9)⟩
        have : far9 (ef_Q c p k) = ef_Q c p k := by unfold far9; rw [if_pos (by omega)]
        rw [this]
        generalize ef_Q c p k = v
        rfl
    · rw [e5] at rc
      simp only [e5]
      have r2 := sp_thr1 (g := g) (d := d + 11) (x := 2) r1.2
      exact ⟨_, mU_T (mT_tr m1 (mT_set r1.2)), pre _ (sg_X9_leastEffort_20 r1.2 (d := d + 11) rc (fun t => absurd rfl t) (fun _ => sg_X9_leastEffort_29 r1.2 (d := d + 11) r2 (fun t => absurd t (by decide)) (fun _ => sg_X9_leastEffort_41 r2.2 rfl)))⟩
  · rw [e3] at rp
    simp only [e3]
    have r1 := sp_thr1 (g := g) (d := d + 11) (x := 1) hL
    exact ⟨_, mU_T (mT_set hL), sg_X9_leastEffort_0 hL (d := d + 11) rp (fun t => absurd rfl t) (fun _ => sg_X9_leastEffort_8 hL (d := d + 11) r1 (fun _ => sg_X9_leastEffort_41 r1.2 rfl) (fun t => absurd t (by decide)))⟩
theorem an_eff_eq {x y : Int32} (w : pQ c n) : an_effort ef_L c n x y = an_effort ef_Q c n x y := by
  have h7 := w.2.1
  unfold an_effort
  rcases idx_c (m := 24) (by omega) x with ⟨p, hp, e3, e4⟩ | ⟨e3, e4⟩
  · rcases idx_c (m := n) (by omega) y with ⟨k, hk, e5, e6⟩ | ⟨e5, e6⟩
    · rw [e4, e6]
      simp only
      rw [agE_of w p hp k hk]
    · rw [e4, e5]
  · rw [e3]
theorem mo_effortL {x y : Int32} (hL : hh_L h) (q : mQ h c n) (hw : co_w c n) : ∃ h', mU h h' (ans (an_effort ef_L c n x y) cd_eff).2 ∧ tr_L g (d + 13) m_X9_leastEffortByRounds 0 [some (.ref 1099), some (.int x), some (.int y)] [] h (.inl (some (.int (ans (an_effort ef_L c n x y) cd_eff).1)), h') := by
  obtain ⟨h', U, r⟩ := mo_effort (g := g) (d := d) (x := x) (y := y) hL q hw
  rw [an_eff_eq q.2]
  exact ⟨h', U, sg_X9_leastEffortByRounds_0 hL (d := d + 12) r rfl⟩
end
