/-! THE FACE: whether all agrees; the output -/
section
variable {g : tr_g} {d : Nat} {h : ev_AH} {c : CT} {n : Nat}
/-- what is true of rays, efforts and strengths (proved elsewhere) -/
def ag_R (c : CT) : Prop := ∀ p, p < 24 → ii_o (jo (ct_c c) p) 24 = ry_ex (ct_ry c p).1 ∧ (ry_ex (ct_ry c p).1 ≠ -1 → ∃ p', p' < 24 ∧ ry_ex (ct_ry c p).1 = Int32.ofNat p' ∧ ry_ex (ct_ry c p').1 = Int32.ofNat p)
def ag_E (c : CT) (n : Nat) : Prop := ∀ p, p < 24 → ∀ k, k < n → ef_Q c p k = ef_L c p k
def ag_S (c : CT) (n : Nat) : Prop := ∀ a, a < 4 → ∀ b, b < 4 → a ≠ b → tI (ct_st c n) a b = Int32.ofNat (ct_ty c n a b n)
theorem sp_raysAgree (hL : hh_L h) (q : cQ h c n) (A : ag_R c) : ∃ h', hh_F kW h h' ∧ tr_L g (d + 12) m_X8_raysAgree 0 [some (.ref 1000), none, none] [] h (.inl (some (.int 1)), h') := by
  obtain ⟨h1, r1, F1, z⟩ := sp_joinAll (g := g) (d := d + 7) hL q.1 q.2.2.2.1.1
  have loop : ∀ (m p : Nat) (w2 : Option Value) (h : ev_AH), p + m = 24 → hh_L h → cQ h c n → pR h (jP (ct_c c)) → ∃ h', hh_F kW h h' ∧ tr_L g (d + 12) m_X8_raysAgree 13 [some (.ref 1000), some (.int (Int32.ofNat p)), w2] [] h (.inl (some (.int 1)), h') := by
    intro m
    induction m with
    | zero =>
      intro p w2 h hp hL q z
      have : p = 24 := by omega
      subst this
      exact ⟨h, hh_F_rf, sg_X8_raysAgree_13 hL (fun _ => sg_X8_raysAgree_89 hL rfl) (fun t => absurd t (by decide))⟩
    | succ m ih =>
      intro p w2 h hp hL q z
      have hp24 : p < 24 := by omega
      obtain ⟨h1, r1, L1, F1, z0, z1, z2, z3⟩ := sp_fol (g := g) (d := d) hL q hp24
      have q1 := cQ_F F1 (fun j hj => by simp; omega) q
      have zz := pR_F F1 (by decide) z
      have r2 := sp_otherEnd (g := g) (d := d + 8) L1 zz hp24
      obtain ⟨a1, a2⟩ := A p hp24
      have pre : ∀ r, tr_L g (d + 12) m_X8_raysAgree 53 [some (.ref 1000), some (.int (Int32.ofNat p)), some (.int (ry_ex (ct_ry c p).1))] [] h1 r → tr_L g (d + 12) m_X8_raysAgree 13 [some (.ref 1000), some (.int (Int32.ofNat p)), w2] [] h r := fun r k =>
        sg_X8_raysAgree_13 hL (fun t => absurd ((ii_le (a := 24) (by omega) (by omega)).mp t) (by omega)) (fun _ => sg_X8_raysAgree_19 hL (d := d + 11) r1 r2 (fun _ => by rw [z0]; exact k) (fun t => absurd (by rw [z0]; exact a1) t))
      have W1 : hh_F kW h h1 := hh_F_w F1 (by decide)
      by_cases he : ry_ex (ct_ry c p).1 = -1
      · obtain ⟨h3, F3, r3⟩ := ih (p + 1) (some (.int (ry_ex (ct_ry c p).1))) h1 (by omega) L1 q1 zz
        exact ⟨h3, hh_F_tr W1 F3, pre _ (sg_X8_raysAgree_53 L1 (fun _ => sg_X8_raysAgree_83 L1 (by rw [ii_s]; exact r3)) (fun t => absurd he t))⟩
      · obtain ⟨p', hp', e1, e2⟩ := a2 he
        obtain ⟨h2, s1, L2, F2, y0, y1, y2, y3⟩ := sp_fol (g := g) (d := d) L1 q1 hp'
        have q2 := cQ_F F2 (fun j hj => by simp; omega) q1
        have zz2 := pR_F F2 (by decide) zz
        obtain ⟨h3, F3, r3⟩ := ih (p + 1) (some (.int (ry_ex (ct_ry c p).1))) h2 (by omega) L2 q2 zz2
        refine ⟨h3, hh_F_tr W1 (hh_F_tr (hh_F_w F2 (by decide)) F3), pre _ (sg_X8_raysAgree_53 L1 (fun t => absurd t he) (fun _ => sg_X8_raysAgree_58 L1 (d := d + 11) (by rw [e1]; exact s1) (fun _ => sg_X8_raysAgree_83 L2 (by rw [ii_s]; exact r3)) (fun t => absurd (by rw [y0]; exact e2) t)))⟩
  have q1 := cQ_F F1 (fun j hj => by simp; omega) q
  obtain ⟨h3, F3, r3⟩ := loop 24 0 none h1 (by omega) r1.2 q1 z
  exact ⟨h3, hh_F_tr (hh_F_w F1 (by decide)) F3, sg_X8_raysAgree_0 hL (d := d + 11) r1 r3⟩
theorem sp_effortsAgree (hL : hh_L h) (q : cQ h c n) (A : ag_E c n) : ∃ h', hh_F kW h h' ∧ tr_L g (d + 12) m_X8_effortsAgree 0 [some (.ref 1000), none, none, none] [] h (.inl (some (.int 1)), h') := by
  have h7 := q.2.2.1
  have inner : ∀ (m k p : Nat) (w3 : Option Value) (h : ev_AH) (r : ev_O × ev_AH), k + m = n → p < 24 → hh_L h → cQ h c n → eR h 84 (sq (ct_c c) 512 (E0 p, [pe p])).1 → eR h 87 (sr (ct_c c) 140 (E0 p)) → (∀ w2 w3, tr_L g (d + 12) m_X8_effortsAgree 94 [some (.ref 1000), some (.int (Int32.ofNat p)), w2, w3] [] h r) → tr_L g (d + 12) m_X8_effortsAgree 44 [some (.ref 1000), some (.int (Int32.ofNat p)), some (.int (Int32.ofNat k)), w3] [] h r := by
    intro m
    induction m with
    | zero =>
      intro k p w3 h r hk hp hL q e1 e2 kk
      have e6 : hh_i h 1 6 = Int32.ofNat n := by rw [← q.2.1]; exact cq_i q (k := 0) (by omega)
      have : k = n := by omega
      subst this
      exact sg_X8_effortsAgree_44 hL (fun _ => kk _ _) (fun t => by rw [e6] at t; exact absurd ((ii_lt (by omega) (by omega)).mp t) (by omega))
    | succ m ih =>
      intro k p w3 h r hk hp hL q e1 e2 kk
      have e6 : hh_i h 1 6 = Int32.ofNat n := by rw [← q.2.1]; exact cq_i q (k := 0) (by omega)
      have hkn : k < n := by omega
      obtain ⟨w1, w2⟩ := ce_qI q hkn
      have r2 : tr_L g (d + 11) m_X8_at 0 [some (.ref 1003), some (.int (Int32.ofNat k))] [] h (.inl (some (.int (Int32.ofNat (ce_q c k)))), h) := by
        rw [← w2]
        have := sp_atL (g := g) (d := d + 11) (a := 3) (k := k) hL rfl (by omega) (by omega)
        rw [show hh_a h 3 = ct_ce c by rw [← q.1]; rfl] at this
        exact this
      have r3 := sp_effortQ (g := g) (d := d + 10) (q := ce_q c k) hL e1 w1
      have r4 := sp_effortL (g := g) (d := d + 10) (q := ce_q c k) hL e2 w1
      have ag : ef_Q c p k = ef_L c p k := A p hp k hkn
      refine sg_X8_effortsAgree_44 hL (fun t => by rw [e6] at t; exact absurd ((ii_le (by omega) (by omega)).mp t) (by omega)) (fun _ => sg_X8_effortsAgree_55 hL (d := d + 11) r2 r3 r4 (fun _ => sg_X8_effortsAgree_88 hL (by rw [ii_s]; exact ih (k + 1) p _ h r (by omega) hp hL q e1 e2 kk)) (fun t => absurd ?_ t))
      show Int32.ofNat (ef_Q c p k) = Int32.ofNat (ef_L c p k)
      rw [ag]
  have outer : ∀ (m p : Nat) (h : ev_AH), p + m = 24 → hh_L h → cQ h c n → ∃ h', hh_F kW h h' ∧ ∀ w2 w3, tr_L g (d + 12) m_X8_effortsAgree 2 [some (.ref 1000), some (.int (Int32.ofNat p)), w2, w3] [] h (.inl (some (.int 1)), h') := by
    intro m
    induction m with
    | zero =>
      intro p h hp hL q
      have : p = 24 := by omega
      subst this
      exact ⟨h, hh_F_rf, fun w2 w3 => sg_X8_effortsAgree_2 hL (fun _ => sg_X8_effortsAgree_100 hL rfl) (fun t => absurd t (by decide))⟩
    | succ m ih =>
      intro p h hp hL q
      have hp24 : p < 24 := by omega
      have e6 : hh_i h 1 6 = Int32.ofNat n := by rw [← q.2.1]; exact cq_i q (k := 0) (by omega)
      by_cases hn : n = 0
      · exact ⟨h, hh_F_rf, fun w2 w3 => sg_X8_effortsAgree_2 hL (fun t => absurd ((ii_le (a := 24) (by omega) (by omega)).mp t) (by omega)) (fun _ => sg_X8_effortsAgree_8 hL (fun _ => sg_X8_effortsAgree_100 hL rfl) (fun t => by rw [e6, hn] at t; exact absurd t (by decide)))⟩
      · obtain ⟨h1, r1, F1, z1⟩ := sp_searchQ (g := g) (d := d + 7) hL q.1 q.2.2.2.1.1 hp24
        have q1 := cQ_F F1 (fun j hj => by simp; omega) q
        obtain ⟨h2, r2, F2, z2⟩ := sp_searchL (g := g) (d := d + 8) r1.2 q1.1 q1.2.2.2.1.1 hp24
        have q2 := cQ_F F2 (fun j hj => by simp; omega) q1
        have z1' := eR_F F2 (by decide) z1
        obtain ⟨h3, F3, r3⟩ := ih (p + 1) h2 (by omega) r2.2 q2
        refine ⟨h3, hh_F_tr (hh_F_w F1 (by decide)) (hh_F_tr (hh_F_w F2 (by decide)) F3), fun w2 w3 => sg_X8_effortsAgree_2 hL (fun t => absurd ((ii_le (a := 24) (by omega) (by omega)).mp t) (by omega)) (fun _ => sg_X8_effortsAgree_8 hL (fun t => by rw [e6] at t; exact absurd ((ii_le (b := 0) (by omega) (by omega)).mp t) (by omega)) (fun _ => sg_X8_effortsAgree_18 hL (d := d + 11) r1 r2 (inner n 0 p _ h2 _ (by omega) hp24 r2.2 q2 z1' z2 (fun w2 w3 => sg_X8_effortsAgree_94 r2.2 (by rw [ii_s]; exact r3 w2 w3)))))⟩
  obtain ⟨h3, F3, r3⟩ := outer 24 0 h (by omega) hL q
  exact ⟨h3, F3, sg_X8_effortsAgree_0 hL (r3 none none)⟩
theorem sp_strengthsAgree (hL : hh_L h) (q : cQ h c n) (A : ag_S c n) : ∃ h', hh_F kW h h' ∧ tr_L g (d + 12) m_X8_strengthsAgree 0 [some (.ref 1000), none, none] [] h (.inl (some (.int 1)), h') := by
  have h7 := q.2.2.1
  obtain ⟨h', r1, F, z, z2⟩ := sp_fill (g := g) (d := d + 8) hL q.1 q.2.1 q.2.2.1 q.2.2.2.2.2
  have q' := cQ_F F (fun j hj => by simp; omega) q
  have L' := r1.2
  have e6 : hh_i h' 1 6 = Int32.ofNat n := by rw [← q.2.1]; exact cq_i q' (k := 0) (by omega)
  have inner : ∀ (m a b : Nat) (r : ev_O × ev_AH), b + m = 4 → a < 4 → tr_L g (d + 12) m_X8_strengthsAgree 66 [some (.ref 1000), some (.int (Int32.ofNat a)), some (.int 4)] [] h' r → tr_L g (d + 12) m_X8_strengthsAgree 20 [some (.ref 1000), some (.int (Int32.ofNat a)), some (.int (Int32.ofNat b))] [] h' r := by
    intro m
    induction m with
    | zero =>
      intro a b r hb ha kk
      have : b = 4 := by omega
      subst this
      exact sg_X8_strengthsAgree_20 L' (fun _ => kk) (fun t => absurd t (by decide))
    | succ m ih =>
      intro a b r hb ha kk
      have nx := ih a (b + 1) r (by omega) ha kk
      refine sg_X8_strengthsAgree_20 L' (fun t => absurd ((ii_le (a := 4) (by omega) (by omega)).mp t) (by omega)) (fun _ => sg_X8_strengthsAgree_25 L' (fun _ => sg_X8_strengthsAgree_60 L' (by rw [ii_s]; exact nx)) (fun t => ?_))
      have hab : a ≠ b := fun e => t (by rw [e])
      have r2 := sp_table (g := g) (d := d + 10) (a := a) (b := b) L' ha (by omega)
      rw [z2, A a ha b (by omega) hab] at r2
      have r3 := sp_tried (g := g) (d := d + 8) (a := a) (b := b) (m := n) L' z ha (by omega) (by omega)
      exact sg_X8_strengthsAgree_30 L' (d := d + 11) r2 (by rw [e6]; exact r3) (fun _ => sg_X8_strengthsAgree_60 L' (by rw [ii_s]; exact nx)) (fun t => absurd rfl t)
  have outer : ∀ (m a : Nat) (w : Option Value), a + m = 4 → tr_L g (d + 12) m_X8_strengthsAgree 13 [some (.ref 1000), some (.int (Int32.ofNat a)), w] [] h' (.inl (some (.int 1)), h') := by
    intro m
    induction m with
    | zero =>
      intro a w ha
      have : a = 4 := by omega
      subst this
      exact sg_X8_strengthsAgree_13 L' (fun _ => sg_X8_strengthsAgree_72 L' rfl) (fun t => absurd t (by decide))
    | succ m ih =>
      intro a w ha
      refine sg_X8_strengthsAgree_13 L' (fun t => absurd ((ii_le (a := 4) (by omega) (by omega)).mp t) (by omega)) (fun _ => sg_X8_strengthsAgree_18 L' (inner 4 a 0 _ (by omega) (by omega) (sg_X8_strengthsAgree_66 L' (by rw [ii_s]; exact ih (a + 1) _ (by omega)))))
  exact ⟨h', hh_F_w F (by decide), sg_X8_strengthsAgree_0 hL (d := d + 11) r1 (outer 4 0 none (by omega))⟩
theorem op_consistent (hL : hh_L h) (q : cQ h c n) (A1 : ag_R c) (A2 : ag_E c n) (A3 : ag_S c n) : ∃ h', hh_F kW h h' ∧ tr_L g (d + 13) m_X8_isConsistent 0 [some (.ref 1000)] [] h (.inl (some (.int (if ct_heard c n = ct_i c 5 then 1 else 0))), h') := by
  obtain ⟨h1, F1, r1⟩ := sp_raysAgree (g := g) (d := d) hL q A1
  have q1 := cQ_F F1 (fun j hj => by simp; omega) q
  obtain ⟨h2, F2, r2⟩ := sp_effortsAgree (g := g) (d := d) r1.2 q1 A2
  have q2 := cQ_F F2 (fun j hj => by simp; omega) q1
  obtain ⟨h3, F3, r3⟩ := sp_strengthsAgree (g := g) (d := d) r2.2 q2 A3
  have q3 := cQ_F F3 (fun j hj => by simp; omega) q2
  have r4 := sp_countHeard (g := g) (d := d + 11) r3.2 q3.1 q3.2.1 q3.2.2.1
  have e11 : hh_i h3 1 11 = ct_i c 5 := cq_i q3 (k := 5) (by omega)
  refine ⟨h3, hh_F_tr F1 (hh_F_tr F2 F3), sg_X8_isConsistent_0 hL (d := d + 12) r1 (fun t => absurd t (by decide)) (fun _ => sg_X8_isConsistent_7 r1.2 (d := d + 12) r2 (fun t => absurd t (by decide)) (fun _ => sg_X8_isConsistent_14 r2.2 (d := d + 12) r3 (fun t => absurd t (by decide)) (fun _ => ?_)))⟩
  by_cases he : ct_heard c n = ct_i c 5
  · rw [if_pos he]
    exact sg_X8_isConsistent_21 r3.2 (d := d + 12) r4 (fun t => absurd (by rw [e11]; exact he) t) (fun _ => sg_X8_isConsistent_38 r3.2 rfl)
  · rw [if_neg he]
    exact sg_X8_isConsistent_21 r3.2 (d := d + 12) r4 (fun _ => sg_X8_isConsistent_42 r3.2 rfl) (fun t => absurd (by rw [e11] at t; exact t) he)
/-! the output -/
def rch (c : CT) (n q : Nat) : Int32 := if (ct_co c).getD q 0 = 99 then Int32.ofNat (48 + ct_cat c n (Int32.ofNat q)) else (ct_co c).getD q 0
/-- cells hold what may be, and a cat where they say so -/
def co_ok (c : CT) (n : Nat) : Prop := ∀ q, q < 35 → sb_c ((ct_co c).getD q 0) ∧ ((ct_co c).getD q 0 = 99 → ct_cat c n (Int32.ofNat q) < n)
def rowN (c : CT) (n r : Nat) : Nat → List Int32
  | 0 => []
  | k + 1 => rowN c n r k ++ [rch c n (7 * r + k)]
theorem rowN_len {c : CT} {n r : Nat} : ∀ k, (rowN c n r k).length = k
  | 0 => rfl
  | k + 1 => by rw [rowN, List.length_append, rowN_len k]; rfl
theorem fa_dig : ∀ k, k < 10 → fa_X8_digitOf (Int32.ofNat k) = Int32.ofNat (48 + k) := by decide +kernel
def an_row (c : CT) (n : Nat) (x : Int32) : (Int32 ⊕ Nat) × Option (List Int32) := match idx 5 x with
  | none => (.inr 0, none)
  | some r => (.inl 7, some (rowN c n r 7))
theorem op_row {x : Int32} {l : List Int32} (hL : hh_L h) (q : cQ h c n) (hco : co_ok c n) (s : sbo h l) : ∃ h', hh_F [96, 97] h h' ∧ tr_L g (d + 12) m_X8_writeRow 0 [some (.ref 1000), some (.int x), none, none, none] [] h (ro (an_row c n x).1 h') ∧ sbo h' ((an_row c n x).2.getD l) := by
  have h7 := q.2.2.1
  unfold an_row
  rcases idx_c (m := 5) (by omega) x with ⟨r, hr, e3, e4⟩ | ⟨e3, e4⟩
  · rw [e4]
    have loop : ∀ (m k : Nat) (w3 w4 : Option Value) (h : ev_AH), k + m = 7 → hh_L h → cQ h c n → sbo h (rowN c n r k) → ∃ h', hh_F [96, 97] h h' ∧ tr_L g (d + 12) m_X8_writeRow 30 [some (.ref 1000), some (.int x), some (.int (Int32.ofNat k)), w3, w4] [] h (.inl (some (.int 7)), h') ∧ sbo h' (rowN c n r 7) := by
      intro m
      induction m with
      | zero =>
        intro k w3 w4 h hk hL q s
        have : k = 7 := by omega
        subst this
        have rl := sb_len_o (g := g) (d := d + 10) hL s.1
        rw [rowN_len] at rl
        exact ⟨h, hh_F_rf, sg_X8_writeRow_30 hL (fun _ => sg_X8_writeRow_93 hL (d := d + 11) rl rfl) (fun t => absurd t (by decide)), s⟩
      | succ m ih =>
        intro k w3 w4 h hk hL q s
        have hq : 7 * r + k < 35 := by omega
        have e0 : hh_a h 2 = ct_co c := by rw [← q.1]; rfl
        have ei : 7 * x + Int32.ofNat k = Int32.ofNat (7 * r + k) := by
          rw [e3, show (7 : Int32) = Int32.ofNat 7 from rfl, ii_m, ii_a]
        have ok := q.2.2.2.1.1
        have r1 : tr_L g (d + 11) m_X8_at_ 0 [some (.ref 1002), some (.int (7 * x + Int32.ofNat k))] [] h (.inl (some (.int ((ct_co c).getD (7 * r + k) 0))), h) := by
          rw [ei, ← e0]
          exact sp_atcL (a := 2) hL rfl (by omega) (by omega) (by rw [e0]; exact ok)
        obtain ⟨c1, c2⟩ := hco _ hq
        have pre := fun (rr : ev_O × ev_AH) y z => sg_X8_writeRow_30 (g := g) (h := h) (r := rr) (x1 := x) (x2 := Int32.ofNat k) (w3 := w3) (w4 := w4) hL (d := d + 12) (fun t => absurd ((ii_le (a := 7) (by omega) (by omega)).mp t) (by omega)) (fun _ => sg_X8_writeRow_36 hL (d := d + 11) r1 y z)
        by_cases h99 : (ct_co c).getD (7 * r + k) 0 = 99
        · have hc := c2 h99
          have f := sp_findCat (g := g) (d := d + 10) (x := Int32.ofNat (7 * r + k)) hL q.1 q.2.1 q.2.2.1
          rw [ii_o, if_pos hc] at f
          have g1 := sa_X8_digitOf (g := g) (d := d + 11) (x0 := Int32.ofNat (ct_cat c n (Int32.ofNat (7 * r + k)))) hL
          rw [fa_dig _ (by omega)] at g1
          obtain ⟨h1, a1, F1, s1⟩ := sbo_app (g := g) (d := d + 9) (x := Int32.ofNat (48 + ct_cat c n (Int32.ofNat (7 * r + k)))) hL ⟨_, by omega, rfl⟩ s (by rw [rowN_len]; omega)
          have er : rowN c n r k ++ [Int32.ofNat (48 + ct_cat c n (Int32.ofNat (7 * r + k)))] = rowN c n r (k + 1) := by rw [rowN, rch, if_pos h99]
          rw [er] at s1
          have q1 := cQ_F F1 (fun j hj => by simp; omega) q
          obtain ⟨h2, F2, r2, s2⟩ := ih (k + 1) (some (.int (7 * x + Int32.ofNat k))) (some (.int 99)) h1 (by omega) a1.2 q1 s1
          refine ⟨h2, hh_F_tr F1 F2, pre _ (fun t => absurd h99 t) (fun _ => ?_), s2⟩
          rw [h99]
          exact sg_X8_writeRow_67 hL (d := d + 11) (by rw [ei]; exact f) g1 a1 (by rw [ii_s]; exact r2)
        · obtain ⟨h1, a1, F1, s1⟩ := sbo_app (g := g) (d := d + 9) (x := (ct_co c).getD (7 * r + k) 0) hL c1 s (by rw [rowN_len]; omega)
          have er : rowN c n r k ++ [(ct_co c).getD (7 * r + k) 0] = rowN c n r (k + 1) := by rw [rowN, rch, if_neg h99]
          rw [er] at s1
          have q1 := cQ_F F1 (fun j hj => by simp; omega) q
          obtain ⟨h2, F2, r2, s2⟩ := ih (k + 1) (some (.int (7 * x + Int32.ofNat k))) (some (.int ((ct_co c).getD (7 * r + k) 0))) h1 (by omega) a1.2 q1 s1
          exact ⟨h2, hh_F_tr F1 F2, pre _ (fun _ => sg_X8_writeRow_81 hL (d := d + 11) a1 (by rw [ii_s]; exact r2)) (fun t => absurd t h99), s2⟩
    obtain ⟨h1, a1, F1, s1⟩ := sbo_clr (g := g) (d := d + 9) hL s
    have q1 := cQ_F F1 (fun j hj => by simp; omega) q
    obtain ⟨h2, F2, r2, s2⟩ := loop 7 0 none none h1 (by omega) a1.2 q1 s1
    refine ⟨h2, hh_F_tr F1 F2, sg_X8_writeRow_0 hL (fun t => ?_) (fun _ => sg_X8_writeRow_4 hL (fun _ => sg_X8_writeRow_20 hL (d := d + 11) a1 r2) (fun t => ?_)), s2⟩
    · rw [e3] at t
      exact absurd t (Int32.not_lt.mpr (ii_nn (by omega)))
    · rw [e3] at t
      exact absurd ((ii_le (a := 5) (by omega) (by omega)).mp t) (by omega)
  · rw [e3]
    refine ⟨h, hh_F_rf, sg_X8_writeRow_0 hL (fun _ => sg_X8_writeRow_9 hL rfl) (fun t => sg_X8_writeRow_4 hL (fun t2 => ?_) (fun _ => sg_X8_writeRow_9 hL rfl)), s⟩
    obtain ⟨p, hp, e⟩ := ii_of2 (n := 5) (by omega) t t2
    exact absurd e (e4 p hp)
/-- what writeCat writes -/
def catN (c : CT) (n k : Nat) : Nat → List Int32
  | 0 => dgs k ++ [64] ++ dgs (ce_q c k) ++ [58]
  | p + 1 => catN c n k p ++ [fa_X8_letterOf (ct_opt c k p)]
def he_n (c : CT) (k : Nat) : Nat := ((ct_he c).getD k 0).toNatClampNeg
def catA (c : CT) (n k : Nat) : List Int32 := if he_n c k = 0 then catN c n k 4 else catN c n k 4 ++ [43] ++ dgs (he_n c k)
def he_ok (c : CT) (n : Nat) : Prop := ∀ k, k < n → ∃ m, m < 1000 ∧ (ct_he c).getD k 0 = Int32.ofNat m
theorem he_nI {k : Nat} (a : he_ok c n) (hk : k < n) : he_n c k < 1000 ∧ (ct_he c).getD k 0 = Int32.ofNat (he_n c k) := by
  obtain ⟨m, hm, e⟩ := a k hk
  have : he_n c k = m := by rw [he_n, e, ii_cn (by omega)]
  rw [this]
  exact ⟨hm, e⟩
theorem dgs_len (k : Nat) : (dgs k).length ≤ 3 := by
  unfold dgs
  repeat' split
  all_goals simp
theorem dgs_len1 {k : Nat} (h : k < 10) : (dgs k).length = 1 := by rw [dgs, if_pos h]; rfl
theorem dgs_len2 {k : Nat} (h : k < 100) : (dgs k).length ≤ 2 := by
  unfold dgs
  repeat' split
  all_goals first | (simp; done) | omega
theorem catN_len {k : Nat} (hk : k < 10) (hq : ce_q c k < 35) : ∀ p, (catN c n k p).length ≤ 5 + p
  | 0 => by
    have := dgs_len1 hk
    have := dgs_len2 (show ce_q c k < 100 by omega)
    simp only [catN, List.length_append, List.length_singleton]
    omega
  | p + 1 => by
    have := catN_len hk hq p
    simp only [catN, List.length_append, List.length_singleton]
    omega
theorem fa_let : ∀ o, o < 4 → fa_X8_letterOf (Int32.ofNat o) = Int32.ofNat (97 + o) := by decide +kernel
def an_cat (c : CT) (n : Nat) (x : Int32) : (Int32 ⊕ Nat) × Option (List Int32) := match idx n x with
  | none => (.inr 0, none)
  | some k => (.inl (Int32.ofNat (catA c n k).length), some (catA c n k))
theorem o96 {h : ev_AH} (hL : hh_L h) : h.1[96]? = some (.inr (9, hh_v h 96)) := (hh_obj hL (k := 96) rfl).1
def an_outAt (l : List Int32) (x : Int32) : Int32 ⊕ Nat := match idx l.length x with
  | none => .inr 0
  | some k => .inl (l.getD k 0)
/-! rejections and errors as they are kept -/
def an_fld (z b v : Int32) : Int32 ⊕ Nat := if z = b then .inr 3 else .inl v
end
