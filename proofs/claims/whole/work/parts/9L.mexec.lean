/-! THE MODEL: execute -/
def om1 (c : CT) (n : Nat) (m : Cmd) : Int32 × Int32 × Int32 × CT := if m.1 = 0 then om_cats c n (Int32.ofNat m.2.1) m.2.2.1 m.2.2.2.1 m.2.2.2.2 else if m.1 = 1 then om_mir c n (Int32.ofNat m.2.1) m.2.2.1 else if m.1 = 2 then om_says c n (Int32.ofNat m.2.1) m.2.2.1 else if m.1 = 3 then om_meth c m.2.2.1 else if m.1 = 4 then om_vote c n else om_ret c n
theorem idx_cell {N : Nat} (hN : N < 100) : (fa_X8_isCell (Int32.ofNat N) = 0 ∧ idx 35 (Int32.ofNat N) = none) ∨ (fa_X8_isCell (Int32.ofNat N) ≠ 0 ∧ idx 35 (Int32.ofNat N) = some N) := by
  rcases fa_cell (x := Int32.ofNat N) with ⟨q, hq, e, e2⟩ | ⟨e, e2⟩
  · have : N = q := (ii_eq (by omega) (by omega)).mp e
    exact Or.inr ⟨by rw [e2]; decide, idx_k (by omega) (by omega)⟩
  · refine Or.inl ⟨e2, ?_⟩
    rcases idx_c (m := 35) (by omega) (Int32.ofNat N) with ⟨k, hk, e3, _⟩ | ⟨e3, _⟩
    · exact absurd e3 (e k hk)
    · exact e3
theorem idx_port {N : Nat} (hN : N < 100) : (fa_X8_isPort (Int32.ofNat N) = 0 ∧ idx 24 (Int32.ofNat N) = none) ∨ (fa_X8_isPort (Int32.ofNat N) ≠ 0 ∧ idx 24 (Int32.ofNat N) = some N) := by
  rcases fa_port (x := Int32.ofNat N) with ⟨q, hq, e, e2⟩ | ⟨e, e2⟩
  · have : N = q := (ii_eq (by omega) (by omega)).mp e
    exact Or.inr ⟨by rw [e2]; decide, idx_k (by omega) (by omega)⟩
  · refine Or.inl ⟨e2, ?_⟩
    rcases idx_c (m := 24) (by omega) (Int32.ofNat N) with ⟨k, hk, e3, _⟩ | ⟨e3, _⟩
    · exact absurd e3 (e k hk)
    · exact e3
/-- the model's change and the class's outcome of one command -/
def om_as (o : Int32 × Int32 × Int32 × CT) (r : Int32 × CT) : Prop := o.2.2.2 = r.2 ∧ r.1 = (if o.1 = 0 then 0 else if o.2.1 = 0 then -1 else o.2.1) ∧ (o.1 = 0 → o.2.1 = 0) ∧ o.2.1 ≠ -1
theorem om_asR {x y z v : Int32} {c : CT} (h : v = (if x = 0 then 0 else if y = 0 then -1 else y)) (h2 : x = 0 → y = 0) (h3 : y ≠ -1) : om_as (x, y, z, c) (v, c) := ⟨rfl, h, h2, h3⟩
theorem om1_cmd {c : CT} {n : Nat} {m : Cmd} (h5 : m.1 ≤ 5) (hN : m.2.1 < 100) (hc : cm_ok m) : om_as (om1 c n m) (cmd1 c n m) := by
  obtain ⟨K, N, a, b, e⟩ := m
  have h6 : K = 0 ∨ K = 1 ∨ K = 2 ∨ K = 3 ∨ K = 4 ∨ K = 5 := by simp only at h5; omega
  obtain ⟨c1, c2, c3⟩ := hc
  simp only at c1 c2 c3 hN
  unfold om1 cmd1
  rcases h6 with rfl | rfl | rfl | rfl | rfl | rfl
  · simp only [if_pos]
    unfold om_cats
    rcases idx_cell hN with ⟨e1, e2⟩ | ⟨e1, e2⟩
    · rw [if_pos e1, e2]
      exact om_asR rfl (fun q => absurd q (by decide)) (by decide)
    · rw [if_neg e1, e2]
      simp only
      by_cases h3 : fa_X8_areThreeOptions a b e = 0
      · rw [if_pos h3, if_pos h3]
        exact om_asR rfl (fun q => absurd q (by decide)) (by decide)
      · rw [if_neg h3, if_neg h3]
        by_cases h7 : n = 7
        · rw [if_pos h7, if_pos h7]
          exact om_asR rfl (fun q => absurd q (by decide)) (by decide)
        · rw [if_neg h7, if_neg h7]
          by_cases h8 : ct_cat c n (Int32.ofNat N) < n
          · rw [if_pos h8, if_pos h8]
            exact om_asR rfl (fun q => absurd q (by decide)) (by decide)
          · rw [if_neg h8, if_neg h8]
            exact om_asR rfl (fun _ => rfl) (by decide)
  · simp only [if_neg (show ¬ (1 : Nat) = 0 by decide), if_pos]
    unfold om_mir
    rcases idx_cell hN with ⟨e1, e2⟩ | ⟨e1, e2⟩
    · rw [if_pos e1, e2]
      exact om_asR rfl (fun q => absurd q (by decide)) (by decide)
    · rw [if_neg e1, e2]
      have hk : ¬ fa_X8_isContent a = 0 := by
        have := c1 rfl
        simp only [wCon, List.mem_cons, List.not_mem_nil, or_false] at this
        rcases this with rfl | rfl | rfl <;> decide
      simp only
      rw [if_neg hk]
      by_cases h8 : ct_cat c n (Int32.ofNat N) < n
      · rw [if_pos h8, if_pos h8]
        exact om_asR rfl (fun q => absurd q (by decide)) (by decide)
      · rw [if_neg h8, if_neg h8]
        exact om_asR rfl (fun _ => rfl) (by decide)
  · simp only [if_neg (show ¬ (2 : Nat) = 0 by decide), if_neg (show ¬ (2 : Nat) = 1 by decide), if_pos]
    unfold om_says
    rcases idx_port hN with ⟨e1, e2⟩ | ⟨e1, e2⟩
    · rw [if_pos e1, e2]
      exact om_asR rfl (fun q => absurd q (by decide)) (by decide)
    · rw [if_neg e1, e2]
      have hk : ∃ o, o < 4 ∧ ox a = some o ∧ a - 97 = Int32.ofNat o := by
        have := c2 rfl
        simp only [wOpt, List.mem_cons, List.not_mem_nil, or_false] at this
        rcases this with rfl | rfl | rfl | rfl
        · exact ⟨0, by decide, rfl, rfl⟩
        · exact ⟨1, by decide, rfl, rfl⟩
        · exact ⟨2, by decide, rfl, rfl⟩
        · exact ⟨3, by decide, rfl, rfl⟩
      obtain ⟨o, ho, e3, e4⟩ := hk
      simp only [e3, e4]
      by_cases h8 : ry_cat c n (ct_ry c N).1 = -1
      · rw [if_pos h8, if_pos h8]
        exact om_asR rfl (fun q => absurd q (by decide)) (by decide)
      · rw [if_neg h8, if_neg h8]
        exact om_asR rfl (fun _ => rfl) (by decide)
  · simp only [if_neg (show ¬ (3 : Nat) = 0 by decide), if_neg (show ¬ (3 : Nat) = 1 by decide), if_neg (show ¬ (3 : Nat) = 2 by decide), if_pos]
    unfold om_meth
    have hk : ¬ fa_X8_isMethod a = 0 := by
      have := c3 rfl
      simp only [wPrs, List.mem_cons, List.not_mem_nil, or_false] at this
      rcases this with rfl | rfl | rfl <;> decide
    rw [if_neg hk]
    exact om_asR rfl (fun _ => rfl) (by decide)
  · simp only [if_neg (show ¬ (4 : Nat) = 0 by decide), if_neg (show ¬ (4 : Nat) = 1 by decide), if_neg (show ¬ (4 : Nat) = 2 by decide), if_neg (show ¬ (4 : Nat) = 3 by decide), if_pos]
    unfold om_vote
    by_cases h0 : n = 0
    · rw [if_pos h0, if_pos h0]
      exact om_asR rfl (fun q => absurd q (by decide)) (by decide)
    · rw [if_neg h0, if_neg h0]
      exact om_asR rfl (fun _ => rfl) (by decide)
  · simp only [if_neg (show ¬ (5 : Nat) = 0 by decide), if_neg (show ¬ (5 : Nat) = 1 by decide), if_neg (show ¬ (5 : Nat) = 2 by decide), if_neg (show ¬ (5 : Nat) = 3 by decide), if_neg (show ¬ (5 : Nat) = 4 by decide)]
    unfold om_ret
    by_cases h0 : ct_may c = 0
    · rw [if_pos h0, if_pos h0]
      exact om_asR rfl (fun q => absurd q (by decide)) (by decide)
    · rw [if_neg h0, if_neg h0]
      exact om_asR rfl (fun _ => rfl) (by decide)
section
variable {g : tr_g} {d : Nat} {h h' : ev_AH} {c : CT} {n B : Nat} {P : List CT} {S : Option CT} {y : YS} {l t : List Int32}
theorem sp_does {m : Cmd} {b : Nat} (hL : hh_L h) (q : mQ h c n) (w : cw c n B) (hB : B < 100000) (h12 : hh_i h 99 12 = 0) (h70 : hh_i h 99 7 = 0) (hb : b + 4 < 155) (hE : cE (hh_a h 108) b m) : ∃ h' v, tr_L g (d + 7) m_X9_does 0 [some (.ref 1099), some (.int (Int32.ofNat b)), none, none] [] h (.inl (some (.int v)), h') ∧ mO h h' (om1 c n m) := by
  have i1 : ∀ j, (Int32.ofNat b + Int32.ofNat j) = Int32.ofNat (b + j) := fun j => ii_a b j
  obtain ⟨K, N, a, x, e⟩ := m
  unfold om1
  rcases hE with ⟨rfl, a0, a1, a2, a3, a4⟩ | ⟨rfl, a0, a1, a2⟩ | ⟨rfl, a0, a1, a2⟩ | ⟨rfl, a0, a1⟩ | ⟨rfl, a0⟩ | ⟨rfl, a0⟩
  · simp only at a1 a2 a3 a4
    simp only [if_pos]
    obtain ⟨h2, r2, m2⟩ := sp_catsM (g := g) (d := d + 3) (x := Int32.ofNat N) (a := a) (b := x) (e := e) hL q w h12
    exact ⟨h2, _, sg_X9_does_0_t99 hL (i1 1) (by omega) (i1 2) (by omega) rfl (by omega) a0 (sg_X9_does_76 hL (d := d + 6) (i1 3) (by omega) (i1 4) (by omega) (by rw [a1, a2, a3, a4]; exact r2) rfl), m2⟩
  · simp only at a1 a2
    simp only [if_neg (show ¬ (1 : Nat) = 0 by decide), if_pos]
    obtain ⟨h2, r2, m2⟩ := sp_mirrorM (g := g) (d := d + 3) (x := Int32.ofNat N) (a := a) hL q w h12
    exact ⟨h2, _, sg_X9_does_0_t109 hL (i1 1) (by omega) (i1 2) (by omega) rfl (by omega) a0 (sg_X9_does_99 hL (d := d + 6) (by rw [a1, a2]; exact r2) rfl), m2⟩
  · simp only at a1 a2
    simp only [if_neg (show ¬ (2 : Nat) = 0 by decide), if_neg (show ¬ (2 : Nat) = 1 by decide), if_pos]
    obtain ⟨h2, r2, m2⟩ := sp_saysM (g := g) (d := d + 3) (x := Int32.ofNat N) (a := a) hL q w (R_end_of w.2.2.1) h12
    exact ⟨h2, _, sg_X9_does_0_t115 hL (i1 1) (by omega) (i1 2) (by omega) rfl (by omega) a0 (sg_X9_does_112 hL (d := d + 6) (by rw [a1, a2]; exact r2) rfl), m2⟩
  · simp only at a1
    simp only [if_neg (show ¬ (3 : Nat) = 0 by decide), if_neg (show ¬ (3 : Nat) = 1 by decide), if_neg (show ¬ (3 : Nat) = 2 by decide), if_pos]
    obtain ⟨h2, r2, m2⟩ := sp_methM (g := g) (d := d + 5) (x := a) hL q w.2.1 h12
    exact ⟨h2, _, sg_X9_does_0_t101 hL (i1 1) (by omega) (i1 2) (by omega) rfl (by omega) a0 (sg_X9_does_106 hL (d := d + 6) (by rw [a1]; exact r2) rfl), m2⟩
  · simp only [if_neg (show ¬ (4 : Nat) = 0 by decide), if_neg (show ¬ (4 : Nat) = 1 by decide), if_neg (show ¬ (4 : Nat) = 2 by decide), if_neg (show ¬ (4 : Nat) = 3 by decide), if_pos]
    obtain ⟨h2, r2, m2⟩ := sp_votesAll (g := g) (d := d) hL q w hB (exS_of w.1.2.1) h12 h70
    exact ⟨h2, _, sg_X9_does_0_t118 hL (i1 1) (by omega) (i1 2) (by omega) rfl (by omega) a0 (sg_X9_does_119 hL (d := d + 6) r2 rfl), m2⟩
  · simp only [if_neg (show ¬ (5 : Nat) = 0 by decide), if_neg (show ¬ (5 : Nat) = 1 by decide), if_neg (show ¬ (5 : Nat) = 2 by decide), if_neg (show ¬ (5 : Nat) = 3 by decide), if_neg (show ¬ (5 : Nat) = 4 by decide)]
    obtain ⟨h2, r2, m2⟩ := sp_retM (g := g) (d := d + 3) hL q w h12
    exact ⟨h2, _, sg_X9_does_0_td hL (i1 1) (by omega) (i1 2) (by omega) rfl (by omega) (by rw [a0]; rfl) (sg_X9_does_124 hL (d := d + 6) r2 rfl), m2⟩
end
