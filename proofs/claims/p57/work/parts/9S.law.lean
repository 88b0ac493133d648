/-! THE LAW: its beginning behind the constructor, its seven acts, its end -/
/-- a sum of k answers -/
def bd (x : Int32) (k : Nat) : Prop := -900003 * (k : Int) ≤ x.toInt ∧ x.toInt ≤ 100000 * (k : Int)
theorem bd_0 : bd 0 0 := ⟨by decide, by decide⟩
theorem bd_add {x v : Int32} {j k : Nat} (hk : j + k ≤ 1000) (a : bd x j) (b : bd v k) : bd (x + v) (j + k) := by
  obtain ⟨a1, a2⟩ := a
  obtain ⟨b1, b2⟩ := b
  have e : (x + v).toInt = x.toInt + v.toInt := by
    rw [Int32.toInt_add]
    exact Int.bmod_eq_of_le (by omega) (by omega)
  unfold bd
  rw [e]
  constructor <;> omega
theorem bd_ch {v : Int32} (h : tr_ch v) : bd v 1 := by
  obtain ⟨h1, h2⟩ := h
  rw [Int32.le_iff_toInt_le] at h1
  rw [Int32.lt_iff_toInt_lt] at h2
  have e0 : (0 : Int32).toInt = 0 := by decide
  have e1 : (65536 : Int32).toInt = 65536 := by decide
  unfold bd
  omega
theorem bd_k {k : Nat} (h : k < 65536) : bd (Int32.ofNat k) 1 := bd_ch (ch_nat h)
theorem bd_did {c c' : CT} {P P' : List CT} {v : Int32} (h : did c P v c' P') : bd v 1 := by
  rcases h with ⟨h1, h2, _⟩ | ⟨h, _⟩
  · rw [Int32.le_iff_toInt_le] at h1 h2
    have e0 : (-900000 : Int32).toInt = -900000 := by decide
    have e1 : (-900003 : Int32).toInt = -900003 := by decide
    unfold bd
    omega
  · exact bd_ch h
theorem bd_lt {x : Int32} {k : Nat} (h : bd x k) (hk : k ≤ 90) : (-90000000 : Int32) < x := by
  rw [Int32.lt_iff_toInt_lt, show (-90000000 : Int32).toInt = -90000000 by decide]
  have := h.1
  omega
section
variable {g : tr_g} {d : Nat} {h h1 : ev_AH} {c : CT} {n B : Nat} {P : List CT} {S : Option CT}
/-! begun -/
theorem bg_mir (hz : g.1.length < 1000000) : ∀ (j k i : Nat) (x2 : Int32) (h : ev_AH) (c : CT) (P : List CT) (B : Nat), k + j = 15 → bd x2 i → i + j ≤ 100 → st h c P S B → ∃ h2 x2' i' w3 c2 P2 B2, bd x2' i' ∧ i' ≤ i + j ∧ hh_M j (6 * j) h h2 ∧ st h2 c2 P2 S B2 ∧ ∀ R, tr_L g (d + 16) m_L_begun 66 [some (.ref 0), some (.ref 1000), some (.int x2'), w3] [] h2 R → tr_L g (d + 16) m_L_begun 12 [some (.ref 0), some (.ref 1000), some (.int x2), some (.int (Int32.ofNat k))] [] h R := by
  intro j
  induction j with
  | zero =>
    intro k i x2 h c P B hk hb hi s
    obtain ⟨a, ha, r⟩ := sp_in (g := g) (d := d + 14) (x := 0) (y := 12) (i := 0) (n := 12) s.1 hz rfl (by omega) rfl (by omega) (by omega)
    exact ⟨h, x2, i, _, c, P, B, hb, by omega, hh_M_rf, s, fun R z => sg_L_begun_12 s.1 (c_0 := r) (fun _ => z) (fun t => absurd ((ii_lt (a := k) (b := 3 + a) (by omega) (by omega)).mp (by rw [← ii_a]; exact t)) (by omega))⟩
  | succ j ih =>
    intro k i x2 h c P B hk hb hi s
    obtain ⟨a, ha, r⟩ := sp_in (g := g) (d := d + 14) (x := 0) (y := 12) (i := 0) (n := 12) s.1 hz rfl (by omega) rfl (by omega) (by omega)
    by_cases hlt : k < 3 + a
    · obtain ⟨q, hq, r1⟩ := sp_in (g := g) (d := d + 14) (x := 1 + Int32.ofNat k) (y := 35) (i := 1 + k) (n := 35) s.1 hz (ii_a 1 k) (by omega) rfl (by omega) (by omega)
      obtain ⟨q2, hq2, r2⟩ := sp_in (g := g) (d := d + 14) (x := 16 + Int32.ofNat k) (y := 2) (i := 16 + k) (n := 2) s.1 hz (ii_a 16 k) (by omega) rfl (by omega) (by omega)
      have go : ∀ R, (Int32.ofNat q2 ≠ 0 → tr_L g (d + 16) m_L_begun 53 [some (.ref 0), some (.ref 1000), some (.int x2), some (.int (Int32.ofNat k))] [.int (Int32.ofNat q), .ref 1000, .int x2] h R) → (Int32.ofNat q2 = 0 → tr_L g (d + 16) m_L_begun 48 [some (.ref 0), some (.ref 1000), some (.int x2), some (.int (Int32.ofNat k))] [.int (Int32.ofNat q), .ref 1000, .int x2] h R) → tr_L g (d + 16) m_L_begun 12 [some (.ref 0), some (.ref 1000), some (.int x2), some (.int (Int32.ofNat k))] [] h R := fun R y1 y2 =>
        sg_L_begun_12 s.1 (c_0 := r) (fun t => absurd ((ii_le (a := 3 + a) (b := k) (by omega) (by omega)).mp (by rw [← ii_a]; exact t)) (by omega)) (fun _ => sg_L_begun_25 s.1 (c_0 := r1) (c_1 := r2) y1 y2)
      by_cases e2 : Int32.ofNat q2 = 0
      · obtain ⟨h2, v, c2, P2, r3, M, s2, dd⟩ := ac_setMirror (g := g) (d := d + 2) (x := Int32.ofNat q) (a := 47) s ⟨by decide, by decide⟩
        obtain ⟨h3, x3, i3, w3, c3, P3, B3, b3, i3', M3, s3, z⟩ := ih (k + 1) (i + 1) (x2 + v) h2 c2 P2 (B + 60) (by omega) (bd_add (by omega) hb (bd_did dd)) (by omega) s2
        exact ⟨h3, x3, i3, w3, c3, P3, B3, b3, by omega, hh_M_w (hh_M_tr M M3) (by omega) (by omega), s3, fun R y => go R (fun t => absurd e2 t) (fun _ => sg_L_begun_48 s.1 (c_0 := r3) (by rw [ii_s]; exact z R y))⟩
      · obtain ⟨h2, v, c2, P2, r3, M, s2, dd⟩ := ac_setMirror (g := g) (d := d + 2) (x := Int32.ofNat q) (a := 92) s ⟨by decide, by decide⟩
        obtain ⟨h3, x3, i3, w3, c3, P3, B3, b3, i3', M3, s3, z⟩ := ih (k + 1) (i + 1) (x2 + v) h2 c2 P2 (B + 60) (by omega) (bd_add (by omega) hb (bd_did dd)) (by omega) s2
        exact ⟨h3, x3, i3, w3, c3, P3, B3, b3, by omega, hh_M_w (hh_M_tr M M3) (by omega) (by omega), s3, fun R y => go R (fun _ => sg_L_begun_53 s.1 (c_0 := r3) (by rw [ii_s]; exact z R y)) (fun t => absurd t e2)⟩
    · exact ⟨h, x2, i, _, c, P, B, hb, by omega, hh_M_w hh_M_rf (by omega) (by omega), s, fun R z => sg_L_begun_12 s.1 (c_0 := r) (fun _ => z) (fun t => absurd ((ii_lt (a := k) (b := 3 + a) (by omega) (by omega)).mp (by rw [← ii_a]; exact t)) hlt)⟩
theorem bg_cat (hz : g.1.length < 1000000) : ∀ (j k i : Nat) (x2 : Int32) (h : ev_AH) (c : CT) (P : List CT) (B : Nat), k + j = 7 → bd x2 i → i + j ≤ 100 → st h c P S B → ∃ h2 x2' i' w3 c2 P2 B2, bd x2' i' ∧ i' ≤ i + j ∧ hh_M j (6 * j) h h2 ∧ st h2 c2 P2 S B2 ∧ ∀ R, tr_L g (d + 16) m_L_begun 115 [some (.ref 0), some (.ref 1000), some (.int x2'), w3] [] h2 R → tr_L g (d + 16) m_L_begun 68 [some (.ref 0), some (.ref 1000), some (.int x2), some (.int (Int32.ofNat k))] [] h R := by
  intro j
  induction j with
  | zero =>
    intro k i x2 h c P B hk hb hi s
    obtain ⟨a, ha, r⟩ := sp_in (g := g) (d := d + 14) (x := 31) (y := 6) (i := 31) (n := 6) s.1 hz rfl (by omega) rfl (by omega) (by omega)
    exact ⟨h, x2, i, _, c, P, B, hb, by omega, hh_M_rf, s, fun R z => sg_L_begun_68 s.1 (c_0 := r) (fun _ => z) (fun t => absurd ((ii_lt (a := k) (b := 1 + a) (by omega) (by omega)).mp (by rw [← ii_a]; exact t)) (by omega))⟩
  | succ j ih =>
    intro k i x2 h c P B hk hb hi s
    obtain ⟨a, ha, r⟩ := sp_in (g := g) (d := d + 14) (x := 31) (y := 6) (i := 31) (n := 6) s.1 hz rfl (by omega) rfl (by omega) (by omega)
    by_cases hlt : k < 1 + a
    · obtain ⟨q, hq, r1⟩ := sp_in (g := g) (d := d + 14) (x := 32 + Int32.ofNat k) (y := 35) (i := 32 + k) (n := 35) s.1 hz (ii_a 32 k) (by omega) rfl (by omega) (by omega)
      obtain ⟨q2, hq2, r2⟩ := sp_in (g := g) (d := d + 14) (x := 39 + Int32.ofNat k) (y := 24) (i := 39 + k) (n := 24) s.1 hz (ii_a 39 k) (by omega) rfl (by omega) (by omega)
      obtain ⟨h2, v, c2, P2, r3, M, s2, dd⟩ := ac_adds (g := g) (d := d + 1) (x := Int32.ofNat q) (k := q2) (by omega) s
      obtain ⟨h3, x3, i3, w3, c3, P3, B3, b3, i3', M3, s3, z⟩ := ih (k + 1) (i + 1) (x2 + v) h2 c2 P2 (B + 60) (by omega) (bd_add (by omega) hb (bd_did dd)) (by omega) s2
      exact ⟨h3, x3, i3, w3, c3, P3, B3, b3, by omega, hh_M_w (hh_M_tr M M3) (by omega) (by omega), s3, fun R y => sg_L_begun_68 s.1 (c_0 := r) (fun t => absurd ((ii_le (a := 1 + a) (b := k) (by omega) (by omega)).mp (by rw [← ii_a]; exact t)) (by omega)) (fun _ => sg_L_begun_82 s.1 (c_0 := r1) (c_1 := r2) (c_2 := r3) (by rw [ii_s]; exact z R y))⟩
    · exact ⟨h, x2, i, _, c, P, B, hb, by omega, hh_M_w hh_M_rf (by omega) (by omega), s, fun R z => sg_L_begun_68 s.1 (c_0 := r) (fun _ => z) (fun t => absurd ((ii_lt (a := k) (b := 1 + a) (by omega) (by omega)).mp (by rw [← ii_a]; exact t)) hlt)⟩
theorem bg_say (hz : g.1.length < 1000000) : ∀ (j k i : Nat) (x2 : Int32) (h : ev_AH) (c : CT) (P : List CT) (B : Nat), k + j = 4 → bd x2 i → i + j ≤ 100 → st h c P S B → ∃ h2 x2' c2 P2 B2, bd x2' (i + j) ∧ hh_M j (6 * j) h h2 ∧ st h2 c2 P2 S B2 ∧ ∀ R, tr_L g (d + 16) m_L_begun 158 [some (.ref 0), some (.ref 1000), some (.int x2'), some (.int 4)] [] h2 R → tr_L g (d + 16) m_L_begun 117 [some (.ref 0), some (.ref 1000), some (.int x2), some (.int (Int32.ofNat k))] [] h R := by
  intro j
  induction j with
  | zero =>
    intro k i x2 h c P B hk hb hi s
    have e : k = 4 := by omega
    subst e
    exact ⟨h, x2, c, P, B, hb, hh_M_rf, s, fun R z => sg_L_begun_117 s.1 (fun _ => z) (fun t => absurd t (by decide))⟩
  | succ j ih =>
    intro k i x2 h c P B hk hb hi s
    obtain ⟨q, hq, r1⟩ := sp_in (g := g) (d := d + 14) (x := 46 + Int32.ofNat k) (y := 24) (i := 46 + k) (n := 24) s.1 hz (ii_a 46 k) (by omega) rfl (by omega) (by omega)
    obtain ⟨q2, hq2, r2⟩ := sp_in (g := g) (d := d + 14) (x := 50 + Int32.ofNat k) (y := 4) (i := 50 + k) (n := 4) s.1 hz (ii_a 50 k) (by omega) rfl (by omega) (by omega)
    obtain ⟨h2, v, c2, P2, r3, M, s2, dd⟩ := ac_testify (g := g) (d := d + 2) (x := Int32.ofNat q) (a := ((97 + Int32.ofNat q2).toUInt32 % 65536).toInt32) s
    obtain ⟨h3, x3, c3, P3, B3, b3, M3, s3, z⟩ := ih (k + 1) (i + 1) (x2 + v) h2 c2 P2 (B + 60) (by omega) (bd_add (by omega) hb (bd_did dd)) (by omega) s2
    refine ⟨h3, x3, c3, P3, B3, by rw [show i + (j + 1) = i + 1 + j by omega]; exact b3, hh_M_w (hh_M_tr M M3) (by omega) (by omega), s3, fun R y => ?_⟩
    exact sg_L_begun_117 s.1 (fun t => absurd ((ii_le (a := 4) (by omega) (by omega)).mp t) (by omega)) (fun _ => sg_L_begun_122 s.1 (c_0 := r1) (c_1 := r2) (c_2 := r3) (by rw [ii_s]; exact z R y))
/-- from the object that has been made to a jury that has begun -/
theorem bg_8 (hg : ev_cat1 g.2 = true) (hz : g.1.length < 1000000) {w2 w3 : Option Value} (s : st h c P S B) : ∃ h2 c2 P2 B2, tr_L g (d + 16) m_L_begun 8 [some (.ref 0), some (.ref 1000), w2, w3] [] h (.inl (some (.ref 1000)), h2) ∧ hh_M 100 1000 h h2 ∧ st h2 c2 P2 S B2 := by
  obtain ⟨g1, x1, i1, u1, c1, P1, B1, b1, j1, M1, s1, z1⟩ := bg_mir (g := g) (d := d) (S := S) hz 15 0 0 0 h c P B (by omega) bd_0 (by omega) s
  obtain ⟨g2, x2, i2, u2, c2, P2, B2, b2, j2, M2, s2, z2⟩ := bg_cat (g := g) (d := d) (S := S) hz 7 0 i1 x1 g1 c1 P1 B1 (by omega) b1 (by omega) s1
  obtain ⟨g3, x3, c3, P3, B3, b3, M3, s3, z3⟩ := bg_say (g := g) (d := d) (S := S) hz 4 0 i2 x2 g2 c2 P2 B2 (by omega) b2 (by omega) s2
  obtain ⟨q, hq, r4⟩ := sp_in (g := g) (d := d + 14) (x := 54) (y := 3) (i := 54) (n := 3) s3.1 hz rfl (by omega) rfl (by omega) (by omega)
  have hq' : q < ([112, 114, 115] : List Int32).length := hq
  have r5 := sw_at (g := g) (d := d + 12) s3.1 hg sw_25 hq'
  obtain ⟨g6, v6, c6, P6, r6, M6, s6, d6⟩ := ac_setMethod (g := g) (d := d + 2) s3 (w_ch (g := g) sw_25 hq')
  obtain ⟨g7, v7, c7, P7, r7, M7, s7, d7⟩ := ac_deliberate (g := g) (d := d + 2) s6
  have bb := bd_add (by omega) b3 (bd_add (by omega) (bd_did d6) (bd_did d7))
  have lt := bd_lt bb (by omega)
  refine ⟨g7, c7, P7, _, ?_, hh_M_w (hh_M_tr M1 (hh_M_tr M2 (hh_M_tr M3 (hh_M_tr M6 M7)))) (by omega) (by omega), s7⟩
  refine sg_L_begun_8 s.1 (z1 _ (sg_L_begun_66 s1.1 (z2 _ (sg_L_begun_115 s2.1 (z3 _ ?_)))))
  exact sg_L_begun_158 s3.1 (c_0 := r4) (c_1 := r5) (c_2 := r6) (c_3 := r7) (fun _ => sg_L_begun_192 s7.1 rfl) (fun t => absurd (Int32.lt_trans lt t) Int32.lt_irrefl)
/-! the acts -/
theorem kept_M {m q a : Nat} {l : List Int32} (M : hh_M m q h h1) (h9 : 99 ≤ a) (e : h.1[a]? = some (.inl (0, l))) : h1.1[a]? = some (.inl (0, l)) := M.2.2.2 a h9 _ e trivial
/-- seen again: alike -/
theorem sp_again {a : Nat} (s : st h c P S B) (h9 : 99 ≤ a) (e : h.1[a]? = some (.inl (0, seenL c (cn c)))) : ∃ h2 b, tr_L g (d + 15) m_L_seen 0 [some (.ref 1000), none, none, none] [] h (.inl (some (.ref (b + 1000))), h2) ∧ tr_L g (d + 15) m_L_areAlike 0 [some (.ref (a + 1000)), some (.ref (b + 1000)), none] [] h2 (.inl (some (.int 1)), h2) ∧ hh_M 11 180 h h2 ∧ st h2 c P S B := by
  obtain ⟨h2, r, U, e2, L2⟩ := sp_seen (g := g) (d := d) s
  have e1 : h2.1[a]? = some (.inl (0, seenL c (cn c))) := kept_M (hh_M_U U) h9 e
  exact ⟨h2, h.1.length, r, sp_alike L2 e1 e2 (by rw [seenL_len]; omega), hh_M_U U, st_U s U L2⟩
theorem lw_loop (hg : ev_cat1 g.2 = true) (hz : g.1.length < 1000000) : ∀ (j k : Nat) (h : ev_AH) (c : CT) (P : List CT) (B : Nat) (w3 w4 : Option Value), k + j = 7 → st h c P S B → ∃ h2 c2 P2 B2 w3' w4', hh_M (600 * j) (7000 * j) h h2 ∧ st h2 c2 P2 S B2 ∧ ∀ R, tr_L g (d + 17) m_law 125 [some (.ref 0), some (.ref 1000), some (.int 7), w3', w4'] [] h2 R → tr_L g (d + 17) m_law 20 [some (.ref 0), some (.ref 1000), some (.int (Int32.ofNat k)), w3, w4] [] h R := by
  intro j
  induction j with
  | zero =>
    intro k h c P B w3 w4 hk s
    have e : k = 7 := by omega
    subst e
    exact ⟨h, c, P, B, w3, w4, hh_M_rf, s, fun R z => sg_law_20 s.1 (fun _ => z) (fun t => absurd t (by decide))⟩
  | succ j ih =>
    intro k h c P B w3 w4 hk s
    have h9 := st_len s
    obtain ⟨h1, r1, U1, e1, L1⟩ := sp_seen (g := g) (d := d + 1) s
    have s1 := st_U s U1 L1
    obtain ⟨h2, v, c2, P2, r2, M2, s2, dd⟩ := ac_acts (g := g) (d := d) hg hz (x := 56 + 4 * Int32.ofNat k) (i := 56 + 4 * k) (by rw [show (4 : Int32) * Int32.ofNat k = Int32.ofNat (4 * k) from ii_m 4 k]; exact ii_a 56 _) (by omega) s1
    obtain ⟨h3, r3, M3, s3⟩ := sp_isWell (g := g) (d := d + 2) s2
    have e3 : h3.1[h.1.length]? = some (.inl (0, seenL c (cn c))) := kept_M (hh_M_tr M2 M3) h9 e1
    have go : ∀ R, tr_L g (d + 17) m_law 58 [some (.ref 0), some (.ref 1000), some (.int (Int32.ofNat k)), some (.ref (h.1.length + 1000)), some (.int v)] [] h3 R → v ≠ -900009 → tr_L g (d + 17) m_law 20 [some (.ref 0), some (.ref 1000), some (.int (Int32.ofNat k)), w3, w4] [] h R := fun R z hv =>
      sg_law_20 s.1 (fun t => absurd ((ii_le (a := 7) (by omega) (by omega)).mp t) (by omega)) (fun _ => sg_law_26 s.1 (c_0 := tr_mono (by omega) r1) (c_1 := r2) (c_2 := r3) (fun t => absurd t (by decide)) (fun _ => sg_law_51 s3.1 (fun t => absurd t hv) (fun _ => z)))
    rcases dd with ⟨d1, d2, d3, d4⟩ | ⟨d1, X, d2⟩
    · subst d3
      subst d4
      obtain ⟨h4, b, r4, r5, M4, s4⟩ := sp_again (g := g) (d := d + 1) s3 h9 e3
      obtain ⟨h5, c5, P5, B5, a3, a4, M5, s5, z5⟩ := ih (k + 1) h4 _ _ _ (some (.ref (h.1.length + 1000))) (some (.int v)) (by omega) s4
      refine ⟨h5, c5, P5, B5, a3, a4, hh_M_w (hh_M_tr (hh_M_U U1) (hh_M_tr M2 (hh_M_tr M3 (hh_M_tr M4 M5)))) (by omega) (by omega), s5, fun R y => go R ?_ ?_⟩
      · refine sg_law_58 s3.1 (fun t => absurd d1 (Int32.not_le.mpr t)) (fun _ => ?_)
        refine sg_law_66 s3.1 (c_0 := tr_mono (by omega) r4) (c_1 := tr_mono (by omega) r5) (fun _ => ?_) (fun t => absurd t (by decide))
        exact sg_law_79 s4.1 (fun _ => sg_law_119 s4.1 (by rw [ii_s]; exact z5 R y)) (fun t => absurd d1 (Int32.not_le.mpr t))
      · intro e
        rw [e] at d2
        exact absurd d2 (by decide)
    · have hv : (-900000 : Int32) < v := by
        have h0 := d1.1
        exact Int32.lt_of_lt_of_le (by decide) h0
      obtain ⟨q, hq, r4⟩ := sp_in (g := g) (d := d + 15) (x := 85 + Int32.ofNat k) (y := 5) (i := 85 + k) (n := 5) s3.1 hz (ii_a 85 k) (by omega) rfl (by omega) (by omega)
      have hv9 : v ≠ -900009 := by
        intro e
        rw [e] at hv
        exact absurd hv (by decide)
      by_cases hq0 : Int32.ofNat q = 0
      · subst d2
        obtain ⟨h4, v4, r5, M4, s4, hv4⟩ := ac_undo (g := g) (d := d + 3) s3
        have e4 := kept_M M4 h9 e3
        obtain ⟨h5, b, r6, r7, M5, s5⟩ := sp_again (g := g) (d := d + 1) s4 h9 e4
        obtain ⟨h6, c6, P6, B6, a3, a4, M6, s6, z6⟩ := ih (k + 1) h5 _ _ _ (some (.ref (h.1.length + 1000))) (some (.int v)) (by omega) s5
        refine ⟨h6, c6, P6, B6, a3, a4, hh_M_w (hh_M_tr (hh_M_U U1) (hh_M_tr M2 (hh_M_tr M3 (hh_M_tr M4 (hh_M_tr M5 M6))))) (by omega) (by omega), s6, fun R y => go R ?_ hv9⟩
        refine sg_law_58 s3.1 (fun _ => ?_) (fun t => absurd hv (Int32.not_lt.mpr t))
        refine sg_law_79 s3.1 (fun t => absurd hv (Int32.not_lt.mpr t)) (fun _ => ?_)
        refine sg_law_87 s3.1 (c_0 := r4) (fun t => absurd hq0 t) (fun _ => ?_)
        refine sg_law_99 s3.1 (c_0 := r5) (fun t => absurd hv4 (Int32.not_le.mpr t)) (fun _ => ?_)
        exact sg_law_106 s4.1 (c_0 := tr_mono (by omega) r6) (c_1 := tr_mono (by omega) r7) (fun _ => sg_law_119 s5.1 (by rw [ii_s]; exact z6 R y)) (fun t => absurd t (by decide))
      · obtain ⟨h6, c6, P6, B6, a3, a4, M6, s6, z6⟩ := ih (k + 1) h3 _ _ _ (some (.ref (h.1.length + 1000))) (some (.int v)) (by omega) s3
        refine ⟨h6, c6, P6, B6, a3, a4, hh_M_w (hh_M_tr (hh_M_U U1) (hh_M_tr M2 (hh_M_tr M3 M6))) (by omega) (by omega), s6, fun R y => go R ?_ hv9⟩
        refine sg_law_58 s3.1 (fun _ => ?_) (fun t => absurd hv (Int32.not_lt.mpr t))
        refine sg_law_79 s3.1 (fun t => absurd hv (Int32.not_lt.mpr t)) (fun _ => ?_)
        exact sg_law_87 s3.1 (c_0 := r4) (fun _ => sg_law_119 s3.1 (by rw [ii_s]; exact z6 R y)) (fun t => absurd t hq0)
/-! the end -/
theorem mm_lst_le {p : Nat → Bool} : ∀ k, mm_lst p k ≤ k
  | 0 => Nat.le_refl _
  | k + 1 => by
    have := mm_lst_le (p := p) k
    unfold mm_lst
    split <;> omega
theorem bd_neg : bd (-900001) 1 ∧ bd (-900002) 1 ∧ bd (-900003) 1 := ⟨⟨by decide, by decide⟩, ⟨by decide, by decide⟩, ⟨by decide, by decide⟩⟩
theorem bd_port {x : Int32} : bd (wv (an_portBy c x) cd_portByLength) 1 := by
  unfold an_portBy
  split
  · exact bd_neg.1
  · have := mm_lst_le (p := fun p => pAh c p == x) 24
    exact bd_k (by omega)
theorem bd_heard {x : Int32} (h7 : n ≤ 7) : bd (wv (an_catBy c n x) cd_catByHeard) 1 := by
  unfold an_catBy
  split
  · exact bd_neg.1
  · have := mm_lst_le (p := fun k => ct_ah c n k == x) n
    exact bd_k (by omega)
theorem bd_win {f : CT → Nat → Nat} : bd (wv (an_win f c n) cd_winner) 1 := by
  unfold an_win
  split
  · exact bd_neg.1
  · exact bd_ch (tr_chc _)
theorem bd_eff {x y : Int32} : bd (wv (an_effort ef_Q c n x y) cd_leastEffort) 1 := by
  unfold an_effort
  split
  · exact bd_neg.1
  · split
    · exact bd_neg.2.1
    · split
      · exact bd_neg.2.2
      · have h := @ef_le
        exact bd_k (Nat.lt_of_le_of_lt h (by omega))
theorem co_ok_of (w : cw c n B) : co_ok c n := fun q hq => by
  obtain ⟨a, b⟩ := w.2.2.1 q hq
  refine ⟨?_, fun e => b.mp e⟩
  rcases a with a | a | a | a
  · exact ⟨46, by omega, a⟩
  · exact ⟨47, by omega, a⟩
  · exact ⟨92, by omega, a⟩
  · exact ⟨99, by omega, a⟩
theorem ac_row (s : st h c P S B) : ∃ h2, tr_L g (d + 12) m_X8_writeRow 0 [some (.ref 1000), some (.int 2), none, none, none] [] h (.inl (some (.int 7)), h2) ∧ hh_M 0 0 h h2 ∧ st h2 c P S B := by
  obtain ⟨hL, y, l, n, w, qv, z⟩ := s
  have q : cQ h c n := ⟨w.1, qv.1.1⟩
  obtain ⟨h1, F, r, s1⟩ := op_row (g := g) (d := d) (x := 2) hL q (co_ok_of qv.1) w.2.2.2.2.1
  have e : an_row c n 2 = (.inl 7, some (rowN c n 2 7)) := by
    unfold an_row
    rw [show idx 5 2 = some 2 from idx_k (k := 2) (by omega) (by omega)]
  rw [e] at r s1
  exact ⟨h1, r, hh_M_F F (by decide), r.2, y, _, n, CI_o F s1 w, qv, z⟩
theorem lw_end {w0 w2 w3 w4 : Option Value} (s : st h c P S B) : ∃ h2, tr_L g (d + 17) m_law 125 [w0, some (.ref 1000), w2, w3, w4] [] h (.inl (some (.int 1)), h2) ∧ hh_M 100 1000 h h2 := by
  have h9 := st_len s
  obtain ⟨h1, r1, U1, e1, L1⟩ := sp_seen (g := g) (d := d + 1) s
  have s1 := st_U s U1 L1
  obtain ⟨h2, r2, M2, s2⟩ := ac_save (g := g) (d := d + 4) s1
  obtain ⟨h3, r3, M3, s3⟩ := qy_portByLength (g := g) (d := d + 3) (x := 0) s2
  obtain ⟨h4, r4, M4, s4⟩ := qy_catByHeard (g := g) (d := d + 3) (x := 0) s3
  obtain ⟨h5, r5, M5, s5⟩ := qy_roundsWinner (g := g) (d := d + 3) s4
  obtain ⟨h6, r6, M6, s6⟩ := qy_leastEffort (g := g) (d := d + 3) (x := 0) (y := 0) s5
  obtain ⟨h7, r7, M7, s7⟩ := ac_row (g := g) (d := d + 4) s6
  have n7 := (st_cn s).1.2.2.1
  have b1 := bd_add (by omega) (bd_add (by omega) (bd_add (by omega) (bd_add (by omega) (bd_port (c := c) (x := 0)) (bd_heard (c := c) (x := 0) n7)) (bd_win (f := ct_vrW) (c := c) (n := cn c))) (bd_eff (c := c) (n := cn c) (x := 0) (y := 0))) (bd_k (k := 7) (by omega))
  have e7 := kept_M (hh_M_tr M2 (hh_M_tr M3 (hh_M_tr M4 (hh_M_tr M5 (hh_M_tr M6 M7))))) h9 e1
  obtain ⟨h8, b, r8, r9, M8, s8⟩ := sp_again (g := g) (d := d + 1) s7 h9 e7
  have e8 := kept_M M8 h9 e7
  obtain ⟨i1, v1, c1, P1, q1, N1, t1, d1⟩ := ac_deliberate (g := g) (d := d + 3) s8
  obtain ⟨i2, v2, c2, P2, q2, N2, t2, d2⟩ := ac_setMirror (g := g) (d := d + 3) (x := 17) (a := 47) t1 ⟨by decide, by decide⟩
  obtain ⟨i3, v3, c3, P3, q3, N3, t3, d3⟩ := ac_adds (g := g) (d := d + 2) (x := 3) (k := 5) (by omega) t2
  obtain ⟨i4, v4, c4, P4, q4, N4, t4, d4⟩ := ac_retry (g := g) (d := d + 3) t3
  obtain ⟨i5, v5, c5, P5, q5, N5, t5, d5⟩ := ac_testify (g := g) (d := d + 3) (x := 9) (a := 99) t4
  have b2 := bd_add (by omega) (bd_add (by omega) (bd_add (by omega) (bd_add (by omega) (bd_did d1) (bd_did d2)) (bd_did d3)) (bd_did d4)) (bd_did d5)
  have lt := bd_lt (bd_add (by omega) b1 b2) (by omega)
  obtain ⟨i6, q6, N6, t6⟩ := ac_restore (g := g) (d := d + 3) t5
  have e9 := kept_M (hh_M_tr N1 (hh_M_tr N2 (hh_M_tr N3 (hh_M_tr N4 (hh_M_tr N5 N6))))) h9 e8
  obtain ⟨i7, b', q7, q8, N7, t7⟩ := sp_again (g := g) (d := d + 1) t6 h9 e9
  obtain ⟨i8, q9, N8, t8⟩ := ac_undo0 (g := g) (d := d + 3) t7
  refine ⟨i8, ?_, hh_M_w (hh_M_tr (hh_M_U U1) (hh_M_tr M2 (hh_M_tr M3 (hh_M_tr M4 (hh_M_tr M5 (hh_M_tr M6 (hh_M_tr M7 (hh_M_tr M8 (hh_M_tr N1 (hh_M_tr N2 (hh_M_tr N3 (hh_M_tr N4 (hh_M_tr N5 (hh_M_tr N6 (hh_M_tr N7 N8))))))))))))))) (by omega) (by omega)⟩
  refine sg_law_125 s.1 (c_0 := tr_mono (by omega) r1) (c_1 := r2) (c_2 := r3) (c_3 := r4) (c_4 := r5) (c_5 := r6) (c_6 := r7) (c_7 := tr_mono (by omega) r8) (c_8 := tr_mono (by omega) r9) (fun _ => ?_) (fun t => absurd t (by decide))
  refine sg_law_181 s8.1 (c_0 := q1) (c_1 := q2) (c_2 := q3) (c_3 := q4) (c_4 := q5) (fun t => absurd lt (Int32.not_lt.mpr t)) (fun _ => ?_)
  refine sg_law_227 t5.1 (c_0 := q6) (fun t => absurd rfl t) (fun _ => ?_)
  refine sg_law_235 t6.1 (c_0 := tr_mono (by omega) q7) (c_1 := tr_mono (by omega) q8) (fun t => absurd t (by decide)) (fun _ => ?_)
  exact sg_law_246 t7.1 (c_0 := q9) (fun t => absurd rfl t) (fun _ => sg_law_255 t8.1 rfl)
/-- behind the beginning the law holds -/
theorem lw_5 (hg : ev_cat1 g.2 = true) (hz : g.1.length < 1000000) {w2 w3 w4 : Option Value} (s : st h c P S B) : ∃ h2, tr_L g (d + 17) m_law 5 [some (.ref 0), some (.ref 1000), w2, w3, w4] [] h (.inl (some (.int 1)), h2) ∧ hh_M 5000 60000 h h2 := by
  obtain ⟨h1, r1, M1, s1⟩ := sp_isWell (g := g) (d := d + 2) s
  obtain ⟨h2, c2, P2, B2, a3, a4, M2, s2, z2⟩ := lw_loop (g := g) (d := d) (S := S) hg hz 7 0 h1 c P B w3 w4 (by omega) s1
  obtain ⟨h3, r3, M3⟩ := lw_end (g := g) (d := d) (w0 := some (.ref 0)) (w2 := some (.int 7)) (w3 := a3) (w4 := a4) s2
  exact ⟨h3, sg_law_5 s.1 (c_0 := r1) (fun _ => sg_law_18 s1.1 (z2 _ r3)) (fun t => absurd t (by decide)), hh_M_w (hh_M_tr M1 (hh_M_tr M2 M3)) (by omega) (by omega)⟩
end
