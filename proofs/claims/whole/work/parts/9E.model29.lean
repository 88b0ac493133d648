/-! THE MODEL: its line -/
theorem ht106 : hh_t[106]? = some (.inl (0, 30)) := rfl
def lnS (h : ev_AH) (L : List Int32) : Prop := hh_i h 99 22 = Int32.ofNat L.length ∧ L.length ≤ 30 ∧ ∀ k, k < L.length → (hh_a h 106).getD k 0 = L.getD k 0
def mL (h h' : ev_AH) : Prop := hh_F [99, 106] h h' ∧ ∀ sl, sl ≠ 22 → hh_i h' 99 sl = hh_i h 99 sl
theorem mL_tr {h1 h2 h3 : ev_AH} (a : mL h1 h2) (b : mL h2 h3) : mL h1 h3 := ⟨hh_F_tr a.1 b.1, fun sl hs => (b.2 sl hs).trans (a.2 sl hs)⟩
theorem dgs_rec {v : Nat} (h1 : 10 ≤ v) (h2 : v < 1000) : dgs v = dgs (v / 10) ++ [Int32.ofNat (48 + v % 10)] := by
  unfold dgs
  by_cases h3 : v < 100
  · rw [if_neg (by omega), if_pos h3, if_pos (by omega)]
    rfl
  · rw [if_neg (by omega), if_neg h3, if_neg (by omega), if_pos (by omega)]
    rw [show v / 10 / 10 = v / 100 by omega]
    rfl
section
variable {g : tr_g} {d : Nat} {h h' : ev_AH} {c : CT} {n B : Nat} {P : List CT} {S : Option CT} {y : YS} {l t L : List Int32}
theorem mL_rf : mL h h := ⟨hh_F_rf, fun _ _ => rfl⟩
theorem mQ_L (a : mL h h') (q : mQ h c n) : mQ h' c n := mQ_F a.1 (by decide) q
theorem sp_puts {x : Int32} (hL : hh_L h) (s : lnS h L) (h30 : L.length < 30) : ∃ h', tr_L g d m_X9_puts 0 [some (.ref 1099), some (.int x)] [] h (.inl none, h') ∧ mL h h' ∧ lnS h' (L ++ [x]) := by
  obtain ⟨s1, s2, s3⟩ := s
  have hl := (hh_arr hL ht106).2
  have L1 := hh_L_ss (j := L.length) (x := x) hL ht106
  have e1 : hh_i (hh_sa h 106 0 ((hh_a h 106).set L.length x)) 99 22 = Int32.ofNat L.length := by rw [hh_i_sa (by decide)]; exact s1
  have j : ∀ sl v, hh_i (hh_si (hh_sa h 106 0 ((hh_a h 106).set L.length x)) 99 8 22 v) 99 sl = if 22 = sl then v else hh_i (hh_sa h 106 0 ((hh_a h 106).set L.length x)) 99 sl := fun sl v => hh_i_sis L1 ht99 (by decide)
  refine ⟨_, sg_X9_puts_0 hL (j0 := L.length) s1 h30 rfl, ⟨hh_F_tr (hh_F_sa (by decide)) (hh_F_si (by decide)), fun sl hs => by rw [j, if_neg (fun e => hs e.symm), hh_i_sa (by decide)]⟩, ?_, ?_, fun k hk => ?_⟩
  · rw [j, if_pos rfl, e1, ii_s]
    simp
  · simp
    omega
  · rw [hh_a_si (by decide), hh_a_sa (hh_L_lt hL (by decide)), if_pos rfl, gs (by omega)]
    simp only [List.length_append, List.length_singleton] at hk
    by_cases e : L.length = k
    · subst e
      rw [if_pos rfl]
      simp
    · rw [if_neg e, s3 k (by omega)]
      simp [List.getElem?_append_left (show k < L.length by omega)]
theorem sp_num1 {v : Nat} (hL : hh_L h) (s : lnS h L) (hv : v < 10) (h30 : L.length < 30) : ∃ h', tr_L g (d + 1) m_X9_number 0 [some (.ref 1099), some (.int (Int32.ofNat v))] [] h (.inl none, h') ∧ mL h h' ∧ lnS h' (L ++ dgs v) := by
  obtain ⟨h1, r1, M1, s1⟩ := sp_puts (g := g) (d := d) (x := Int32.ofNat (48 + v)) hL s h30
  refine ⟨h1, sg_X9_number_0 hL (fun _ => sg_X9_number_14 hL (d := d) ?_ rfl) (fun t => absurd ((ii_le (a := 10) (by omega) (by omega)).mp t) (by omega)), M1, ?_⟩
  · have : (48 : Int32) + (Int32.ofNat v - Int32.ofNat v / 10 * 10) = Int32.ofNat (48 + v) := by
      rw [show (10 : Int32) = Int32.ofNat 10 from rfl, ii_r (by omega) (by omega), show (48 : Int32) = Int32.ofNat 48 from rfl, ii_a, Nat.mod_eq_of_lt hv]
    rw [this]
    exact r1
  · rw [dgs, if_pos hv]
    exact s1
theorem sp_numS {v : Nat} (ih : ∀ (h : ev_AH), hh_L h → lnS h L → ∃ h', tr_L g d m_X9_number 0 [some (.ref 1099), some (.int (Int32.ofNat (v / 10)))] [] h (.inl none, h') ∧ mL h h' ∧ lnS h' (L ++ dgs (v / 10))) (hL : hh_L h) (s : lnS h L) (h1 : 10 ≤ v) (h2 : v < 1000) (h30 : (L ++ dgs (v / 10)).length < 30) : ∃ h', tr_L g (d + 1) m_X9_number 0 [some (.ref 1099), some (.int (Int32.ofNat v))] [] h (.inl none, h') ∧ mL h h' ∧ lnS h' (L ++ dgs v) := by
  obtain ⟨h3, r3, M3, s3⟩ := ih h hL s
  obtain ⟨h4, r4, M4, s4⟩ := sp_puts (g := g) (d := d) (x := Int32.ofNat (48 + v % 10)) r3.2 s3 h30
  refine ⟨h4, sg_X9_number_0 hL (fun t => absurd ((ii_lt (b := 10) (by omega) (by omega)).mp t) (by omega)) (fun _ => sg_X9_number_6 hL (d := d) ?_ (sg_X9_number_14 r3.2 (d := d) ?_ rfl)), mL_tr M3 M4, ?_⟩
  · rw [show (10 : Int32) = Int32.ofNat 10 from rfl, ii_d (by omega) (by omega)]
    exact r3
  · rw [show (10 : Int32) = Int32.ofNat 10 from rfl, ii_r (by omega) (by omega), show (48 : Int32) = Int32.ofNat 48 from rfl, ii_a]
    exact r4
  · rw [dgs_rec h1 h2, ← List.append_assoc]
    exact s4
theorem sp_number {v : Nat} (hL : hh_L h) (s : lnS h L) (hv : v < 1000) (h30 : (L ++ dgs v).length ≤ 30) : ∃ h', tr_L g (d + 3) m_X9_number 0 [some (.ref 1099), some (.int (Int32.ofNat v))] [] h (.inl none, h') ∧ mL h h' ∧ lnS h' (L ++ dgs v) := by
  by_cases h1 : v < 10
  · have l1 := dgs_len1 h1
    rw [List.length_append] at h30
    exact sp_num1 (d := d + 2) hL s h1 (by omega)
  · by_cases h2 : v < 100
    · rw [dgs_rec (by omega) hv, ← List.append_assoc, List.length_append, List.length_singleton] at h30
      have l1 := dgs_len1 (show v / 10 < 10 by omega)
      refine sp_numS (d := d + 2) (fun h hL s => sp_num1 (d := d + 1) hL s (by omega) ?_) hL s (by omega) hv (by omega)
      rw [List.length_append] at h30
      omega
    · rw [dgs_rec (by omega) hv, ← List.append_assoc, List.length_append, List.length_singleton] at h30
      have e2 := dgs_rec (v := v / 10) (by omega) (by omega)
      refine sp_numS (d := d + 2) (fun h hL s => ?_) hL s (by omega) hv (by omega)
      rw [e2, ← List.append_assoc, List.length_append, List.length_singleton] at h30
      have l1 := dgs_len1 (show v / 10 / 10 < 10 by omega)
      refine sp_numS (d := d + 1) (fun h hL s => sp_num1 (d := d) hL s (by omega) ?_) hL s (by omega) (by omega) (by omega)
      rw [List.length_append] at h30
      omega
theorem MI_line {l' : List Int32} (F : hh_F [99, 106] h h') (e : ∀ sl, sl ≠ 7 → sl ≠ 22 → hh_i h' 99 sl = hh_i h 99 sl) (s : lnS h' l') (m : MI h c P S y l t) : MI h' c P S y l' t := by
  obtain ⟨m1, m2, m3, m4, m5, m6, m7⟩ := m
  refine ⟨?_, MP_of (e 6 (by omega) (by omega)) (hh_F_a F (by decide)) m2, ?_, ?_, s, ?_, ?_⟩
  · rw [hh_F_a F (by decide)]; exact m1
  · rw [hh_F_a F (by decide), e 20 (by omega) (by omega)]; exact m3
  · rw [e 9 (by omega) (by omega), e 10 (by omega) (by omega), e 11 (by omega) (by omega), e 8 (by omega) (by omega)]; exact m4
  · rw [e 25 (by omega) (by omega)]; exact m6
  · rw [hh_F_a F (by decide)]; exact m7
theorem ln0 (hL : hh_L h) : mL h (hh_si h 99 8 22 0) ∧ lnS (hh_si h 99 8 22 0) [] := by
  have j : ∀ sl, hh_i (hh_si h 99 8 22 0) 99 sl = if 22 = sl then 0 else hh_i h 99 sl := fun sl => hh_i_sis hL ht99 (by decide)
  exact ⟨⟨hh_F_si (by decide), fun sl hs => by rw [j, if_neg (fun e => hs e.symm)]⟩, by rw [j, if_pos rfl]; rfl, by simp, fun k hk => absurd hk (by simp)⟩
theorem rowN_l {r : Nat} : ∀ k, (rowN c n r k).length = k := rowN_len
theorem mo_writeRow {x : Int32} (hL : hh_L h) (w : MI h c P S y l t) (q : cw c n B) : ∃ h', mRes h h' (an_row c n x).1 (fun _ => 1) c P S y ((an_row c n x).2.getD l) t ∧ tr_L g (d + 12) m_X9_writeRow 0 [some (.ref 1099), some (.int x), none] [] h (.inl (some (.int (ans (an_row c n x).1 (fun _ => 1)).1)), h') := by
  have h7 := q.1.2.1
  have qq := MI_n w q.1
  have hw := q.2.2.1
  have r := sa_X9_isIn (g := g) (d := d + 11) (x0 := x) (x1 := 0) (x2 := 4) hL
  rw [ix_5] at r
  unfold an_row
  rcases idx_c (m := 5) (by omega) x with ⟨k, hk, e3, e4⟩ | ⟨e3, e4⟩
  · rw [e4] at r ⊢
    have r1 := sp_thr0 (g := g) (d := d + 11) (x := 1) hL
    have m1 := mT_set (x := 0) hL
    have L1 := r1.2
    obtain ⟨M0, s0⟩ := ln0 L1
    have LL := ht99_7 (sl := 22) (x := 0) L1 (by omega)
    have loop : ∀ m j, j + m = 7 → ∀ (h2 : ev_AH), hh_L h2 → mL (hh_si h 99 8 7 0) h2 → lnS h2 (rowN c n k j) → ∃ h3, tr_L g (d + 12) m_X9_writeRow 34 [some (.ref 1099), some (.int (Int32.ofNat k)), some (.int (Int32.ofNat (7 * k + j)))] [] h2 (.inl (some (.int 7)), h3) ∧ mL (hh_si h 99 8 7 0) h3 ∧ lnS h3 (rowN c n k 7) := by
      intro m
      induction m with
      | zero =>
        intro j hj h2 L2 M2 s2
        have : j = 7 := by omega
        subst this
        have e7 : (7 : Int32) * (Int32.ofNat k + 1) = Int32.ofNat (7 * k + 7) := by rw [ii_s, show (7 : Int32) = Int32.ofNat 7 from rfl, ii_m]; rfl
        refine ⟨h2, sg_X9_writeRow_34 L2 (fun _ => sg_X9_writeRow_78 L2 ?_) (fun t => by rw [e7] at t; exact lp_end t), M2, s2⟩
        rw [s2.1, rowN_l]
        rfl
      | succ m ih =>
        intro j hj h2 L2 M2 s2
        have hj7 : j < 7 := by omega
        have hq : 7 * k + j < 35 := by omega
        have q2 := mQ_L M2 (mQ_T m1 qq)
        have rc := sp_catOn (g := g) (d := d + 10) (x := Int32.ofNat (7 * k + j)) L2 q2
        have e7 : (7 : Int32) * (Int32.ofNat k + 1) = Int32.ofNat (7 * k + 7) := by rw [ii_s, show (7 : Int32) = Int32.ofNat 7 from rfl, ii_m]; rfl
        obtain ⟨h3, r3, M3, s3⟩ := sp_puts (g := g) (d := d + 11) (x := rch c n (7 * k + j)) L2 s2 (by rw [rowN_l]; omega)
        obtain ⟨h4, r4, M4, s4⟩ := ih (j + 1) (by omega) h3 r3.2 (mL_tr M2 M3) s3
        refine ⟨h4, sg_X9_writeRow_34 L2 (fun t => by rw [e7] at t; exact lp_no (show 7 * k + j < 7 * k + 7 by omega) (by omega) t) (fun _ => sg_X9_writeRow_44 L2 (d := d + 11) rc (fun t => ?_) (fun t => ?_)), M4, s4⟩
        · have hc : ¬ ct_cat c n (Int32.ofNat (7 * k + j)) < n := fun hc => by
            rw [ii_o, if_pos hc] at t
            exact absurd t (Int32.not_lt.mpr (ii_nn (by omega)))
          have h99 : (ct_co c).getD (7 * k + j) 0 ≠ 99 := fun e => hc ((hw _ hq).2.mp e)
          have rx : rch c n (7 * k + j) = (ct_co c).getD (7 * k + j) 0 := by unfold rch; rw [if_neg h99]
          rw [rx] at r3
          refine sg_X9_writeRow_64 L2 (d := d + 11) (sp_content (d := d + 9) L2 q2 hw hq) r3 ?_
          rw [ii_s]
          exact r4
        · have hc : ct_cat c n (Int32.ofNat (7 * k + j)) < n := by
            refine Classical.byContradiction (fun hc => ?_)
            rw [ii_o, if_neg hc] at t
            exact absurd t (by decide)
          have h99 : (ct_co c).getD (7 * k + j) 0 = 99 := (hw _ hq).2.mpr hc
          have rx : rch c n (7 * k + j) = Int32.ofNat (48 + ct_cat c n (Int32.ofNat (7 * k + j))) := by unfold rch; rw [if_pos h99]
          rw [rx] at r3
          rw [ii_o, if_pos hc] at rc
          refine sg_X9_writeRow_53 L2 (d := d + 11) rc ?_ (by rw [ii_s]; exact r4)
          rw [show (48 : Int32) = Int32.ofNat 48 from rfl, ii_a]
          exact r3
    obtain ⟨h3, r3, M3, s3⟩ := loop 7 0 (by omega) _ LL M0 s0
    refine ⟨h3, ⟨hh_F_tr (hh_F_w m1.1 (by decide)) (hh_F_w M3.1 (by decide)), by rw [M3.2 7 (by omega), m1.2.1]; rfl, MI_line (hh_F_tr (hh_F_w m1.1 (by decide)) M3.1) (fun sl a b => by rw [M3.2 sl b, m1.2.2 sl a]) s3 w⟩, sg_X9_writeRow_0 hL (d := d + 11) r (fun _ => sg_X9_writeRow_14 hL (d := d + 11) r1 (fun _ => sg_X9_writeRow_24 L1 ?_) (fun t => absurd rfl t)) (fun t => bI1 t)⟩
    rw [e3, show (7 : Int32) * Int32.ofNat k = Int32.ofNat (7 * k) by rw [show (7 : Int32) = Int32.ofNat 7 from rfl, ii_m]]
    exact r3
  · rw [e3] at r ⊢
    have r1 := sp_thr1 (g := g) (d := d + 11) (x := 1) hL
    have m1 := mT_set (x := 1) hL
    exact ⟨_, ⟨hh_F_w m1.1 (by decide), m1.2.1, MI_of (hh_F_w m1.1 (by decide)) (fun sl a _ => m1.2.2 sl a) w⟩, sg_X9_writeRow_0 hL (d := d + 11) r (fun t => absurd rfl t) (fun _ => sg_X9_writeRow_10 hL (d := d + 11) r1 (fun t => absurd t (by decide)) (fun _ => sg_X9_writeRow_22 r1.2 rfl))⟩
theorem he_okB (q : cw c n B) (hB : B < 1000) : he_ok c n := fun k hk => by
  obtain ⟨m, m1, m2⟩ := q.2.2.2.2.2.1 k hk
  exact ⟨m, by omega, m2⟩
theorem catN_h {k : Nat} (hk : k < 10) (hq : ce_q c k < 35) : (catN c n k 4).length ≤ 9 := by
  have := catN_len (c := c) (n := n) hk hq 4
  omega
theorem mo_writeCat {x : Int32} (hL : hh_L h) (w : MI h c P S y l t) (q : cw c n B) (hB : B < 1000) : ∃ h', mRes h h' (an_cat c n x).1 (fun _ => 1) c P S y ((an_cat c n x).2.getD l) t ∧ tr_L g (d + 12) m_X9_writeCat 0 [some (.ref 1099), some (.int x), none] [] h (.inl (some (.int (ans (an_cat c n x).1 (fun _ => 1)).1)), h') := by
  have h7 := q.1.2.1
  have qq := MI_n w q.1
  have r := sp_isCat (g := g) (d := d + 10) (x := x) hL qq
  unfold an_cat
  rcases idx_c (m := n) (by omega) x with ⟨k, hk, e3, e4⟩ | ⟨e3, e4⟩
  · rw [e4] at r
    simp only [e4]
    have r1 := sp_thr0 (g := g) (d := d + 11) (x := 1) hL
    have m1 := mT_set (x := 0) hL
    have L1 := r1.2
    have q1 := mQ_T m1 qq
    obtain ⟨M0, s0⟩ := ln0 L1
    have L2 := ht99_7 (sl := 22) (x := 0) L1 (by omega)
    obtain ⟨v1, v2⟩ := he_nI (he_okB q hB) hk
    obtain ⟨q0, hq0, eq0⟩ := q.1.2.2.2.1 k hk
    have hce : ce_q c k = q0 := by unfold ce_q; rw [eq0, ii_cn (by omega)]
    have lc := catN_h (c := c) (n := n) (show k < 10 by omega) (by rw [hce]; exact hq0)
    have la' := dgs_len1 (show k < 10 by omega)
    have lb := dgs_len2 (show ce_q c k < 100 by omega)
    have lh := dgs_len (he_n c k)
    obtain ⟨h3, r3, M3, s3⟩ := sp_number (g := g) (d := d + 8) (v := k) L2 s0 (by omega) (by simp; omega)
    obtain ⟨h4, r4, M4, s4⟩ := sp_puts (g := g) (d := d + 11) (x := 64) r3.2 s3 (by simp; omega)
    have q4 := mQ_L (mL_tr M0 (mL_tr M3 M4)) q1
    have o4 := sp_of (g := g) (d := d + 11) (k := k) (w := 0) r4.2 (by omega) (by omega)
    rw [show 54 + 10 * k + 0 = 54 + 10 * k from rfl, (q4.1.2.2.2.2 k hk).1, eq0] at o4
    obtain ⟨h5, r5, M5, s5⟩ := sp_number (g := g) (d := d + 8) (v := q0) r4.2 s4 (by omega) (by rw [← hce]; simp; omega)
    obtain ⟨h6, r6, M6, s6⟩ := sp_puts (g := g) (d := d + 11) (x := 58) r5.2 s5 (by rw [← hce]; simp; omega)
    have M06 := mL_tr M0 (mL_tr M3 (mL_tr M4 (mL_tr M5 M6)))
    have s6' : lnS h6 (catN c n k 0) := by
      unfold catN
      rw [hce]
      simpa using s6
    have loop : ∀ m p, p + m = 4 → ∀ (h2 : ev_AH), hh_L h2 → mL (hh_si h 99 8 7 0) h2 → lnS h2 (catN c n k p) → ∃ h3, hh_L h3 ∧ mL (hh_si h 99 8 7 0) h3 ∧ lnS h3 (catN c n k 4) ∧ ∀ r, (∀ w2, tr_L g (d + 12) m_X9_writeCat 83 [some (.ref 1099), some (.int (Int32.ofNat k)), w2] [] h3 r) → tr_L g (d + 12) m_X9_writeCat 57 [some (.ref 1099), some (.int (Int32.ofNat k)), some (.int (Int32.ofNat p))] [] h2 r := by
      intro m
      induction m with
      | zero =>
        intro p hp h2 L2 M2 s2
        have : p = 4 := by omega
        subst this
        exact ⟨h2, L2, M2, s2, fun r kk => sg_X9_writeCat_57 L2 (fun _ => kk _) (fun t => lp_end t)⟩
      | succ m ih =>
        intro p hp h2 L2 M2 s2
        have hp4 : p < 4 := by omega
        have q2 := mQ_L M2 q1
        have o2 := sp_of (g := g) (d := d + 11) (k := k) (w := 2 + p) L2 (by omega) (by omega)
        have a2 : (2 : Int32) + Int32.ofNat p = Int32.ofNat (2 + p) := by rw [show (2 : Int32) = Int32.ofNat 2 from rfl, ii_a]
        have ev : (hh_a h2 100).getD (54 + 10 * k + (2 + p)) 0 = ct_opt c k p := by
          rw [show 54 + 10 * k + (2 + p) = 54 + 10 * k + 2 + p by omega, ((q2.1.2.2.2.2 k hk).2.2 p hp4).1]
          rfl
        rw [ev] at o2
        obtain ⟨o, ho, eo⟩ := ct_perm_lt q.1.2.2.2.2 hk hp4
        have lp := catN_len (c := c) (n := n) (k := k) (by omega) (by rw [hce]; exact hq0) p
        obtain ⟨h3, r3, M3, s3⟩ := sp_puts (g := g) (d := d + 11) (x := fa_X8_letterOf (ct_opt c k p)) L2 s2 (by omega)
        obtain ⟨h4, L4, M4, s4, k4⟩ := ih (p + 1) (by omega) h3 r3.2 (mL_tr M2 M3) s3
        refine ⟨h4, L4, M4, s4, fun r kk => sg_X9_writeCat_57 L2 (fun t => lp_no hp4 (by omega) t) (fun _ => sg_X9_writeCat_62 L2 (d := d + 11) (by rw [a2]; exact o2) ?_ (by rw [ii_s]; exact k4 r kk))⟩
        have : (97 : Int32) + ct_opt c k p = fa_X8_letterOf (ct_opt c k p) := by rw [eo, fa_let o ho, show (97 : Int32) = Int32.ofNat 97 from rfl, ii_a]
        rw [this]
        exact r3
    obtain ⟨h8, L8, M8, s8, k8⟩ := loop 4 0 (by omega) h6 r6.2 M06 s6'
    have q8 := mQ_L M8 q1
    have o8 := sp_of (g := g) (d := d + 11) (k := k) (w := 1) L8 (by omega) (by omega)
    rw [(q8.1.2.2.2.2 k hk).2.1, v2] at o8
    have pre : ∀ r', tr_L g (d + 12) m_X9_writeCat 57 [some (.ref 1099), some (.int (Int32.ofNat k)), some (.int 0)] [] h6 r' → tr_L g (d + 12) m_X9_writeCat 0 [some (.ref 1099), some (.int x), none] [] h r' := fun r' z => sg_X9_writeCat_0 hL (d := d + 11) r (fun _ => sg_X9_writeCat_13 hL (d := d + 11) r1 (fun _ => sg_X9_writeCat_23 L1 (d := d + 11) (by rw [e3]; exact r3) r4 (by rw [e3]; exact o4) r5 r6 (by rw [e3]; exact z)) (fun t => absurd rfl t)) (fun t => bI1 t)
    have fin : ∀ (h9 : ev_AH) (L9 : List Int32), mL (hh_si h 99 8 7 0) h9 → lnS h9 L9 → mRes h h9 (.inl (Int32.ofNat L9.length)) (fun _ => 1) c P S y L9 t := fun h9 L9 M9 s9 => ⟨hh_F_tr (hh_F_w m1.1 (by decide)) (hh_F_w M9.1 (by decide)), by rw [M9.2 7 (by omega), m1.2.1]; rfl, MI_line (hh_F_tr (hh_F_w m1.1 (by decide)) M9.1) (fun sl a b => by rw [M9.2 sl b, m1.2.2 sl a]) s9 w⟩
    by_cases h0 : he_n c k = 0
    · have eA : catA c n k = catN c n k 4 := by unfold catA; rw [if_pos h0]
      rw [eA]
      refine ⟨h8, fin h8 _ M8 s8, pre _ (k8 _ (fun w2 => sg_X9_writeCat_83 L8 (d := d + 11) o8 (fun _ => sg_X9_writeCat_108 L8 (by rw [s8.1]; rfl)) (fun t => ?_)))⟩
      rw [h0] at t
      exact absurd t (by decide)
    · have eA : catA c n k = catN c n k 4 ++ [43] ++ dgs (he_n c k) := by unfold catA; rw [if_neg h0]
      rw [eA]
      obtain ⟨h9, r9, M9, s9⟩ := sp_puts (g := g) (d := d + 11) (x := 43) L8 s8 (by omega)
      have q9 := mQ_L (mL_tr M8 M9) q1
      have o9 := sp_of (g := g) (d := d + 11) (k := k) (w := 1) r9.2 (by omega) (by omega)
      rw [(q9.1.2.2.2.2 k hk).2.1, v2] at o9
      obtain ⟨ha, ra, Ma, sa⟩ := sp_number (g := g) (d := d + 8) (v := he_n c k) r9.2 s9 v1 (by simp; omega)
      refine ⟨ha, fin ha _ (mL_tr M8 (mL_tr M9 Ma)) sa, pre _ (k8 _ (fun w2 => sg_X9_writeCat_83 L8 (d := d + 11) o8 (fun t => ?_) (fun _ => sg_X9_writeCat_92 L8 (d := d + 11) r9 o9 ra (by rw [sa.1]; rfl))))⟩
      exact absurd ((ii_le (b := 0) (by omega) (by omega)).mp t) (by omega)
  · rw [e3] at r ⊢
    have r1 := sp_thr1 (g := g) (d := d + 11) (x := 1) hL
    have m1 := mT_set (x := 1) hL
    exact ⟨_, ⟨hh_F_w m1.1 (by decide), m1.2.1, MI_of (hh_F_w m1.1 (by decide)) (fun sl a _ => m1.2.2 sl a) w⟩, sg_X9_writeCat_0 hL (d := d + 11) r (fun t => absurd rfl t) (fun _ => sg_X9_writeCat_9 hL (d := d + 11) r1 (fun t => absurd t (by decide)) (fun _ => sg_X9_writeCat_21 r1.2 rfl))⟩
end
