/-! THE MODEL: its efforts -/
theorem ht104 : hh_t[104]? = some (.inl (0, 140)) := rfl
def eM (h : ev_AH) (E : Nat → Nat) : Prop := ∀ x, x < 140 → (hh_a h 104).getD x 0 = Int32.ofNat (E x) ∧ E x ≤ 9999
/-- a step of the relaxation: lower, not below a closed one; nothing lowered, nothing changed -/
def ST (co : Nat → Int32) (p : Nat) (E : Nat → Nat) (b : Bool) (E' : Nat → Nat) (b' : Bool) : Prop := (∀ x, E' x ≤ E x) ∧ (LE co p 9999 E → LE co p 9999 E') ∧ (b' = false → b = false ∧ ∀ x, E' x = E x) ∧ (b' = true → b = true ∨ ∃ x, x < 140 ∧ E' x < E x)
theorem ST_rf {co : Nat → Int32} {p : Nat} {E : Nat → Nat} {b : Bool} : ST co p E b E b := ⟨fun _ => Nat.le_refl _, fun h => h, fun h => ⟨h, fun _ => rfl⟩, fun h => Or.inl h⟩
theorem ST_tr {co : Nat → Int32} {p : Nat} {E1 E2 E3 : Nat → Nat} {b1 b2 b3 : Bool} (a : ST co p E1 b1 E2 b2) (b : ST co p E2 b2 E3 b3) : ST co p E1 b1 E3 b3 := by
  refine ⟨fun x => Nat.le_trans (b.1 x) (a.1 x), fun h => b.2.1 (a.2.1 h), fun h => ?_, fun h => ?_⟩
  · obtain ⟨h2, e2⟩ := b.2.2.1 h
    obtain ⟨h1, e1⟩ := a.2.2.1 h2
    exact ⟨h1, fun x => (e2 x).trans (e1 x)⟩
  · rcases b.2.2.2 h with h2 | ⟨x, hx, hl⟩
    · rcases a.2.2.2 h2 with h1 | ⟨x, hx, hl⟩
      · exact Or.inl h1
      · exact Or.inr ⟨x, hx, by have := b.1 x; omega⟩
    · exact Or.inr ⟨x, hx, by have := a.1 x; omega⟩
/-- one edge holds -/
def eH (co : Nat → Int32) (E : Nat → Nat) (x t : Nat) : Prop := okE co x t → E (ny x t) ≤ E x + wt co x t
section
variable {g : tr_g} {d : Nat} {h h' : ev_AH} {c : CT} {n B : Nat}
theorem eM_F {ks : List Nat} {E : Nat → Nat} (F : hh_F ks h h') (hk : 104 ∉ ks) (e : eM h E) : eM h' E := fun x hx => by rw [hh_F_a F hk]; exact e x hx
theorem eM_set {E : Nat → Nat} {y v : Nat} (hL : hh_L h) (e : eM h E) (hv : v ≤ 9999) : eM (hh_sa h 104 0 ((hh_a h 104).set y (Int32.ofNat v))) (upE E y v) := fun x hx => by
  have hl := (hh_arr hL ht104).2
  rw [hh_a_sa (hh_L_lt hL (by decide)), if_pos rfl]
  unfold upE
  by_cases e1 : x = y
  · subst e1
    rw [if_pos rfl, gs (by omega), if_pos rfl]
    exact ⟨rfl, hv⟩
  · rw [if_neg e1, getD_set_ne (fun t => e1 t.symm)]
    exact e x hx
theorem opp_I : ∀ w, w < 4 → (Int32.ofNat w + 2 - (Int32.ofNat w + 2) / 4 * 4) = Int32.ofNat (bx_opp w) := by decide +kernel
theorem sp_lowers {q0 w v : Nat} {E : Nat → Nat} (hL : hh_L h) (e : eM h E) (hq : q0 < 35) (hw : w < 4) (hv : v ≤ 10000) : tr_L g d m_X9_lowers 0 [some (.ref 1099), some (.int (Int32.ofNat q0)), some (.int (Int32.ofNat w)), some (.int (Int32.ofNat v))] [] h (.inl (some (.int (bI (decide (v < E (4 * q0 + w)))))), if v < E (4 * q0 + w) then hh_sa h 104 0 ((hh_a h 104).set (4 * q0 + w) (Int32.ofNat v)) else h) := by
  obtain ⟨e1, e2⟩ := e (4 * q0 + w) (by omega)
  refine sg_X9_lowers_0 hL (fun t => absurd t (Int32.not_lt.mpr (ii_nn (by omega)))) (fun _ => sg_X9_lowers_4 hL (j0 := 4 * q0 + w) (ii_4 _ _) (by omega) (fun t => ?_) (fun t => ?_))
  · rw [e1] at t
    have hlt := (ii_lt (by omega) (by omega)).mp t
    rw [if_pos hlt, decide_eq_true hlt]
    exact sg_X9_lowers_20 hL (j0 := 4 * q0 + w) (ii_4 _ _) (by omega) rfl
  · rw [e1] at t
    have hle := (ii_le (by omega) (by omega)).mp t
    rw [if_neg (by omega), decide_eq_false (by omega)]
    exact sg_X9_lowers_18 hL rfl
theorem ge_up {co : Nat → Int32} {p x t : Nat} {E : Nat → Nat} (hx : x < 140) (ht : t < 4) (ok : okE co x t) (hlt : E x + wt co x t < E (ny x t)) {b : Bool} : ST co p E b (upE E (ny x t) (E x + wt co x t)) true := by
  have up : ∀ z, upE E (ny x t) (E x + wt co x t) z = if z = ny x t then E x + wt co x t else E z := fun z => rfl
  have hy := ny_lt hx ht ok.2.2
  refine ⟨fun z => ?_, fun h F hF z hz => ?_, fun h => absurd h (by decide), fun _ => Or.inr ⟨ny x t, hy, by rw [up, if_pos rfl]; exact hlt⟩⟩
  · rw [up]
    split
    · rename_i e
      rw [e]
      omega
    · exact Nat.le_refl _
  · rw [up]
    split
    · rename_i e
      rw [e]
      have h4 := hF.2.2 x hx t ht ok
      have h5 := h F hF x hx
      omega
    · exact h F hF z hz
theorem sp_goesOn {q0 p : Nat} {E : Nat → Nat} (hL : hh_L h) (q : mQ h c n) (hw : co_w c n) (hq : q0 < 35) (h99 : ct_c c q0 ≠ 99) (e : eM h E) : ∃ h' E' b, tr_L g (d + 1) m_X9_goesOn 0 [some (.ref 1099), some (.int (Int32.ofNat q0)), none, none, none, none, none] [] h (.inl (some (.int (bI b))), h') ∧ hh_F [104] h h' ∧ eM h' E' ∧ ST (ct_c c) p E false E' b ∧ (b = false → ∀ w, w < 4 → ∀ t, t < 4 → eH (ct_c c) E (4 * q0 + w) t) := by
  have key : ∀ w, w < 4 → ∀ m t, t + m = 4 → ∀ (h2 : ev_AH) (E2 : Nat → Nat) (b2 : Bool), hh_L h2 → hh_F [104] h h2 → eM h2 E2 → ∃ h3 E3 b3, hh_L h3 ∧ hh_F [104] h h3 ∧ eM h3 E3 ∧ ST (ct_c c) p E2 b2 E3 b3 ∧ (b3 = false → ∀ t', t ≤ t' → t' < 4 → eH (ct_c c) E2 (4 * q0 + w) t') ∧ ∀ r, (∀ w4 w5 w6, tr_L g (d + 1) m_X9_goesOn 110 [some (.ref 1099), some (.int (Int32.ofNat q0)), some (.int (bI b3)), some (.int (Int32.ofNat w)), w4, w5, w6] [] h3 r) → ∀ w5 w6, tr_L g (d + 1) m_X9_goesOn 12 [some (.ref 1099), some (.int (Int32.ofNat q0)), some (.int (bI b2)), some (.int (Int32.ofNat w)), some (.int (Int32.ofNat t)), w5, w6] [] h2 r := by
    intro w hw4 m
    induction m with
    | zero =>
      intro t ht h2 E2 b2 L2 F2 e2
      have : t = 4 := by omega
      subst this
      exact ⟨h2, E2, b2, L2, F2, e2, ST_rf, fun _ t' a b => absurd b (by omega), fun r kk w5 w6 => sg_X9_goesOn_12 L2 (fun _ => kk _ _ _) (fun t => lp_end t)⟩
    | succ m ih =>
      intro t ht h2 E2 b2 L2 F2 e2
      have ht4 : t < 4 := by omega
      have hx : 4 * q0 + w < 140 := by omega
      have d1 : (4 * q0 + w) / 4 = q0 := by omega
      have d2 : (4 * q0 + w) % 4 = w := by omega
      obtain ⟨v1, v2⟩ := e2 (4 * q0 + w) hx
      have q2 := mQ_F F2 (by decide) q
      have rr := sp_reflM (g := g) (d := d) (q0 := q0) (w := w) L2 q2 hw hq hw4 h99
      have ewt : wt (ct_c c) (4 * q0 + w) t = if t = bx_refl (ct_c c q0) w then 0 else 1 := by unfold wt; rw [d1, d2]
      have ok_iff : okE (ct_c c) (4 * q0 + w) t ↔ (t ≠ bx_opp w ∧ bx_nb q0 t ≠ 35) := by unfold okE; rw [d1, d2]; exact ⟨fun a => a.2, fun a => ⟨h99, a⟩⟩
      have eny : ny (4 * q0 + w) t = 4 * bx_nb q0 t + t := by unfold ny; rw [d1]
      have hrl : bx_refl (ct_c c q0) w < 4 := bx_refl_lt hw4
      -- the step
      have step : ∃ h3 E3 b3, hh_L h3 ∧ hh_F [104] h h3 ∧ eM h3 E3 ∧ ST (ct_c c) p E2 b2 E3 b3 ∧ (b3 = false → eH (ct_c c) E2 (4 * q0 + w) t) ∧ ∀ r, (∀ w5 w6, tr_L g (d + 1) m_X9_goesOn 12 [some (.ref 1099), some (.int (Int32.ofNat q0)), some (.int (bI b3)), some (.int (Int32.ofNat w)), some (.int (Int32.ofNat t + 1)), w5, w6] [] h3 r) → ∀ w5 w6, tr_L g (d + 1) m_X9_goesOn 12 [some (.ref 1099), some (.int (Int32.ofNat q0)), some (.int (bI b2)), some (.int (Int32.ofNat w)), some (.int (Int32.ofNat t)), w5, w6] [] h2 r := by
        -- nothing is done
        have skip : ∀ (r : ev_O × ev_AH), (∀ w5 w6, tr_L g (d + 1) m_X9_goesOn 12 [some (.ref 1099), some (.int (Int32.ofNat q0)), some (.int (bI b2)), some (.int (Int32.ofNat w)), some (.int (Int32.ofNat t + 1)), w5, w6] [] h2 r) → ∀ w5 w6, tr_L g (d + 1) m_X9_goesOn 104 [some (.ref 1099), some (.int (Int32.ofNat q0)), some (.int (bI b2)), some (.int (Int32.ofNat w)), some (.int (Int32.ofNat t)), w5, w6] [] h2 r := fun r kk w5 w6 => sg_X9_goesOn_104 L2 (kk _ _)
        by_cases hb : t = bx_opp w
        · refine ⟨h2, E2, b2, L2, F2, e2, ST_rf, fun _ ok => absurd hb (ok_iff.mp ok).1, fun r kk w5 w6 => sg_X9_goesOn_12 L2 (fun t => lp_no ht4 (by omega) t) (fun _ => sg_X9_goesOn_18 L2 (fun z => absurd (by rw [opp_I w hw4, hb]) z) (fun _ => sg_X9_goesOn_28 L2 (d := d) (j0 := 4 * q0 + w) (ii_4 _ _) (by omega) rr (fun _ => sg_X9_goesOn_60 L2 (fun _ => skip r kk _ _) (fun z => absurd z (by decide))) (fun _ => sg_X9_goesOn_56 L2 (fun _ => skip r kk _ _) (fun z => absurd z (by decide)))))⟩
        · -- to the test of the number
          have pre : ∀ (r : ev_O × ev_AH), (∀ w5, tr_L g (d + 1) m_X9_goesOn 69 [some (.ref 1099), some (.int (Int32.ofNat q0)), some (.int (bI b2)), some (.int (Int32.ofNat w)), some (.int (Int32.ofNat t)), w5, some (.int (Int32.ofNat (E2 (4 * q0 + w) + wt (ct_c c) (4 * q0 + w) t)))] [] h2 r) → ∀ w5 w6, tr_L g (d + 1) m_X9_goesOn 12 [some (.ref 1099), some (.int (Int32.ofNat q0)), some (.int (bI b2)), some (.int (Int32.ofNat w)), some (.int (Int32.ofNat t)), w5, w6] [] h2 r := fun r kk w5 w6 => by
            rw [ewt] at kk
            refine sg_X9_goesOn_12 L2 (fun t => lp_no ht4 (by omega) t) (fun _ => sg_X9_goesOn_18 L2 (fun _ => sg_X9_goesOn_32 L2 (d := d) (j0 := 4 * q0 + w) (ii_4 _ _) (by omega) rr (fun z => ?_) (fun z => ?_)) (fun z => absurd ((ii_eq (by omega) (by have := (bx_wf w hw4).1; omega)).mp (by rw [opp_I w hw4] at z; exact z)) hb))
            · rw [if_neg (show ¬ t = bx_refl (ct_c c q0) w from fun e => z (by rw [e]; rfl))] at kk
              refine sg_X9_goesOn_60 L2 (fun z => absurd rfl z) (fun _ => ?_)
              rw [v1, ii_s]
              exact kk _
            · rw [if_pos (show t = bx_refl (ct_c c q0) w from (ii_eq (by omega) (by omega)).mp (show Int32.ofNat t = Int32.ofNat (bx_refl (ct_c c q0) w) from z))] at kk
              refine sg_X9_goesOn_56 L2 (fun z => absurd rfl z) (fun _ => ?_)
              rw [v1, Int32.add_zero]
              exact kk _
          by_cases h9 : E2 (4 * q0 + w) < 9999
          · have rn := sa_X9_next (g := g) (d := d) (x0 := Int32.ofNat q0) (x1 := Int32.ofNat t) L2
            rw [nx_I q0 hq t ht4] at rn
            have to85 : ∀ (r : ev_O × ev_AH), (∀ w5, tr_L g (d + 1) m_X9_goesOn 85 [some (.ref 1099), some (.int (Int32.ofNat q0)), some (.int (bI b2)), some (.int (Int32.ofNat w)), some (.int (Int32.ofNat t)), w5, some (.int (Int32.ofNat (E2 (4 * q0 + w) + wt (ct_c c) (4 * q0 + w) t)))] [] h2 r) → ∀ w5 w6, tr_L g (d + 1) m_X9_goesOn 12 [some (.ref 1099), some (.int (Int32.ofNat q0)), some (.int (bI b2)), some (.int (Int32.ofNat w)), some (.int (Int32.ofNat t)), w5, w6] [] h2 r := fun r kk => pre r (fun w5 => sg_X9_goesOn_69 L2 (j0 := 4 * q0 + w) (ii_4 _ _) (by omega) (fun z => by rw [v1] at z; exact absurd ((ii_le (a := 9999) (by omega) (by omega)).mp z) (by omega)) (fun _ => kk _))
            by_cases h35 : bx_nb q0 t = 35
            · rw [if_pos h35] at rn
              have neg := (po_I q0 hq t ht4).1
              refine ⟨h2, E2, b2, L2, F2, e2, ST_rf, fun _ ok => absurd h35 (ok_iff.mp ok).2, fun r kk => to85 r (fun w5 => sg_X9_goesOn_85 L2 (d := d) (v1 := 0) rn (sg_X9_lowers_0 L2 (fun _ => sg_X9_lowers_18 L2 rfl) (fun z => absurd neg (Int32.not_lt.mpr z))) (fun _ => skip r kk _ _) (fun z => absurd rfl z))⟩
            · rw [if_neg h35] at rn
              have hb35 := bx_lt hq ht4
              have hnb : bx_nb q0 t < 35 := by omega
              have hwt := wt_le (co := ct_c c) (x := 4 * q0 + w) (t := t)
              have rl := sp_lowers (g := g) (d := d) (q0 := bx_nb q0 t) (w := t) (v := E2 (4 * q0 + w) + wt (ct_c c) (4 * q0 + w) t) L2 e2 hnb ht4 (by omega)
              have ok : okE (ct_c c) (4 * q0 + w) t := ok_iff.mpr ⟨hb, h35⟩
              by_cases hl : E2 (4 * q0 + w) + wt (ct_c c) (4 * q0 + w) t < E2 (4 * bx_nb q0 t + t)
              · rw [if_pos hl, decide_eq_true hl] at rl
                have L3 := rl.2
                have e3 := eM_set (y := 4 * bx_nb q0 t + t) (v := E2 (4 * q0 + w) + wt (ct_c c) (4 * q0 + w) t) L2 e2 (by omega)
                have st := ge_up (p := p) (b := b2) hx ht4 ok (by rw [eny]; exact hl)
                rw [eny] at st
                exact ⟨_, _, true, L3, hh_F_tr F2 (hh_F_sa (by decide)), e3, st, fun h => absurd h (by decide), fun r kk => to85 r (fun w5 => sg_X9_goesOn_85 L2 (d := d) rn rl (fun z => absurd z (by decide)) (fun _ => sg_X9_goesOn_102 L3 (kk _ _)))⟩
              · rw [if_neg hl, decide_eq_false hl] at rl
                exact ⟨h2, E2, b2, L2, F2, e2, ST_rf, fun _ _ => by rw [eny]; omega, fun r kk => to85 r (fun w5 => sg_X9_goesOn_85 L2 (d := d) rn rl (fun _ => skip r kk _ _) (fun z => absurd rfl z))⟩
          · refine ⟨h2, E2, b2, L2, F2, e2, ST_rf, fun _ ok => ?_, fun r kk => pre r (fun w5 => sg_X9_goesOn_69 L2 (j0 := 4 * q0 + w) (ii_4 _ _) (by omega) (fun _ => skip r kk _ _) (fun z => by rw [v1] at z; exact absurd ((ii_lt (b := 9999) (by omega) (by omega)).mp z) h9))⟩
            have := (e2 (ny (4 * q0 + w) t) (ny_lt hx ht4 ok.2.2)).2
            omega
      obtain ⟨h3, E3, b3, L3, F3, e3, S3, C3, k3⟩ := step
      obtain ⟨h4, E4, b4, L4, F4, e4, S4, C4, k4⟩ := ih (t + 1) (by omega) h3 E3 b3 L3 F3 e3
      refine ⟨h4, E4, b4, L4, F4, e4, ST_tr S3 S4, fun hb t' a b => ?_, fun r kk => k3 r (fun w5 w6 => by rw [ii_s]; exact k4 r kk _ _)⟩
      have hb3 := (S4.2.2.1 hb).1
      by_cases et : t' = t
      · rw [et]; exact C3 hb3
      · have := C4 hb t' (by omega) b
        have same := (S3.2.2.1 hb3).2
        unfold eH at this ⊢
        rw [same, same] at this
        exact this
  have outer : ∀ m w, w + m = 4 → ∀ (h2 : ev_AH) (E2 : Nat → Nat) (b2 : Bool), hh_L h2 → hh_F [104] h h2 → eM h2 E2 → ∃ h3 E3 b3, hh_F [104] h h3 ∧ eM h3 E3 ∧ ST (ct_c c) p E2 b2 E3 b3 ∧ (b3 = false → ∀ w', w ≤ w' → w' < 4 → ∀ t, t < 4 → eH (ct_c c) E2 (4 * q0 + w') t) ∧ ∀ w4 w5 w6, tr_L g (d + 1) m_X9_goesOn 4 [some (.ref 1099), some (.int (Int32.ofNat q0)), some (.int (bI b2)), some (.int (Int32.ofNat w)), w4, w5, w6] [] h2 (.inl (some (.int (bI b3))), h3) := by
    intro m
    induction m with
    | zero =>
      intro w hw' h2 E2 b2 L2 F2 e2
      have : w = 4 := by omega
      subst this
      refine ⟨h2, E2, b2, F2, e2, ST_rf, fun _ w' a b => absurd b (by omega), fun w4 w5 w6 => sg_X9_goesOn_4 L2 (fun _ => sg_X9_goesOn_116 L2 ?_ rfl) (fun t => lp_end t)⟩
      cases b2
      · exact Or.inl rfl
      · exact Or.inr rfl
    | succ m ih =>
      intro w hw' h2 E2 b2 L2 F2 e2
      obtain ⟨h3, E3, b3, L3, F3, e3, S3, C3, k3⟩ := key w (by omega) 4 0 (by omega) h2 E2 b2 L2 F2 e2
      obtain ⟨h4, E4, b4, F4, e4, S4, C4, k4⟩ := ih (w + 1) (by omega) h3 E3 b3 L3 F3 e3
      refine ⟨h4, E4, b4, F4, e4, ST_tr S3 S4, fun hb w' a b t ht => ?_, fun w4 w5 w6 => sg_X9_goesOn_4 L2 (fun t => lp_no (show w < 4 by omega) (by omega) t) (fun _ => sg_X9_goesOn_9 L2 (k3 _ (fun w4 w5 w6 => sg_X9_goesOn_110 L3 (by rw [ii_s]; exact k4 _ _ _)) _ _))⟩
      have hb3 := (S4.2.2.1 hb).1
      by_cases ew : w' = w
      · rw [ew]; exact C3 hb3 t (by omega) ht
      · have := C4 hb w' (by omega) b t ht
        have same := (S3.2.2.1 hb3).2
        unfold eH at this ⊢
        rw [same, same] at this
        exact this
  obtain ⟨h3, E3, b3, F3, e3, S3, C3, k3⟩ := outer 4 0 (by omega) h E false hL hh_F_rf e
  exact ⟨h3, E3, b3, sg_X9_goesOn_0 hL (k3 _ _ _), F3, e3, S3, fun hb w hw t ht => C3 hb w (by omega) hw t ht⟩
end
