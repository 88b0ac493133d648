/-! THE MODEL: cats by testimonies heard, ports by length -/
section
variable {g : tr_g} {d : Nat} {h h' : ev_AH} {c : CT} {n B : Nat}
theorem mo_catBy {x : Int32} (hL : hh_L h) (q : mQ h c n) (w : cw c n B) (hB : B < 100000) : ∃ h', mT h h' (ans (an_catBy c n x) (fun _ => 1)).2 ∧ tr_L g (d + 12) m_X9_catByHeard 0 [some (.ref 1099), some (.int x), none, none, none, none] [] h (.inl (some (.int (ans (an_catBy c n x) (fun _ => 1)).1)), h') := by
  have h7 := q.2.2.1
  have en := m_n q
  have mc := q.1.2.2.2.2
  rw [an_catBy_eq w hB]
  have inner : ∀ k, k < n → ∀ m o, o + m = n → ∀ w5 r, (∀ w4 w5, tr_L g (d + 12) m_X9_catByHeard 84 [some (.ref 1099), some (.int x), some (.int (Int32.ofNat k)), some (.int (ct_ah c n k)), w4, w5] [] h r) → tr_L g (d + 12) m_X9_catByHeard 17 [some (.ref 1099), some (.int x), some (.int (Int32.ofNat k)), some (.int (mm_sum (fun o => if ct_bef c o k then 1 else 0) o)), some (.int (Int32.ofNat o)), w5] [] h r := by
    intro k hk m
    induction m with
    | zero =>
      intro o ho w5 r kk
      have : o = n := by omega
      subst this
      exact sg_X9_catByHeard_17 hL (j0 := 1) rfl (by omega) (fun _ => kk _ _) (fun t => by rw [en] at t; exact lp_end t)
    | succ m ih =>
      intro o ho w5 r kk
      have hon : o < n := by omega
      have r1 := sp_of (g := g) (d := d + 11) (k := o) (w := 1) hL (by omega) (by omega)
      have r2 := sp_of (g := g) (d := d + 11) (k := k) (w := 1) hL (by omega) (by omega)
      have r3 := sp_of (g := g) (d := d + 11) (k := o) (w := 0) hL (by omega) (by omega)
      have r4 := sp_of (g := g) (d := d + 11) (k := k) (w := 0) hL (by omega) (by omega)
      rw [(mc o hon).2.1] at r1
      rw [(mc k hk).2.1] at r2
      rw [show 54 + 10 * o + 0 = 54 + 10 * o from rfl, (mc o hon).1] at r3
      rw [show 54 + 10 * k + 0 = 54 + 10 * k from rfl, (mc k hk).1] at r4
      have z := fun w5 => ih (o + 1) (by omega) w5 r kk
      rw [mm_sum] at z
      have yes : ct_bef c o k = true → ∀ w3 w5, tr_L g (d + 12) m_X9_catByHeard 71 [some (.ref 1099), some (.int x), some (.int (Int32.ofNat k)), w3, some (.int (Int32.ofNat o)), w5] [.int (mm_sum (fun o => if ct_bef c o k then 1 else 0) o)] h r := fun e w3 w5 => by
        rw [e, if_pos rfl] at z
        exact sg_X9_catByHeard_71 hL (by rw [ii_s]; exact z _)
      have no : ct_bef c o k = false → ∀ w3 w5, tr_L g (d + 12) m_X9_catByHeard 75 [some (.ref 1099), some (.int x), some (.int (Int32.ofNat k)), w3, some (.int (Int32.ofNat o)), w5] [.int (mm_sum (fun o => if ct_bef c o k then 1 else 0) o)] h r := fun e w3 w5 => by
        rw [e, if_neg (by decide)] at z
        exact sg_X9_catByHeard_75 hL (by rw [ii_s]; exact z _)
      refine sg_X9_catByHeard_17 hL (j0 := 1) rfl (by omega) (fun t => by rw [en] at t; exact lp_no hon (by omega) t) (fun _ => sg_X9_catByHeard_28 hL (d := d + 11) r1 r2 (fun t => yes (decide_eq_true (Or.inl t)) _ _) (fun t => sg_X9_catByHeard_50 hL (fun t2 => no (decide_eq_false (fun e => ?_)) _ _) (fun t2 => sg_X9_catByHeard_55 hL (d := d + 11) r3 r4 (fun t3 => no (decide_eq_false (fun e => ?_)) _ _) (fun t3 => yes (decide_eq_true (Or.inr ⟨t2, t3⟩)) _ _))))
      · rcases e with e | e
        · exact absurd e (Int32.not_lt.mpr t)
        · exact t2 e.1
      · rcases e with e | e
        · exact absurd e (Int32.not_lt.mpr t)
        · exact absurd e.2 (Int32.not_lt.mpr t3)
  have outer : ∀ m k, k + m = n → (∀ j, j < k → (ct_ah c n j == x) = false) → ∃ h', mT h h' (ans (an_first (fun k => ct_ah c n k == x) n) (fun _ => 1)).2 ∧ ∀ w3 w4 w5, tr_L g (d + 12) m_X9_catByHeard 2 [some (.ref 1099), some (.int x), some (.int (Int32.ofNat k)), w3, w4, w5] [] h (.inl (some (.int (ans (an_first (fun k => ct_ah c n k == x) n) (fun _ => 1)).1)), h') := by
    intro m
    induction m with
    | zero =>
      intro k hk hb
      have : k = n := by omega
      subst this
      have e : mm_find (fun j => ct_ah c k j == x) k = k := mm_find_no hb
      unfold an_first
      rw [e, if_neg (by omega)]
      exact ⟨_, mT_set hL, fun w3 w4 w5 => sg_X9_catByHeard_2 hL (j0 := 1) rfl (by omega) (fun _ => sg_X9_catByHeard_102 hL rfl) (fun t => by rw [en] at t; exact lp_end t)⟩
    | succ m ih =>
      intro k hk hb
      have hkn : k < n := by omega
      have pre : ∀ w3 w4 w5 r, (∀ w4 w5, tr_L g (d + 12) m_X9_catByHeard 84 [some (.ref 1099), some (.int x), some (.int (Int32.ofNat k)), some (.int (ct_ah c n k)), w4, w5] [] h r) → tr_L g (d + 12) m_X9_catByHeard 2 [some (.ref 1099), some (.int x), some (.int (Int32.ofNat k)), w3, w4, w5] [] h r := fun w3 w4 w5 r kk => sg_X9_catByHeard_2 hL (j0 := 1) rfl (by omega) (fun t => by rw [en] at t; exact lp_no hkn (by omega) t) (fun _ => sg_X9_catByHeard_12 hL (inner k hkn n 0 (by omega) _ r kk))
      by_cases e : ct_ah c n k = x
      · have ef : mm_find (fun j => ct_ah c n j == x) n = k := mm_find_at hkn (beq_iff_eq.mpr e) hb
        unfold an_first
        rw [ef, if_pos hkn]
        exact ⟨_, mT_set hL, fun _ _ _ => pre _ _ _ _ (fun w4 w5 => sg_X9_catByHeard_84 hL (fun t => absurd e t) (fun _ => sg_X9_catByHeard_89 hL rfl))⟩
      · have hb' : ∀ j, j < k + 1 → (ct_ah c n j == x) = false := fun j hj => by
          by_cases ej : j = k
          · rw [ej]; exact beq_eq_false_iff_ne.mpr e
          · exact hb j (by omega)
        obtain ⟨h9, T9, r9⟩ := ih (k + 1) (by omega) hb'
        exact ⟨h9, T9, fun _ _ _ => pre _ _ _ _ (fun w4 w5 => sg_X9_catByHeard_84 hL (fun _ => sg_X9_catByHeard_96 hL (by rw [ii_s]; exact r9 _ _ _)) (fun t => absurd t e))⟩
  obtain ⟨h', T, r⟩ := outer n 0 (by omega) (fun j hj => absurd hj (by omega))
  exact ⟨h', T, sg_X9_catByHeard_0 hL (r _ _ _)⟩
theorem sp_rayLen {p : Nat} (hL : hh_L h) (q : mQ h c n) (hw : co_w c n) (hp : p < 24) (he : R_end c) : ∃ h', tr_L g (d + 3) m_X9_rayLengthOf 0 [some (.ref 1099), some (.int (Int32.ofNat p))] [] h (.inl (some (.int (rl c p))), h') ∧ mW h h' := by
  obtain ⟨h2, r2, W2, R2⟩ := sp_shines (g := g) (d := d) hL q hw hp (he p hp)
  exact ⟨h2, sg_X9_rayLengthOf_0 hL (d := d + 2) r2 (by rw [R2.2.2.1]; rfl), W2⟩
theorem mo_portBy {x : Int32} (hL : hh_L h) (q : mQ h c n) (hw : co_w c n) (he : R_end c) : ∃ h', mV h h' (ans (an_portBy c x) (fun _ => 1)).2 ∧ tr_L g (d + 12) m_X9_portByLength 0 [some (.ref 1099), some (.int x), none, none, none, none] [] h (.inl (some (.int (ans (an_portBy c x) (fun _ => 1)).1)), h') := by
  rw [an_portBy_eq]
  have more : ∀ o p, ((0 < rl c o - rl c p ↔ rl c p < rl c o) ∧ (rl c o - rl c p = 0 ↔ rl c o = rl c p)) := fun o p => by
    have h1 := rl_len (c := c) (p := o)
    have h2 := rl_len (c := c) (p := p)
    unfold rl
    have e1 : (Int32.ofNat (ct_ry c o).2.1 - Int32.ofNat (ct_ry c p).2.1).toInt = ((ct_ry c o).2.1 : Int) - (ct_ry c p).2.1 := ii_su (by omega) (by omega)
    have z : (0 : Int32).toInt = 0 := by decide
    rw [Int32.lt_iff_toInt_lt, ← Int32.toInt_inj, e1, z, ii_lt (by omega) (by omega), ii_eq (by omega) (by omega)]
    omega
  have inner : ∀ p, p < 24 → ∀ m o, o + m = 24 → ∀ (h2 : ev_AH), hh_L h2 → mW h h2 → ∃ h3, hh_L h3 ∧ mW h h3 ∧ ∀ r, (∀ w4 w5, tr_L g (d + 12) m_X9_portByLength 64 [some (.ref 1099), some (.int x), some (.int (Int32.ofNat p)), some (.int (pAh c p)), w4, w5] [] h3 r) → ∀ w5, tr_L g (d + 12) m_X9_portByLength 13 [some (.ref 1099), some (.int x), some (.int (Int32.ofNat p)), some (.int (mm_sum (fun o => if pA c p o then 1 else 0) o)), some (.int (Int32.ofNat o)), w5] [] h2 r := by
    intro p hp m
    induction m with
    | zero =>
      intro o ho h2 L2 W2
      have : o = 24 := by omega
      subst this
      exact ⟨h2, L2, W2, fun r kk w5 => sg_X9_portByLength_13 L2 (fun _ => kk _ _) (fun t => lp_end t)⟩
    | succ m ih =>
      intro o ho h2 L2 W2
      have ho24 : o < 24 := by omega
      obtain ⟨h3, r3, W3⟩ := sp_rayLen (g := g) (d := d + 8) (p := o) L2 (mQ_W W2 q) hw ho24 he
      obtain ⟨h4, r4, W4⟩ := sp_rayLen (g := g) (d := d + 8) (p := p) r3.2 (mQ_W W3 (mQ_W W2 q)) hw hp he
      have L4 := r4.2
      obtain ⟨h5, L5, W5, k5⟩ := ih (o + 1) (by omega) h4 L4 (mW_tr W2 (mW_tr W3 W4))
      refine ⟨h5, L5, W5, fun r kk w5 => ?_⟩
      have z := k5 r kk
      rw [mm_sum] at z
      have yes : pA c p o = true → ∀ w3 w5, tr_L g (d + 12) m_X9_portByLength 51 [some (.ref 1099), some (.int x), some (.int (Int32.ofNat p)), w3, some (.int (Int32.ofNat o)), w5] [.int (mm_sum (fun o => if pA c p o then 1 else 0) o)] h4 r := fun e w3 w5 => by
        rw [e, if_pos rfl] at z
        exact sg_X9_portByLength_51 L4 (by rw [ii_s]; exact z _)
      have no : pA c p o = false → ∀ w3 w5, tr_L g (d + 12) m_X9_portByLength 55 [some (.ref 1099), some (.int x), some (.int (Int32.ofNat p)), w3, some (.int (Int32.ofNat o)), w5] [.int (mm_sum (fun o => if pA c p o then 1 else 0) o)] h4 r := fun e w3 w5 => by
        rw [e, if_neg (by decide)] at z
        exact sg_X9_portByLength_55 L4 (by rw [ii_s]; exact z _)
      obtain ⟨mo1, mo2⟩ := more o p
      refine sg_X9_portByLength_13 L2 (fun t => lp_no ho24 (by omega) t) (fun _ => sg_X9_portByLength_20 L2 (d := d + 11) r3 r4 (fun t => yes ?_ _ _) (fun t => sg_X9_portByLength_40 L4 (fun t2 => no ?_ _ _) (fun t2 => sg_X9_portByLength_45 L4 (fun t3 => no ?_ _ _) (fun t3 => yes ?_ _ _))))
      · unfold pA
        rw [decide_eq_true (mo1.mp t)]
        rfl
      · unfold pA
        rw [decide_eq_false (fun e => absurd (mo1.mpr e) (Int32.not_lt.mpr t)), decide_eq_false (fun e => t2 (mo2.mpr e))]
        rfl
      · have := (ii_le (by omega) (by omega)).mp t3
        unfold pA
        rw [decide_eq_false (fun e => absurd (mo1.mpr e) (Int32.not_lt.mpr t)), decide_eq_false (show ¬ o < p by omega), Bool.and_false]
        rfl
      · have := (ii_lt (by omega) (by omega)).mp t3
        unfold pA
        rw [decide_eq_true (mo2.mp t2), decide_eq_true (show o < p by omega)]
        simp
  have outer : ∀ m p, p + m = 24 → (∀ j, j < p → (pAh c j == x) = false) → ∀ (h2 : ev_AH), hh_L h2 → mW h h2 → ∃ h', mV h h' (ans (an_first (fun p => pAh c p == x) 24) (fun _ => 1)).2 ∧ ∀ w3 w4 w5, tr_L g (d + 12) m_X9_portByLength 2 [some (.ref 1099), some (.int x), some (.int (Int32.ofNat p)), w3, w4, w5] [] h2 (.inl (some (.int (ans (an_first (fun p => pAh c p == x) 24) (fun _ => 1)).1)), h') := by
    intro m
    induction m with
    | zero =>
      intro p hp hb h2 L2 W2
      have : p = 24 := by omega
      subst this
      have e : mm_find (fun j => pAh c j == x) 24 = 24 := mm_find_no hb
      unfold an_first
      rw [e, if_neg (by omega)]
      have T := mT_set (x := 1) L2
      exact ⟨_, ⟨hh_F_tr W2.1 T.1, T.2.1, fun sl a b => (T.2.2 sl a).trans (W2.2 sl b)⟩, fun w3 w4 w5 => sg_X9_portByLength_2 L2 (fun _ => sg_X9_portByLength_82 L2 rfl) (fun t => lp_end t)⟩
    | succ m ih =>
      intro p hp hb h2 L2 W2
      have hp24 : p < 24 := by omega
      obtain ⟨h3, L3, W3, k3⟩ := inner p hp24 24 0 (by omega) h2 L2 W2
      have pre : ∀ w3 w4 w5 r, (∀ w4 w5, tr_L g (d + 12) m_X9_portByLength 64 [some (.ref 1099), some (.int x), some (.int (Int32.ofNat p)), some (.int (pAh c p)), w4, w5] [] h3 r) → tr_L g (d + 12) m_X9_portByLength 2 [some (.ref 1099), some (.int x), some (.int (Int32.ofNat p)), w3, w4, w5] [] h2 r := fun w3 w4 w5 r kk => sg_X9_portByLength_2 L2 (fun t => lp_no hp24 (by omega) t) (fun _ => sg_X9_portByLength_8 L2 (k3 r kk _))
      by_cases e : pAh c p = x
      · have ef : mm_find (fun j => pAh c j == x) 24 = p := mm_find_at hp24 (beq_iff_eq.mpr e) hb
        unfold an_first
        rw [ef, if_pos hp24]
        have T := mT_set (x := 0) L3
        exact ⟨_, ⟨hh_F_tr W3.1 T.1, T.2.1, fun sl a b => (T.2.2 sl a).trans (W3.2 sl b)⟩, fun _ _ _ => pre _ _ _ _ (fun w4 w5 => sg_X9_portByLength_64 L3 (fun t => absurd e t) (fun _ => sg_X9_portByLength_69 L3 rfl))⟩
      · obtain ⟨h9, T9, r9⟩ := ih (p + 1) (by omega) (fun j hj => by
          by_cases ej : j = p
          · rw [ej]; exact beq_eq_false_iff_ne.mpr e
          · exact hb j (by omega)) h3 L3 W3
        exact ⟨h9, T9, fun _ _ _ => pre _ _ _ _ (fun w4 w5 => sg_X9_portByLength_64 L3 (fun _ => sg_X9_portByLength_76 L3 (by rw [ii_s]; exact r9 _ _ _)) (fun t => absurd t e))⟩
  obtain ⟨h', T, r⟩ := outer 24 0 (by omega) (fun j hj => absurd hj (by omega)) h hL mW_rf
  exact ⟨h', T, sg_X9_portByLength_0 hL (r _ _ _)⟩
end
