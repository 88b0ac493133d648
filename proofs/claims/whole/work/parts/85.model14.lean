/-! THE MODEL: strengths -/
theorem lp_no {m k : Nat} {p : Prop} (hk : k < m) (hm : m < 1000) (t : Int32.ofNat m ≤ Int32.ofNat k) : p := absurd ((ii_le (by omega) (by omega)).mp t) (by omega)
theorem lp_end {m : Nat} {p : Prop} (t : Int32.ofNat m < Int32.ofNat m) : p := absurd t Int32.lt_irrefl
theorem ht105 : hh_t[105]? = some (.inl (0, 16)) := rfl
def mwc (l : List Int32) (by_ a b : Nat) : Int32 := if tI l a by_ < tI l by_ b then tI l a by_ else tI l by_ b
def mw1 (by_ a b : Nat) (l : List Int32) : List Int32 := if a ≠ b ∧ tI l a b < mwc l by_ a b then l.set (4 * a + b) (mwc l by_ a b) else l
def mwo (by_ a : Nat) : Nat → Nat → List Int32 → List Int32
  | 0, _, l => l
  | m + 1, b, l => mwo by_ a m (b + 1) (mw1 by_ a b l)
def mwn (by_ : Nat) : Nat → Nat → List Int32 → List Int32
  | 0, _, l => l
  | m + 1, a, l => mwn by_ m (a + 1) (mwo by_ a 4 0 l)
def mwb : Nat → Nat → List Int32 → List Int32
  | 0, _, l => l
  | m + 1, by_, l => mwb m (by_ + 1) (mwn by_ 4 0 l)
/-- the tables of the model and of the class are the same, but for the pairs of an option with itself -/
def sEq (l l' : List Int32) : Prop := l.length = 16 ∧ l'.length = 16 ∧ ∀ a, a < 4 → ∀ b, b < 4 → a ≠ b → tI l a b = tI l' a b
theorem tI_set {l : List Int32} {a b p q : Nat} {x : Int32} (hl : l.length = 16) (ha : a < 4) (hb : b < 4) (hp : p < 4) (hq : q < 4) : tI (l.set (4 * p + q) x) a b = if a = p ∧ b = q then x else tI l a b := by
  unfold tI
  by_cases e : a = p ∧ b = q
  · obtain ⟨rfl, rfl⟩ := e
    rw [if_pos ⟨rfl, rfl⟩, getD_set_eq (by omega)]
  · rw [if_neg e, getD_set_ne (by omega)]
theorem mwc_le {l : List Int32} {by_ a b : Nat} : mwc l by_ a b ≤ tI l a by_ ∧ mwc l by_ a b ≤ tI l by_ b := by
  unfold mwc
  split
  · rename_i h
    exact ⟨Int32.le_refl _, Int32.le_of_lt h⟩
  · rename_i h
    exact ⟨Int32.not_lt.mp h, Int32.le_refl _⟩
theorem mxI_ge {x y : Int32} (h : x ≤ y) : mxI x y = y := by
  unfold mxI
  split
  · rfl
  · rename_i h2
    exact Int32.le_antisymm h (Int32.not_lt.mp h2)
theorem mnI_le {x y : Int32} : mnI x y ≤ x ∧ mnI x y ≤ y := by
  unfold mnI
  split
  · rename_i h
    exact ⟨Int32.le_of_lt h, Int32.le_refl _⟩
  · rename_i h
    exact ⟨Int32.le_refl _, Int32.not_lt.mp h⟩
theorem mnI_mw {x y : Int32} : mnI x y = if x < y then x else y := by
  unfold mnI
  split
  · rename_i h
    rw [if_neg (Int32.not_lt.mpr (Int32.le_of_lt h))]
  · rename_i h
    split
    · rfl
    · rename_i h2
      exact Int32.le_antisymm (Int32.not_lt.mp h) (Int32.not_lt.mp h2)
theorem sEq_1 {l l' : List Int32} {by_ a b : Nat} (hy : by_ < 4) (ha : a < 4) (hb : b < 4) (s : sEq l l') : sEq (fw1 by_ a b l) (mw1 by_ a b l') := by
  obtain ⟨s1, s2, s3⟩ := s
  have len : (mw1 by_ a b l').length = 16 := by
    unfold mw1
    split
    · rw [List.length_set]; exact s2
    · exact s2
  refine ⟨by rw [fw1, List.length_set]; exact s1, len, fun p hp q hq hpq => ?_⟩
  rw [fw1, tI_set s1 hp hq ha hb]
  by_cases e : p = a ∧ q = b
  · obtain ⟨rfl, rfl⟩ := e
    rw [if_pos ⟨rfl, rfl⟩]
    by_cases e1 : by_ = p
    · subst e1
      rw [mxI_ge (mnI_le.2), mw1, if_neg (fun t => absurd (mwc_le (l := l') (by_ := by_) (a := by_) (b := q)).2 (Int32.not_le.mpr t.2))]
      exact s3 _ hp _ hq hpq
    · by_cases e2 : by_ = q
      · subst e2
        rw [mxI_ge (mnI_le.1), mw1, if_neg (fun t => absurd (mwc_le (l := l') (by_ := by_) (a := p) (b := by_)).1 (Int32.not_le.mpr t.2))]
        exact s3 _ hp _ hq hpq
      · rw [mnI_mw, s3 p hp by_ hy (fun h => e1 h.symm), s3 by_ hy q hq e2, s3 p hp q hq hpq]
        rw [show (if tI l' p by_ < tI l' by_ q then tI l' p by_ else tI l' by_ q) = mwc l' by_ p q from rfl]
        unfold mw1
        by_cases h : tI l' p q < mwc l' by_ p q
        · rw [if_pos ⟨hpq, h⟩, tI_set s2 hp hq hp hq, if_pos ⟨rfl, rfl⟩]
          unfold mxI
          rw [if_neg (Int32.not_lt.mpr (Int32.le_of_lt h))]
        · rw [if_neg (fun t => h t.2)]
          exact mxI_ge (Int32.not_lt.mp h)
  · rw [if_neg e]
    unfold mw1
    split
    · rw [tI_set s2 hp hq ha hb, if_neg e]
      exact s3 p hp q hq hpq
    · exact s3 p hp q hq hpq
theorem sEq_o {by_ a : Nat} (hy : by_ < 4) (ha : a < 4) : ∀ (m b : Nat) (l l' : List Int32), b + m = 4 → sEq l l' → sEq (fwo by_ a m b l) (mwo by_ a m b l')
  | 0, _, _, _, _, s => s
  | m + 1, b, l, l', hb, s => sEq_o hy ha m (b + 1) _ _ (by omega) (sEq_1 hy ha (by omega) s)
theorem sEq_n {by_ : Nat} (hy : by_ < 4) : ∀ (m a : Nat) (l l' : List Int32), a + m = 4 → sEq l l' → sEq (fwn by_ m a l) (mwn by_ m a l')
  | 0, _, _, _, _, s => s
  | m + 1, a, l, l', ha, s => sEq_n hy m (a + 1) _ _ (by omega) (sEq_o hy (by omega) 4 0 _ _ (by omega) s)
theorem sEq_b : ∀ (m by_ : Nat) (l l' : List Int32), by_ + m = 4 → sEq l l' → sEq (fwb m by_ l) (mwb m by_ l')
  | 0, _, _, _, _, s => s
  | m + 1, by_, l, l', hb, s => sEq_b m (by_ + 1) _ _ (by omega) (sEq_n (by omega) 4 0 _ _ (by omega) s)
theorem ct_vl_len {c : CT} {n : Nat} : (ct_vl c n).length = 16 := by simp [ct_vl]
def ct_sm (c : CT) (n : Nat) : List Int32 := mwb 4 0 (ct_vl c n)
theorem sm_eq {c : CT} {n : Nat} : sEq (ct_st c n) (ct_sm c n) := sEq_b 4 0 _ _ (by omega) ⟨ct_vl_len, ct_vl_len, fun _ _ _ _ _ => rfl⟩
section
variable {g : tr_g} {d : Nat} {h : ev_AH} {c : CT} {n : Nat}
theorem sp_strM (hL : hh_L h) (q : mQ h c n) : ∃ h', tr_L g (d + 3) m_X9_strengths 0 [some (.ref 1099), none, none, none, none, none, none] [] h (.inl none, h') ∧ hh_F [105] h h' ∧ hh_a h' 105 = ct_sm c n := by
  have e4 : ∀ a b : Nat, (4 : Int32) * Int32.ofNat a + Int32.ofNat b = Int32.ofNat (4 * a + b) := ii_4
  have ko : ∀ m b a, b + m = 4 → a < 4 → ∀ (h2 : ev_AH), hh_L h2 → hh_F [105] h h2 → (∀ i, i < 4 * a + b → (hh_a h2 105)[i]? = (ct_vl c n)[i]?) → ∃ h3, hh_L h3 ∧ hh_F [105] h h3 ∧ (∀ i, i < 4 * a + 4 → (hh_a h3 105)[i]? = (ct_vl c n)[i]?) ∧ ∀ res, (∀ w2 w3 w4 w5 w6 : Option Value, tr_L g (d + 3) m_X9_strengths 66 [some (.ref 1099), some (.int (Int32.ofNat a)), w2, w3, w4, w5, w6] [] h3 res) → ∀ w3 w4 w5 w6 : Option Value, tr_L g (d + 3) m_X9_strengths 9 [some (.ref 1099), some (.int (Int32.ofNat a)), some (.int (Int32.ofNat b)), w3, w4, w5, w6] [] h2 res := by
    intro m
    induction m with
    | zero =>
      intro b a hb ha h2 hL2 hF2 hi
      have : b = 4 := by omega
      subst this
      exact ⟨h2, hL2, hF2, hi, fun res kk w3 w4 w5 w6 => sg_X9_strengths_9 hL2 (fun _ => kk _ _ _ _ _) (fun t => lp_end t)⟩
    | succ m ih =>
      intro b a hb ha h2 hL2 hF2 hi
      have hb4 : b < 4 := by omega
      have hlen : (hh_a h2 105).length = 16 := (hh_arr hL2 ht105).2
      have q2 := mQ_F hF2 (by decide) q
      have L3 := hh_L_ss (j := 4 * a + b) (x := ct_vi c n a b) hL2 ht105
      obtain ⟨h3, q1, q2', q3, q4⟩ := ih (b + 1) a (by omega) ha _ L3 (hh_F_tr hF2 (hh_F_sa (by decide))) (fun i hi2 => by
        rw [hh_a_sa (hh_L_lt hL2 (by decide)), if_pos rfl]
        by_cases e : i = 4 * a + b
        · subst e
          rw [List.getElem?_set_self (by omega), ct_vl_get ha (by omega)]
        · rw [List.getElem?_set_ne (by omega)]
          exact hi i (by omega))
      refine ⟨h3, q1, q2', q3, fun res kk w3 w4 w5 w6 => sg_X9_strengths_9 hL2 (fun t => lp_no hb4 (by omega) t) (fun _ => ?_)⟩
      have fin : ∀ w3 w4 w5 w6 : Option Value, tr_L g (d + 3) m_X9_strengths 9 [some (.ref 1099), some (.int (Int32.ofNat a)), some (.int (Int32.ofNat b + 1)), w3, w4, w5, w6] [] (hh_sa h2 105 0 ((hh_a h2 105).set (4 * a + b) (ct_vi c n a b))) res := fun w3 w4 w5 w6 => by
        rw [ii_s]
        exact q4 res kk _ _ _ _
      by_cases hab : a = b
      · subst hab
        have ev : ct_vi c n a a = 0 := by
          unfold ct_vi
          rw [if_neg Int32.lt_irrefl]
        rw [ev] at fin
        exact sg_X9_strengths_14 hL2 (fun t => absurd rfl t) (fun _ => sg_X9_strengths_19 hL2 (fun _ => sg_X9_strengths_58 hL2 (e4 _ _) (by omega) (fin _ _ _ _)) (fun t => absurd rfl t))
      · have nab : Int32.ofNat a ≠ Int32.ofNat b := fun e => hab ((ii_eq (by omega) (by omega)).mp e)
        have l1 := sp_likes (g := g) (d := d) (a := a) (b := b) hL2 q2 ha hb4
        have l2 := sp_likes (g := g) (d := d) (a := b) (b := a) hL2 q2 hb4 ha
        refine sg_X9_strengths_14 hL2 (fun _ => sg_X9_strengths_23 hL2 (d := d + 2) l1 (fun t => absurd t nab) (fun _ => sg_X9_strengths_44 hL2 (d := d + 2) l2 (fun t => ?_) (fun t => ?_))) (fun t => absurd t nab)
        · have ev : ct_vi c n a b = 0 := by
            unfold ct_vi
            rw [if_neg (Int32.not_lt.mpr t)]
          rw [ev] at fin
          exact sg_X9_strengths_58 hL2 (e4 _ _) (by omega) (fin _ _ _ _)
        · have ev : ct_vi c n a b = ct_lk c n a b := by
            unfold ct_vi
            rw [if_pos t]
          rw [ev] at fin
          exact sg_X9_strengths_54 hL2 (e4 _ _) (by omega) (fin _ _ _ _)
  have kn : ∀ m a, a + m = 4 → ∀ (h2 : ev_AH), hh_L h2 → hh_F [105] h h2 → (∀ i, i < 4 * a → (hh_a h2 105)[i]? = (ct_vl c n)[i]?) → ∃ h3, hh_L h3 ∧ hh_F [105] h h3 ∧ hh_a h3 105 = ct_vl c n ∧ ∀ res, (∀ w1 w2 w3 w4 w5 w6 : Option Value, tr_L g (d + 3) m_X9_strengths 72 [some (.ref 1099), w1, w2, w3, w4, w5, w6] [] h3 res) → ∀ w2 w3 w4 w5 w6 : Option Value, tr_L g (d + 3) m_X9_strengths 2 [some (.ref 1099), some (.int (Int32.ofNat a)), w2, w3, w4, w5, w6] [] h2 res := by
    intro m
    induction m with
    | zero =>
      intro a ha h2 hL2 hF2 hi
      have ha4 : a = 4 := ha
      subst ha4
      have hlen : (hh_a h2 105).length = 16 := (hh_arr hL2 ht105).2
      refine ⟨h2, hL2, hF2, ?_, fun res kk w2 w3 w4 w5 w6 => sg_X9_strengths_2 hL2 (fun _ => kk _ _ _ _ _ _) (fun t => lp_end t)⟩
      apply List.ext_getElem?
      intro i
      by_cases hi2 : i < 16
      · exact hi i (by omega)
      · rw [List.getElem?_eq_none (by omega), List.getElem?_eq_none (by rw [ct_vl_len]; omega)]
    | succ m ih =>
      intro a ha h2 hL2 hF2 hi
      obtain ⟨h3, q1, q2, q3, q4⟩ := ko 4 0 a (by omega) (by omega) h2 hL2 hF2 (fun i hi2 => hi i (by omega))
      obtain ⟨h4, s1, s2, s3, s4⟩ := ih (a + 1) (by omega) h3 q1 q2 (fun i hi2 => q3 i (by omega))
      refine ⟨h4, s1, s2, s3, fun res kk w2 w3 w4 w5 w6 => sg_X9_strengths_2 hL2 (fun t => lp_no (show a < 4 by omega) (by omega) t) (fun _ => sg_X9_strengths_7 hL2 (q4 res (fun w2 w3 w4 w5 w6 => sg_X9_strengths_66 q1 ?_) _ _ _ _))⟩
      rw [ii_s]
      exact s4 res kk _ _ _ _ _
  have fo : ∀ m b by_ a, b + m = 4 → by_ < 4 → a < 4 → ∀ (h2 : ev_AH), hh_L h2 → hh_F [105] h h2 → ∃ h3, hh_L h3 ∧ hh_F [105] h h3 ∧ hh_a h3 105 = mwo by_ a m b (hh_a h2 105) ∧ ∀ res, (∀ w3 w4 w5 w6 : Option Value, tr_L g (d + 3) m_X9_strengths 171 [some (.ref 1099), some (.int (Int32.ofNat by_)), some (.int (Int32.ofNat a)), w3, w4, w5, w6] [] h3 res) → ∀ w4 w5 w6 : Option Value, tr_L g (d + 3) m_X9_strengths 88 [some (.ref 1099), some (.int (Int32.ofNat by_)), some (.int (Int32.ofNat a)), some (.int (Int32.ofNat b)), w4, w5, w6] [] h2 res := by
    intro m
    induction m with
    | zero =>
      intro b by_ a hb hby ha h2 hL2 hF2
      have : b = 4 := by omega
      subst this
      exact ⟨h2, hL2, hF2, rfl, fun res kk w4 w5 w6 => sg_X9_strengths_88 hL2 (fun _ => kk _ _ _ _) (fun t => lp_end t)⟩
    | succ m ih =>
      intro b by_ a hb hby ha h2 hL2 hF2
      have hb4 : b < 4 := by omega
      -- the heap behind the step
      have st : ∃ h3, hh_L h3 ∧ hh_F [105] h h3 ∧ hh_a h3 105 = mw1 by_ a b (hh_a h2 105) ∧ ∀ res, (∀ w4 w5 w6 : Option Value, tr_L g (d + 3) m_X9_strengths 88 [some (.ref 1099), some (.int (Int32.ofNat by_)), some (.int (Int32.ofNat a)), some (.int (Int32.ofNat b + 1)), w4, w5, w6] [] h3 res) → ∀ w4 w5 w6 : Option Value, tr_L g (d + 3) m_X9_strengths 88 [some (.ref 1099), some (.int (Int32.ofNat by_)), some (.int (Int32.ofNat a)), some (.int (Int32.ofNat b)), w4, w5, w6] [] h2 res := by
        have pre : ∀ res, (∀ w4 w5 : Option Value, tr_ow w5 = true → ∀ x, x = mwc (hh_a h2 105) by_ a b → (a ≠ b → tr_L g (d + 3) m_X9_strengths 138 [some (.ref 1099), some (.int (Int32.ofNat by_)), some (.int (Int32.ofNat a)), some (.int (Int32.ofNat b)), w4, w5, some (.int x)] [] h2 res) ∧ (a = b → tr_L g (d + 3) m_X9_strengths 165 [some (.ref 1099), some (.int (Int32.ofNat by_)), some (.int (Int32.ofNat a)), some (.int (Int32.ofNat b)), w4, w5, some (.int x)] [] h2 res)) → ∀ w4 w5 w6 : Option Value, tr_L g (d + 3) m_X9_strengths 88 [some (.ref 1099), some (.int (Int32.ofNat by_)), some (.int (Int32.ofNat a)), some (.int (Int32.ofNat b)), w4, w5, w6] [] h2 res := by
          intro res kk w4 w5 w6
          refine sg_X9_strengths_88 hL2 (fun t => lp_no hb4 (by omega) t) (fun _ => sg_X9_strengths_93 hL2 (e4 _ _) (by omega) (e4 _ _) (by omega) (fun t => ?_) (fun t => ?_))
          · have ex : (hh_a h2 105).getD (4 * by_ + b) 0 = mwc (hh_a h2 105) by_ a b := (if_neg (Int32.not_lt.mpr t)).symm
            exact sg_X9_strengths_129 hL2 (fun t2 => (kk _ _ rfl _ ex).2 ((ii_eq (by omega) (by omega)).mp t2)) (fun t2 => (kk _ _ rfl _ ex).1 (fun e => t2 (by rw [e])))
          · have ex : (hh_a h2 105).getD (4 * a + by_) 0 = mwc (hh_a h2 105) by_ a b := (if_pos t).symm
            exact sg_X9_strengths_124 hL2 rfl (fun t2 => (kk _ _ rfl _ ex).2 ((ii_eq (by omega) (by omega)).mp t2)) (fun t2 => (kk _ _ rfl _ ex).1 (fun e => t2 (by rw [e])))
        unfold mw1
        by_cases hc : a ≠ b ∧ tI (hh_a h2 105) a b < mwc (hh_a h2 105) by_ a b
        · rw [if_pos hc]
          have L3 := hh_L_ss (j := 4 * a + b) (x := mwc (hh_a h2 105) by_ a b) hL2 ht105
          refine ⟨_, L3, hh_F_tr hF2 (hh_F_sa (by decide)), by rw [hh_a_sa (hh_L_lt hL2 (by decide)), if_pos rfl], fun res kk => pre res (fun w4 w5 o5 x hx => ⟨fun _ => sg_X9_strengths_138 hL2 (e4 _ _) (by omega) (fun t => absurd hc.2 (by rw [← hx]; exact Int32.not_lt.mpr t)) (fun _ => sg_X9_strengths_153 hL2 (e4 _ _) (by omega) (by rw [hx]; exact kk _ _ _)), fun e => absurd e hc.1⟩)⟩
        · rw [if_neg hc]
          refine ⟨h2, hL2, hF2, rfl, fun res kk => pre res (fun w4 w5 o5 x hx => ⟨fun hab => sg_X9_strengths_138 hL2 (e4 _ _) (by omega) (fun _ => sg_X9_strengths_165 hL2 (kk _ _ _)) (fun t => absurd ⟨hab, (by rw [← hx]; exact t)⟩ hc), fun _ => sg_X9_strengths_165 hL2 (kk _ _ _)⟩)⟩
      obtain ⟨h3, q1, q2, q3, q4⟩ := st
      obtain ⟨h4, s1, s2, s3, s4⟩ := ih (b + 1) by_ a (by omega) hby ha h3 q1 q2
      exact ⟨h4, s1, s2, by rw [s3, q3]; rfl, fun res kk => q4 res (fun w4 w5 w6 => by rw [ii_s]; exact s4 res kk _ _ _)⟩
  have fn : ∀ m a by_, a + m = 4 → by_ < 4 → ∀ (h2 : ev_AH), hh_L h2 → hh_F [105] h h2 → ∃ h3, hh_L h3 ∧ hh_F [105] h h3 ∧ hh_a h3 105 = mwn by_ m a (hh_a h2 105) ∧ ∀ res, (∀ w2 w3 w4 w5 w6 : Option Value, tr_L g (d + 3) m_X9_strengths 177 [some (.ref 1099), some (.int (Int32.ofNat by_)), w2, w3, w4, w5, w6] [] h3 res) → ∀ w3 w4 w5 w6 : Option Value, tr_L g (d + 3) m_X9_strengths 81 [some (.ref 1099), some (.int (Int32.ofNat by_)), some (.int (Int32.ofNat a)), w3, w4, w5, w6] [] h2 res := by
    intro m
    induction m with
    | zero =>
      intro a by_ ha hby h2 hL2 hF2
      have : a = 4 := by omega
      subst this
      exact ⟨h2, hL2, hF2, rfl, fun res kk w3 w4 w5 w6 => sg_X9_strengths_81 hL2 (fun _ => kk _ _ _ _ _) (fun t => lp_end t)⟩
    | succ m ih =>
      intro a by_ ha hby h2 hL2 hF2
      obtain ⟨h3, q1, q2, q3, q4⟩ := fo 4 0 by_ a (by omega) hby (by omega) h2 hL2 hF2
      obtain ⟨h4, s1, s2, s3, s4⟩ := ih (a + 1) by_ (by omega) hby h3 q1 q2
      refine ⟨h4, s1, s2, by rw [s3, q3]; rfl, fun res kk w3 w4 w5 w6 => sg_X9_strengths_81 hL2 (fun t => lp_no (show a < 4 by omega) (by omega) t) (fun _ => sg_X9_strengths_86 hL2 (q4 res (fun w3 w4 w5 w6 => sg_X9_strengths_171 q1 ?_) _ _ _))⟩
      rw [ii_s]
      exact s4 res kk _ _ _ _
  have fb : ∀ m by_, by_ + m = 4 → ∀ (h2 : ev_AH), hh_L h2 → hh_F [105] h h2 → ∃ h3, hh_F [105] h h3 ∧ hh_a h3 105 = mwb m by_ (hh_a h2 105) ∧ ∀ w2 w3 w4 w5 w6 : Option Value, tr_L g (d + 3) m_X9_strengths 74 [some (.ref 1099), some (.int (Int32.ofNat by_)), w2, w3, w4, w5, w6] [] h2 (.inl none, h3) := by
    intro m
    induction m with
    | zero =>
      intro by_ hby h2 hL2 hF2
      have : by_ = 4 := by omega
      subst this
      exact ⟨h2, hF2, rfl, fun w2 w3 w4 w5 w6 => sg_X9_strengths_74 hL2 (fun _ => sg_X9_strengths_183 hL2 rfl) (fun t => lp_end t)⟩
    | succ m ih =>
      intro by_ hby h2 hL2 hF2
      obtain ⟨h3, q1, q2, q3, q4⟩ := fn 4 0 by_ (by omega) (by omega) h2 hL2 hF2
      obtain ⟨h4, s2, s3, s4⟩ := ih (by_ + 1) (by omega) h3 q1 q2
      refine ⟨h4, s2, by rw [s3, q3]; rfl, fun w2 w3 w4 w5 w6 => sg_X9_strengths_74 hL2 (fun t => lp_no (show by_ < 4 by omega) (by omega) t) (fun _ => sg_X9_strengths_79 hL2 (q4 _ (fun w2 w3 w4 w5 w6 => sg_X9_strengths_177 q1 ?_) _ _ _ _))⟩
      rw [ii_s]
      exact s4 _ _ _ _ _
  obtain ⟨h2, q1, q2, q3, q4⟩ := kn 4 0 (by omega) h hL hh_F_rf (fun i hi => absurd hi (by omega))
  obtain ⟨h3, s2, s3, s4⟩ := fb 4 0 (by omega) h2 q1 q2
  refine ⟨h3, sg_X9_strengths_0 hL (q4 _ (fun w1 w2 w3 w4 w5 w6 => sg_X9_strengths_72 q1 (s4 _ _ _ _ _)) _ _ _ _ _), s2, ?_⟩
  rw [s3, q3]
  rfl
end
