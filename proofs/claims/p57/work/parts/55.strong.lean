/-! the methods of Votes, the strengths -/
def tI (l : List Int32) (a b : Nat) : Int32 := l.getD (4 * a + b) 0
def mnI (x y : Int32) : Int32 := if y < x then y else x
def mxI (x y : Int32) : Int32 := if x < y then y else x
def fw1 (by_ a b : Nat) (l : List Int32) : List Int32 := l.set (4 * a + b) (mxI (mnI (tI l a by_) (tI l by_ b)) (tI l a b))
def fwo (by_ a : Nat) : Nat → Nat → List Int32 → List Int32
  | 0, _, l => l
  | m + 1, b, l => fwo by_ a m (b + 1) (fw1 by_ a b l)
def fwn (by_ : Nat) : Nat → Nat → List Int32 → List Int32
  | 0, _, l => l
  | m + 1, a, l => fwn by_ m (a + 1) (fwo by_ a 4 0 l)
def fwb : Nat → Nat → List Int32 → List Int32
  | 0, _, l => l
  | m + 1, by_, l => fwb m (by_ + 1) (fwn by_ 4 0 l)
theorem fwo_len {by_ a : Nat} : ∀ m b l, (fwo by_ a m b l).length = l.length
  | 0, _, _ => rfl
  | m + 1, b, l => by rw [fwo, fwo_len m, fw1, List.length_set]
theorem fwn_len {by_ : Nat} : ∀ m a l, (fwn by_ m a l).length = l.length
  | 0, _, _ => rfl
  | m + 1, a, l => by rw [fwn, fwn_len m, fwo_len]
theorem fwb_len : ∀ m b l, (fwb m b l).length = l.length
  | 0, _, _ => rfl
  | m + 1, b, l => by rw [fwb, fwb_len m, fwn_len]
def ct_vl (c : CT) (n : Nat) : List Int32 := (List.range 16).map (fun i => ct_vi c n (i / 4) (i % 4))
def ct_st (c : CT) (n : Nat) : List Int32 := fwb 4 0 (ct_vl c n)
theorem ct_vl_get {c : CT} {n a b : Nat} (ha : a < 4) (hb : b < 4) : (ct_vl c n)[4 * a + b]? = some (ct_vi c n a b) := by
  rw [ct_vl, List.getElem?_map, List.getElem?_range (by omega)]
  simp only [Option.map]
  rw [show (4 * a + b) / 4 = a by omega, show (4 * a + b) % 4 = b by omega]
section
variable {g : tr_g} {d : Nat} {h : ev_AH}
theorem sp_table {a b : Nat} (hL : hh_L h) (ha : a < 4) (hb : b < 4) : tr_L g (d + 1) m_X7_tableStrength 0 [some (.ref 1089), some (.int (Int32.ofNat a)), some (.int (Int32.ofNat b))] [] h (.inl (some (.int (tI (hh_a h 91) a b))), h) := by
  have a1 := sp_atL (g := g) (d := d) (a := 91) (k := 4 * a + b) hL rfl (by decide) (by omega)
  exact sg_X7_tableStrength_0 hL (sp_pair hL) a1 rfl
theorem sp_fill {c : CT} {n : Nat} (hL : hh_L h) (hc : cC h 1 = c) (hn : ct_i c 0 = Int32.ofNat n) (h7 : n ≤ 7) (hP : ct_perm c n) : ∃ h', tr_L g (d + 3) m_X7_fillStrengths 0 [some (.ref 1089), some (.ref 1001), none, none, none, none] [] h (.inl none, h') ∧ hh_F [90, 91] h h' ∧ ct_pr c n h' ∧ hh_a h' 91 = ct_st c n := by
  obtain ⟨h1, b1, b2, b3⟩ := sp_countPairs (g := g) (d := d) hL hc hn h7 hP
  have hL1 := b1.2
  have F : ∀ {h2 : ev_AH}, hh_F [91] h1 h2 → ct_pr c n h2 := fun hF a ha b hb => by rw [hh_F_a hF (by decide)]; exact b3 a ha b hb
  -- one row of the victories
  have ko : ∀ m b a, b + m = 4 → a < 4 → ∀ (h2 : ev_AH), hh_L h2 → hh_F [91] h1 h2 → (∀ i, i < 4 * a + b → (hh_a h2 91)[i]? = (ct_vl c n)[i]?) → ∃ h3, hh_L h3 ∧ hh_F [91] h1 h3 ∧ (∀ i, i < 4 * a + 4 → (hh_a h3 91)[i]? = (ct_vl c n)[i]?) ∧ ∀ res, (∀ w3 w4 w5 : Option Value, tr_L g (d + 3) m_X7_fillStrengths 43 [some (.ref 1089), some (.ref 1001), some (.int (Int32.ofNat a)), w3, w4, w5] [] h3 res) → ∀ w4 w5 : Option Value, tr_L g (d + 3) m_X7_fillStrengths 14 [some (.ref 1089), some (.ref 1001), some (.int (Int32.ofNat a)), some (.int (Int32.ofNat b)), w4, w5] [] h2 res := by
    intro m
    induction m with
    | zero =>
      intro b a hb ha h2 hL2 hF2 hi
      have : b = 4 := by omega
      subst this
      refine ⟨h2, hL2, hF2, hi, fun res kk w4 w5 => sg_X7_fillStrengths_14 hL2 (fun _ => kk _ _ _) (fun t => ?_)⟩
      have := (ii_lt (a := 4) (b := 4) (by omega) (by omega)).mp t
      omega
    | succ m ih =>
      intro b a hb ha h2 hL2 hF2 hi
      have hlen : (hh_a h2 91).length = 16 := (hh_arr hL2 (k := 91) (t := 0) rfl).2
      have v1 := sp_victory (g := g) (d := d) (c := c) (n := n) hL2 (F hF2) ha (show b < 4 by omega)
      have p1 := sp_put (g := g) (d := d + 2) (a := 91) (k := 4 * a + b) (y := ct_vi c n a b) hL2 rfl (by decide) (by omega)
      obtain ⟨h3, q1, q2, q3, q4⟩ := ih (b + 1) a (by omega) ha _ p1.2 (hh_F_tr hF2 (hh_F_sa (by decide))) (fun i hi2 => by
        rw [hh_a_sa (hh_L_lt hL2 (by decide)), if_pos rfl]
        by_cases e : i = 4 * a + b
        · subst e
          rw [List.getElem?_set_self (by omega), ct_vl_get ha (by omega)]
        · rw [List.getElem?_set_ne (by omega)]
          exact hi i (by omega))
      refine ⟨h3, q1, q2, q3, fun res kk w4 w5 => sg_X7_fillStrengths_14 hL2 (fun t => ?_) (fun _ => sg_X7_fillStrengths_19 hL2 (sp_pair hL2) (tr_mono (by omega) v1) p1 ?_)⟩
      · have := (ii_le (a := 4) (by omega) (by omega)).mp t
        omega
      · rw [ii_s]
        exact q4 res kk _ _
  have kn : ∀ m a, a + m = 4 → ∀ (h2 : ev_AH), hh_L h2 → hh_F [91] h1 h2 → (∀ i, i < 4 * a → (hh_a h2 91)[i]? = (ct_vl c n)[i]?) → ∃ h3, hh_L h3 ∧ hh_F [91] h1 h3 ∧ hh_a h3 91 = ct_vl c n ∧ ∀ res, (∀ w2 w3 w4 w5 : Option Value, tr_L g (d + 3) m_X7_fillStrengths 49 [some (.ref 1089), some (.ref 1001), w2, w3, w4, w5] [] h3 res) → ∀ w3 w4 w5 : Option Value, tr_L g (d + 3) m_X7_fillStrengths 7 [some (.ref 1089), some (.ref 1001), some (.int (Int32.ofNat a)), w3, w4, w5] [] h2 res := by
    intro m
    induction m with
    | zero =>
      intro a ha h2 hL2 hF2 hi
      have ha4 : a = 4 := ha
      subst ha4
      have hlen : (hh_a h2 91).length = 16 := (hh_arr hL2 (k := 91) (t := 0) rfl).2
      refine ⟨h2, hL2, hF2, ?_, fun res kk w3 w4 w5 => sg_X7_fillStrengths_7 hL2 (fun _ => kk _ _ _ _) (fun t => ?_)⟩
      · apply List.ext_getElem?
        intro i
        by_cases hi2 : i < 16
        · exact hi i (by omega)
        · rw [List.getElem?_eq_none (by omega), List.getElem?_eq_none (by simp [ct_vl]; omega)]
      · have := (ii_lt (b := 4) (by omega) (by omega)).mp t
        omega
    | succ m ih =>
      intro a ha h2 hL2 hF2 hi
      obtain ⟨h3, q1, q2, q3, q4⟩ := ko 4 0 a (by omega) (by omega) h2 hL2 hF2 (fun i hi2 => hi i (by omega))
      obtain ⟨h4, s1, s2, s3, s4⟩ := ih (a + 1) (by omega) h3 q1 q2 (fun i hi2 => q3 i (by omega))
      refine ⟨h4, s1, s2, s3, fun res kk w3 w4 w5 => sg_X7_fillStrengths_7 hL2 (fun t => ?_) (fun _ => sg_X7_fillStrengths_12 hL2 (q4 res (fun w3 w4 w5 => sg_X7_fillStrengths_43 q1 rfl ?_) _ _))⟩
      · have := (ii_le (a := 4) (by omega) (by omega)).mp t
        omega
      · rw [ii_s]
        exact s4 res kk _ _ _
  -- chains
  have fo : ∀ m b by_ a, b + m = 4 → by_ < 4 → a < 4 → ∀ (h2 : ev_AH), hh_L h2 → hh_F [91] h1 h2 → ∃ h3, hh_L h3 ∧ hh_F [91] h1 h3 ∧ hh_a h3 91 = fwo by_ a m b (hh_a h2 91) ∧ ∀ res, (∀ w4 w5 : Option Value, tr_L g (d + 3) m_X7_fillStrengths 121 [some (.ref 1089), some (.ref 1001), some (.int (Int32.ofNat by_)), some (.int (Int32.ofNat a)), w4, w5] [] h3 res) → ∀ w5 : Option Value, tr_L g (d + 3) m_X7_fillStrengths 66 [some (.ref 1089), some (.ref 1001), some (.int (Int32.ofNat by_)), some (.int (Int32.ofNat a)), some (.int (Int32.ofNat b)), w5] [] h2 res := by
    intro m
    induction m with
    | zero =>
      intro b by_ a hb hby ha h2 hL2 hF2
      refine ⟨h2, hL2, hF2, rfl, fun res kk w5 => sg_X7_fillStrengths_66 hL2 (fun _ => kk _ _) (fun t => ?_)⟩
      have := (ii_lt (b := 4) (by omega) (by omega)).mp t
      omega
    | succ m ih =>
      intro b by_ a hb hby ha h2 hL2 hF2
      have t1 := sp_table (g := g) (d := d + 1) hL2 ha hby
      have t2 := sp_table (g := g) (d := d + 1) hL2 hby (show b < 4 by omega)
      have t3 := sp_table (g := g) (d := d + 1) hL2 ha (show b < 4 by omega)
      have p1 := sp_put (g := g) (d := d + 2) (a := 91) (k := 4 * a + b) (y := mxI (mnI (tI (hh_a h2 91) a by_) (tI (hh_a h2 91) by_ b)) (tI (hh_a h2 91) a b)) hL2 rfl (by decide) (by omega)
      obtain ⟨h3, q1, q2, q3, q4⟩ := ih (b + 1) by_ a (by omega) hby ha _ p1.2 (hh_F_tr hF2 (hh_F_sa (by decide)))
      refine ⟨h3, q1, q2, ?_, fun res kk w5 => sg_X7_fillStrengths_66 hL2 (fun t => ?_) (fun _ => sg_X7_fillStrengths_72 hL2 t1 t2 (sp_pair hL2) t3 p1 ?_)⟩
      · rw [q3, hh_a_sa (hh_L_lt hL2 (by decide)), if_pos rfl]
        rfl
      · have := (ii_le (a := 4) (by omega) (by omega)).mp t
        omega
      · rw [ii_s]
        exact q4 res kk _
  have fn : ∀ m a by_, a + m = 4 → by_ < 4 → ∀ (h2 : ev_AH), hh_L h2 → hh_F [91] h1 h2 → ∃ h3, hh_L h3 ∧ hh_F [91] h1 h3 ∧ hh_a h3 91 = fwn by_ m a (hh_a h2 91) ∧ ∀ res, (∀ w3 w4 w5 : Option Value, tr_L g (d + 3) m_X7_fillStrengths 127 [some (.ref 1089), some (.ref 1001), some (.int (Int32.ofNat by_)), w3, w4, w5] [] h3 res) → ∀ w4 w5 : Option Value, tr_L g (d + 3) m_X7_fillStrengths 58 [some (.ref 1089), some (.ref 1001), some (.int (Int32.ofNat by_)), some (.int (Int32.ofNat a)), w4, w5] [] h2 res := by
    intro m
    induction m with
    | zero =>
      intro a by_ ha hby h2 hL2 hF2
      refine ⟨h2, hL2, hF2, rfl, fun res kk w4 w5 => sg_X7_fillStrengths_58 hL2 (fun _ => kk _ _ _) (fun t => ?_)⟩
      have := (ii_lt (b := 4) (by omega) (by omega)).mp t
      omega
    | succ m ih =>
      intro a by_ ha hby h2 hL2 hF2
      obtain ⟨h3, q1, q2, q3, q4⟩ := fo 4 0 by_ a (by omega) hby (by omega) h2 hL2 hF2
      obtain ⟨h4, s1, s2, s3, s4⟩ := ih (a + 1) by_ (by omega) hby h3 q1 q2
      refine ⟨h4, s1, s2, by rw [s3, q3]; rfl, fun res kk w4 w5 => sg_X7_fillStrengths_58 hL2 (fun t => ?_) (fun _ => sg_X7_fillStrengths_63 hL2 (q4 res (fun w4 w5 => sg_X7_fillStrengths_121 q1 ?_) _))⟩
      · have := (ii_le (a := 4) (by omega) (by omega)).mp t
        omega
      · rw [ii_s]
        exact s4 res kk _ _
  have fb : ∀ m by_, by_ + m = 4 → ∀ (h2 : ev_AH), hh_L h2 → hh_F [91] h1 h2 → ∃ h3, hh_F [91] h1 h3 ∧ hh_a h3 91 = fwb m by_ (hh_a h2 91) ∧ ∀ w3 w4 w5 : Option Value, tr_L g (d + 3) m_X7_fillStrengths 51 [some (.ref 1089), some (.ref 1001), some (.int (Int32.ofNat by_)), w3, w4, w5] [] h2 (.inl none, h3) := by
    intro m
    induction m with
    | zero =>
      intro by_ hby h2 hL2 hF2
      refine ⟨h2, hF2, rfl, fun w3 w4 w5 => sg_X7_fillStrengths_51 hL2 (fun _ => sg_X7_fillStrengths_133 hL2 rfl) (fun t => ?_)⟩
      have := (ii_lt (b := 4) (by omega) (by omega)).mp t
      omega
    | succ m ih =>
      intro by_ hby h2 hL2 hF2
      obtain ⟨h3, q1, q2, q3, q4⟩ := fn 4 0 by_ (by omega) (by omega) h2 hL2 hF2
      obtain ⟨h4, s2, s3, s4⟩ := ih (by_ + 1) (by omega) h3 q1 q2
      refine ⟨h4, s2, by rw [s3, q3]; rfl, fun w3 w4 w5 => sg_X7_fillStrengths_51 hL2 (fun t => ?_) (fun _ => sg_X7_fillStrengths_56 hL2 (q4 _ (fun w3 w4 w5 => sg_X7_fillStrengths_127 q1 rfl ?_) _ _))⟩
      · have := (ii_le (a := 4) (by omega) (by omega)).mp t
        omega
      · rw [ii_s]
        exact s4 _ _ _
  obtain ⟨h2, q1, q2, q3, q4⟩ := kn 4 0 (by omega) h1 hL1 hh_F_rf (fun i hi => absurd hi (by omega))
  obtain ⟨h3, s2, s3, s4⟩ := fb 4 0 (by omega) h2 q1 q2
  refine ⟨h3, sg_X7_fillStrengths_0 hL b1 (q4 _ (fun w2 w3 w4 w5 => sg_X7_fillStrengths_49 q1 rfl (s4 _ _ _)) _ _ _), hh_F_tr (hh_F_w b2 (by decide)) (hh_F_w s2 (by decide)), F s2, ?_⟩
  rw [s3, q3]
  rfl
/-! trying: masks of the options that are reached -/
def rw1 (v : Nat → Nat → Bool) (a b m : Nat) : Nat := if m.testBit a && v a b then m ||| (1 <<< b) else m
def rwo (v : Nat → Nat → Bool) (a : Nat) : Nat → Nat → Nat → Nat
  | 0, _, m => m
  | z + 1, b, m => rwo v a z (b + 1) (rw1 v a b m)
def rwn (v : Nat → Nat → Bool) : Nat → Nat → Nat → Nat
  | 0, _, m => m
  | z + 1, a, m => rwn v z (a + 1) (rwo v a 4 0 m)
def rws (v : Nat → Nat → Bool) : Nat → Nat → Nat
  | 0, m => m
  | z + 1, m => rws v z (rwn v 4 0 m)
theorem rw1_lt {v : Nat → Nat → Bool} {a b m : Nat} (hb : b < 4) (hm : m < 16) : rw1 v a b m < 16 := by
  have : ∀ b, b < 4 → ∀ m, m < 16 → m ||| (1 <<< b) < 16 := by decide +kernel
  unfold rw1
  split
  · exact this b hb m hm
  · exact hm
theorem rwo_lt {v : Nat → Nat → Bool} {a : Nat} : ∀ z b m, b + z = 4 → m < 16 → rwo v a z b m < 16
  | 0, _, _, _, hm => hm
  | z + 1, b, m, hb, hm => rwo_lt z (b + 1) _ (by omega) (rw1_lt (by omega) hm)
theorem rwn_lt {v : Nat → Nat → Bool} : ∀ z a m, m < 16 → rwn v z a m < 16
  | 0, _, _, hm => hm
  | z + 1, a, m, hm => rwn_lt z (a + 1) _ (rwo_lt 4 0 m (by omega) hm)
theorem rws_lt {v : Nat → Nat → Bool} : ∀ z m, m < 16 → rws v z m < 16
  | 0, _, hm => hm
  | z + 1, m, hm => rws_lt z _ (rwn_lt 4 0 m hm)
theorem ii_or : ∀ m, m < 16 → ∀ b, b < 4 → Int32.ofNat m ||| (1 <<< (Int32.ofNat b &&& 31)) = Int32.ofNat (m ||| (1 <<< b)) := by decide +kernel
theorem ii_sh : ∀ b, b < 4 → (1 : Int32) <<< (Int32.ofNat b &&& 31) = Int32.ofNat (1 <<< b) := by decide +kernel
def ct_vb (c : CT) (n : Nat) (t : Int32) (a b : Nat) : Bool := decide (t ≤ ct_vi c n a b)
theorem sp_reached {c : CT} {n a : Nat} {t : Int32} (hL : hh_L h) (hp : ct_pr c n h) (ha : a < 4) : tr_L g (d + 2) m_X7_reachedWith 0 [some (.ref 1089), some (.int t), some (.int (Int32.ofNat a)), none, none, none, none] [] h (.inl (some (.int (Int32.ofNat (rws (ct_vb c n t) 3 (1 <<< a))))), h) := by
  have h1a : ∀ a, a < 4 → 1 <<< a < 16 := by decide +kernel
  have ko : ∀ z b x m s, b + z = 4 → x < 4 → m < 16 → ∀ res, (∀ w6 : Option Value, tr_L g (d + 2) m_X7_reachedWith 65 [some (.ref 1089), some (.int t), some (.int (Int32.ofNat a)), some (.int (Int32.ofNat (rwo (ct_vb c n t) x z b m))), some (.int (Int32.ofNat s)), some (.int (Int32.ofNat x)), w6] [] h res) → tr_L g (d + 2) m_X7_reachedWith 25 [some (.ref 1089), some (.int t), some (.int (Int32.ofNat a)), some (.int (Int32.ofNat m)), some (.int (Int32.ofNat s)), some (.int (Int32.ofNat x)), some (.int (Int32.ofNat b))] [] h res := by
    intro z
    induction z with
    | zero =>
      intro b x m s hb hx hm res kk
      refine sg_X7_reachedWith_25 hL (fun _ => kk _) (fun t => ?_)
      have := (ii_lt (b := 4) (by omega) (by omega)).mp t
      omega
    | succ z ih =>
      intro b x m s hb hx hm res kk
      have i1 := sp_isIn (g := g) (d := d + 1) (m := m) (o := x) hL hm hx
      have v1 := sp_victory (g := g) (d := d) (c := c) (n := n) hL hp hx (show b < 4 by omega)
      have stay : rw1 (ct_vb c n t) x b m = m → tr_L g (d + 2) m_X7_reachedWith 59 [some (.ref 1089), some (.int t), some (.int (Int32.ofNat a)), some (.int (Int32.ofNat m)), some (.int (Int32.ofNat s)), some (.int (Int32.ofNat x)), some (.int (Int32.ofNat b))] [] h res := fun e => by
        refine sg_X7_reachedWith_59 hL ?_
        rw [ii_s]
        refine ih (b + 1) x m s (by omega) hx hm res (fun w6 => ?_)
        have := kk w6
        rw [rwo, e] at this
        exact this
      refine sg_X7_reachedWith_25 hL (fun t => ?_) (fun _ => ?_)
      · have := (ii_le (a := 4) (by omega) (by omega)).mp t
        omega
      · refine sg_X7_reachedWith_31 hL i1 (fun t2 => stay ?_) (fun t2 => ?_)
        · cases hmb : m.testBit x with
          | true => rw [hmb] at t2; exact absurd t2 (by decide)
          | false => rw [rw1, hmb]; rfl
        · have hmb : m.testBit x = true := by
            cases hmb : m.testBit x with
            | true => rfl
            | false => rw [hmb] at t2; exact absurd rfl t2
          refine sg_X7_reachedWith_40 hL v1 (fun t3 => stay ?_) (fun t3 => ?_)
          · rw [rw1, ct_vb, decide_eq_false (Int32.not_le.mpr t3), Bool.and_false]
            rfl
          · refine sg_X7_reachedWith_52 hL rfl ?_
            rw [ii_s, ii_or m hm b (by omega)]
            refine ih (b + 1) x (m ||| 1 <<< b) s (by omega) hx ?_ res (fun w6 => ?_)
            · have := rw1_lt (v := fun _ _ => true) (a := x) (b := b) (m := m) (by omega) hm
              rw [rw1, hmb] at this
              exact this
            · have := kk w6
              rw [rwo, rw1, hmb, ct_vb, decide_eq_true t3] at this
              exact this
  have kn : ∀ z x m s, x + z = 4 → m < 16 → ∀ res, (∀ w5 w6 : Option Value, tr_L g (d + 2) m_X7_reachedWith 71 [some (.ref 1089), some (.int t), some (.int (Int32.ofNat a)), some (.int (Int32.ofNat (rwn (ct_vb c n t) z x m))), some (.int (Int32.ofNat s)), w5, w6] [] h res) → ∀ w6 : Option Value, tr_L g (d + 2) m_X7_reachedWith 16 [some (.ref 1089), some (.int t), some (.int (Int32.ofNat a)), some (.int (Int32.ofNat m)), some (.int (Int32.ofNat s)), some (.int (Int32.ofNat x)), w6] [] h res := by
    intro z
    induction z with
    | zero =>
      intro x m s hx hm res kk w6
      refine sg_X7_reachedWith_16 hL (fun _ => kk _ _) (fun t => ?_)
      have := (ii_lt (b := 4) (by omega) (by omega)).mp t
      omega
    | succ z ih =>
      intro x m s hx hm res kk w6
      refine sg_X7_reachedWith_16 hL (fun t => ?_) (fun _ => sg_X7_reachedWith_22 hL (ko 4 0 x m s (by omega) (by omega) hm res (fun w6 => sg_X7_reachedWith_65 hL ?_)))
      · have := (ii_le (a := 4) (by omega) (by omega)).mp t
        omega
      · rw [ii_s]
        exact ih (x + 1) _ s (by omega) (rwo_lt 4 0 m (by omega) hm) res kk _
  have ks : ∀ z s m, s + z = 4 → m < 16 → ∀ w5 w6 : Option Value, tr_L g (d + 2) m_X7_reachedWith 7 [some (.ref 1089), some (.int t), some (.int (Int32.ofNat a)), some (.int (Int32.ofNat m)), some (.int (Int32.ofNat s)), w5, w6] [] h (.inl (some (.int (Int32.ofNat (rws (ct_vb c n t) z m)))), h) := by
    intro z
    induction z with
    | zero =>
      intro s m hs hm w5 w6
      refine sg_X7_reachedWith_7 hL (fun _ => sg_X7_reachedWith_77 hL rfl) (fun t => ?_)
      have := (ii_lt (b := 4) (by omega) (by omega)).mp t
      omega
    | succ z ih =>
      intro s m hs hm w5 w6
      refine sg_X7_reachedWith_7 hL (fun t => ?_) (fun _ => sg_X7_reachedWith_13 hL (kn 4 0 m s (by omega) hm _ (fun w5 w6 => sg_X7_reachedWith_71 hL ?_) _))
      · have := (ii_le (a := 4) (by omega) (by omega)).mp t
        omega
      · rw [ii_s]
        exact ih (s + 1) _ (by omega) (rwn_lt 4 0 m hm) _ _
  refine sg_X7_reachedWith_0 hL ?_
  rw [ii_sh a ha]
  exact ks 3 1 _ (by omega) (h1a a ha) _ _
/-- the strength by trying, numbers of cats from m on down -/
def ct_ty (c : CT) (n a b : Nat) : Nat → Nat
  | 0 => 0
  | m + 1 => if (rws (ct_vb c n (Int32.ofNat (m + 1))) 3 (1 <<< a)).testBit b then m + 1 else ct_ty c n a b m
theorem sp_tried {c : CT} {n a b m : Nat} (hL : hh_L h) (hp : ct_pr c n h) (ha : a < 4) (hb : b < 4) (hm : m < 1000) : tr_L g (d + 3) m_X7_triedStrength 0 [some (.ref 1089), some (.int (Int32.ofNat m)), some (.int (Int32.ofNat a)), some (.int (Int32.ofNat b)), none] [] h (.inl (some (.int (Int32.ofNat (ct_ty c n a b m)))), h) := by
  have h1a : ∀ a, a < 4 → 1 <<< a < 16 := by decide +kernel
  have key : ∀ k, k ≤ m → tr_L g (d + 3) m_X7_triedStrength 3 [some (.ref 1089), some (.int (Int32.ofNat m)), some (.int (Int32.ofNat a)), some (.int (Int32.ofNat b)), some (.int (Int32.ofNat k))] [] h (.inl (some (.int (Int32.ofNat (ct_ty c n a b k)))), h) := by
    intro k
    induction k with
    | zero =>
      intro _
      refine sg_X7_triedStrength_3 hL (fun _ => sg_X7_triedStrength_31 hL rfl) (fun t => ?_)
      exact absurd ((ii_lt (a := 0) (b := 0) (by omega) (by omega)).mp t) (Nat.lt_irrefl 0)
    | succ k ih =>
      intro hk
      have r1 := sp_reached (g := g) (d := d) (c := c) (n := n) (t := Int32.ofNat (k + 1)) hL hp ha
      have i1 := sp_isIn (g := g) (d := d + 2) (m := rws (ct_vb c n (Int32.ofNat (k + 1))) 3 (1 <<< a)) (o := b) hL (rws_lt 3 _ (h1a a ha)) hb
      have em : Int32.ofNat (k + 1) + (-1) = Int32.ofNat k := by
        rw [← ii_s, Int32.add_assoc]
        simp
      refine sg_X7_triedStrength_3 hL (fun t => ?_) (fun _ => sg_X7_triedStrength_8 hL r1 i1 (fun t => ?_) (fun t => ?_))
      · have := (ii_le (b := 0) (by omega) (by omega)).mp t
        omega
      · refine sg_X7_triedStrength_25 hL ?_
        rw [em, ct_ty]
        split at t
        · exact absurd t (by decide)
        · rename_i hno
          rw [if_neg hno]
          exact ih (by omega)
      · refine sg_X7_triedStrength_22 hL ?_
        rw [ct_ty]
        split at t
        · rename_i hy
          rw [if_pos hy]
        · exact absurd rfl t
  exact sg_X7_triedStrength_0 hL (key m (Nat.le_refl m))
/-- the first option against which o is weaker; 4 if there is none -/
def st_wk (l : List Int32) (o : Nat) : Nat := mm_find (fun b => decide (tI l o b < tI l b o)) 4
theorem sp_holds {o : Nat} (hL : hh_L h) (ho : o < 4) : tr_L g (d + 2) m_X7_holdsAgainstAll 0 [some (.ref 1089), some (.int (Int32.ofNat o)), none] [] h (.inl (some (.int (if st_wk (hh_a h 91) o < 4 then 0 else 1))), h) := by
  have key : ∀ z b, b + z = 4 → (∀ j, j < b → decide (tI (hh_a h 91) o j < tI (hh_a h 91) j o) = false) → tr_L g (d + 2) m_X7_holdsAgainstAll 2 [some (.ref 1089), some (.int (Int32.ofNat o)), some (.int (Int32.ofNat b))] [] h (.inl (some (.int (if st_wk (hh_a h 91) o < 4 then 0 else 1))), h) := by
    intro z
    induction z with
    | zero =>
      intro b hb hbs
      have : b = 4 := by omega
      subst this
      have e : st_wk (hh_a h 91) o = 4 := mm_find_no hbs
      refine sg_X7_holdsAgainstAll_2 hL (fun _ => sg_X7_holdsAgainstAll_30 hL (by rw [e]; rfl)) (fun t => ?_)
      have := (ii_lt (a := 4) (b := 4) (by omega) (by omega)).mp t
      omega
    | succ z ih =>
      intro b hb hbs
      refine sg_X7_holdsAgainstAll_2 hL (fun t => ?_) (fun _ => sg_X7_holdsAgainstAll_7 hL (sp_table hL ho (by omega)) (sp_table hL (by omega) ho) (fun t => sg_X7_holdsAgainstAll_24 hL ?_) (fun t => sg_X7_holdsAgainstAll_22 hL ?_))
      · have := (ii_le (a := 4) (by omega) (by omega)).mp t
        omega
      · rw [ii_s]
        refine ih (b + 1) (by omega) (fun j hj => ?_)
        by_cases hj2 : j < b
        · exact hbs j hj2
        · have : j = b := by omega
          subst this
          exact decide_eq_false (Int32.not_lt.mpr t)
      · have e : st_wk (hh_a h 91) o = b := mm_find_at (by omega) (decide_eq_true t) hbs
        rw [e, if_pos (by omega)]
  exact sg_X7_holdsAgainstAll_0 hL (key 4 0 (by omega) (fun j hj => absurd hj (by omega)))
/-- the winner by strengths: the first of 0 .. 2 that is weaker against none, or 3 -/
def ct_bySt (c : CT) (n : Nat) : Nat := mm_find (fun o => decide (¬ st_wk (ct_st c n) o < 4)) 3
theorem sp_strongest {c : CT} {n : Nat} (hL : hh_L h) (hc : cC h 1 = c) (hn : ct_i c 0 = Int32.ofNat n) (h7 : n ≤ 7) (hP : ct_perm c n) : ∃ h', tr_L g (d + 4) m_X7_findStrongest 0 [some (.ref 1089), some (.ref 1001), none] [] h (.inl (some (.int (Int32.ofNat (ct_bySt c n)))), h') ∧ hh_F [90, 91] h h' := by
  obtain ⟨h1, b1, b2, b3, b4⟩ := sp_fill (g := g) (d := d) hL hc hn h7 hP
  have hL1 := b1.2
  refine ⟨h1, sg_X7_findStrongest_0 hL b1 ?_, b2⟩
  have key : ∀ z o, o + z = 3 → (∀ j, j < o → decide (¬ st_wk (ct_st c n) j < 4) = false) → tr_L g (d + 4) m_X7_findStrongest 7 [some (.ref 1089), some (.ref 1001), some (.int (Int32.ofNat o))] [] h1 (.inl (some (.int (Int32.ofNat (ct_bySt c n)))), h1) := by
    intro z
    induction z with
    | zero =>
      intro o ho hbs
      have : o = 3 := by omega
      subst this
      have e : ct_bySt c n = 3 := mm_find_no hbs
      refine sg_X7_findStrongest_7 hL1 (fun _ => sg_X7_findStrongest_28 hL1 (by rw [e]; rfl)) (fun t => ?_)
      have := (ii_lt (a := 3) (b := 3) (by omega) (by omega)).mp t
      omega
    | succ z ih =>
      intro o ho hbs
      have k1 := sp_holds (g := g) (d := d) (o := o) hL1 (by omega)
      rw [b4] at k1
      refine sg_X7_findStrongest_7 hL1 (fun t => ?_) (fun _ => sg_X7_findStrongest_12 hL1 (tr_mono (by omega) k1) (fun t => sg_X7_findStrongest_22 hL1 rfl ?_) (fun t => sg_X7_findStrongest_20 hL1 ?_))
      · have := (ii_le (a := 3) (by omega) (by omega)).mp t
        omega
      · rw [ii_s]
        refine ih (o + 1) (by omega) (fun j hj => ?_)
        by_cases hj2 : j < o
        · exact hbs j hj2
        · have : j = o := by omega
          subst this
          split at t
          · rename_i hy
            exact decide_eq_false (fun hno => hno hy)
          · exact absurd t (by decide)
      · have e : ct_bySt c n = o := mm_find_at (by omega) (by
          split at t
          · exact absurd rfl t
          · rename_i hy
            exact decide_eq_true hy) hbs
        rw [e]
  exact key 3 0 (by omega) (fun j hj => absurd hj (by omega))
end
