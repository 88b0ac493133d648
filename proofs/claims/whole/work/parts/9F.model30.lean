/-! THE MODEL: its tape is read -/
theorem ht107 : hh_t[107]? = some (.inl (0, 60)) := rfl
theorem ht108 : hh_t[108]? = some (.inl (0, 155)) := rfl
/-- what may stand in the input -/
def tx_ok (t : List Int32) : Prop := ∀ x ∈ t, ∃ k : Nat, 32 ≤ k ∧ k ≤ 126 ∧ x = Int32.ofNat k
def iS (h : ev_AH) (t : List Int32) (p : Nat) : Prop := hh_i h 99 25 = Int32.ofNat t.length ∧ (∀ k, k < t.length → (hh_a h 107).getD k 0 = t.getD k 0) ∧ hh_i h 99 26 = Int32.ofNat p ∧ p ≤ t.length ∧ t.length ≤ 60 ∧ tx_ok t
def nw (t : List Int32) (p : Nat) : Int32 := if p < t.length then t.getD p 0 else -1
theorem nw_eq {t : List Int32} {p k : Nat} (h1 : 1 ≤ k) (h2 : k < 1000) : nw t p = Int32.ofNat k ↔ t.getD p 0 = Int32.ofNat k := by
  unfold nw
  by_cases hp : p < t.length
  · rw [if_pos hp]
  · rw [if_neg hp, List.getD, List.getElem?_eq_none (by omega)]
    constructor
    · intro e
      exact absurd e.symm (ii_ne1 h2)
    · intro e
      have := (ii_eq (a := 0) (by omega) (by omega)).mp e
      omega
/-- a number below 128 that a character may be -/
def gc (c : Int32) : Prop := ∃ k : Nat, 1 ≤ k ∧ k < 1000 ∧ c = Int32.ofNat k
theorem nw_gc {t : List Int32} {p : Nat} {c : Int32} (h : gc c) : nw t p = c ↔ t.getD p 0 = c := by
  obtain ⟨k, h1, h2, rfl⟩ := h
  exact nw_eq h1 h2
/-- behind a step of reading: the place, the commands; all else is as it was -/
def mN (h h' : ev_AH) (p : Nat) (A : List Int32) : Prop := hh_F [99, 108] h h' ∧ hh_i h' 99 26 = Int32.ofNat p ∧ (∀ sl, sl ≠ 26 → hh_i h' 99 sl = hh_i h 99 sl) ∧ hh_a h' 108 = A
theorem mN_tr {h1 h2 h3 : ev_AH} {p q : Nat} {A B : List Int32} (a : mN h1 h2 p A) (b : mN h2 h3 q B) : mN h1 h3 q B := ⟨hh_F_tr a.1 b.1, b.2.1, fun sl hs => (b.2.2.1 sl hs).trans (a.2.2.1 sl hs), b.2.2.2⟩
theorem iS_N {h h' : ev_AH} {t : List Int32} {p q : Nat} {A : List Int32} (a : mN h h' q A) (hq : q ≤ t.length) (s : iS h t p) : iS h' t q := ⟨by rw [a.2.2.1 25 (by omega)]; exact s.1, fun k hk => by rw [hh_F_a a.1 (by decide)]; exact s.2.1 k hk, a.2.1, hq, s.2.2.2.2⟩
theorem gc_nat {k : Nat} (h1 : 1 ≤ k) (h2 : k < 1000) : gc (Int32.ofNat k) := ⟨k, h1, h2, rfl⟩
theorem gc_ne {c : Int32} (h : gc c) : c ≠ 0 := by
  obtain ⟨k, h1, h2, rfl⟩ := h
  intro e
  have := (ii_eq (b := 0) (by omega) (by omega)).mp e
  omega
section
variable {g : tr_g} {d : Nat} {h h' : ev_AH} {t : List Int32} {p : Nat}
theorem mN_rf (s : iS h t p) : mN h h p (hh_a h 108) := ⟨hh_F_rf, s.2.2.1, fun _ _ => rfl, rfl⟩
theorem sp_now (hL : hh_L h) (s : iS h t p) : tr_L g d m_X9_now 0 [some (.ref 1099)] [] h (.inl (some (.int (nw t p))), h) := by
  obtain ⟨s1, s2, s3, s4, s5, s6⟩ := s
  refine sg_X9_now_0 hL (fun q => sg_X9_now_23 hL ?_) (fun q => sg_X9_now_11 hL (j0 := p) s3 ?_ ?_)
  · rw [s1, s3] at q
    have := (ii_le (by omega) (by omega)).mp q
    rw [nw, if_neg (by omega)]
  · rw [s1, s3] at q
    have := (ii_lt (by omega) (by omega)).mp q
    omega
  · rw [s1, s3] at q
    have := (ii_lt (by omega) (by omega)).mp q
    rw [nw, if_pos this, s2 p this]
theorem mN_26 {q : Nat} (hL : hh_L h) : mN h (hh_si h 99 8 26 (Int32.ofNat q)) q (hh_a h 108) := by
  have j : ∀ sl, hh_i (hh_si h 99 8 26 (Int32.ofNat q)) 99 sl = if 26 = sl then Int32.ofNat q else hh_i h 99 sl := fun sl => hh_i_sis hL ht99 (by decide)
  exact ⟨hh_F_si (by decide), by rw [j, if_pos rfl], fun sl hs => by rw [j, if_neg (fun e => hs e.symm)], hh_a_si (by decide)⟩
theorem sp_isSign {c : Int32} (hL : hh_L h) (s : iS h t p) (hc : gc c) : ∃ h', tr_L g (d + 1) m_X9_isSign 0 [some (.ref 1099), some (.int c), none] [] h (.inl (some (.int (bI (tw t [c] p).2.isSome))), h') ∧ mN h h' (tw t [c] p).1 (hh_a h 108) ∧ (tw t [c] p).1 ≤ t.length := by
  have rn := sp_now (g := g) (d := d) hL s
  have e26 := s.2.2.1
  unfold tw
  by_cases e : t.getD p 0 = c
  · rw [if_pos e]
    have hp := gd_lt e (gc_ne hc)
    refine ⟨_, sg_X9_isSign_0 hL rn (fun q => absurd ((nw_gc hc).mpr e) q) (fun _ => sg_X9_isSign_8 hL rfl (fun q => absurd q (by decide)) (fun _ => sg_X9_isSign_23 hL (Or.inr rfl) rfl)), ?_, hp⟩
    rw [e26, ii_s]
    exact mN_26 hL
  · rw [if_neg e]
    refine ⟨_, sg_X9_isSign_0 hL rn (fun _ => sg_X9_isSign_12 hL rfl (fun _ => sg_X9_isSign_27 hL (Or.inl rfl) rfl) (fun q => absurd rfl q)) (fun q => absurd ((nw_gc hc).mp q) e), ?_, s.2.2.2.1⟩
    rw [e26, Int32.add_zero]
    exact mN_26 hL
theorem sp_isWord {a : Nat} {w : List Int32} (hL : hh_L h) (hg : ev_cat1 g.2 = true) (sW : sw g a w) (hw : ∀ c ∈ w, gc c) (s : iS h t p) : ∃ h', tr_L g (d + 4) m_X9_isWord 0 [some (.ref 1099), some (.ref a), none] [] h (.inl (some (.int (bI (tw t w p).2.isSome))), h') ∧ mN h h' (tw t w p).1 (hh_a h 108) ∧ (tw t w p).1 ≤ t.length := by
  obtain ⟨cc, vs0, w1, w2, w3, w4, w5, w6⟩ := id sW
  have loop : ∀ (v : List Int32) (j p : Nat) (h : ev_AH), j + v.length = w.length → (∀ i, i < v.length → w.getD (j + i) 0 = v.getD i 0) → (∀ c ∈ v, gc c) → hh_L h → iS h t p → ∃ h', tr_L g (d + 4) m_X9_isWord 2 [some (.ref 1099), some (.ref a), some (.int (Int32.ofNat j))] [] h (.inl (some (.int (bI (tw t v p).2.isSome))), h') ∧ mN h h' (tw t v p).1 (hh_a h 108) ∧ (tw t v p).1 ≤ t.length := by
    intro v
    induction v with
    | nil =>
      intro j p h hj _ _ hL s
      have hj' : j = w.length := by simpa using hj
      have rl := sw_len (g := g) (d := d + 2) hL sW
      exact ⟨h, sg_X9_isWord_2 hL (d := d + 3) (w1 h) rl (fun _ => sg_X9_isWord_30 hL rfl) (fun q => by rw [hj'] at q; exact lp_end q), mN_rf s, s.2.2.2.1⟩
    | cons c v ih =>
      intro j p h hj hv hgc hL s
      have hjw : j < w.length := by simp at hj; omega
      have rl := sw_len (g := g) (d := d + 2) hL sW
      have rc := sw_at (g := g) (d := d) hL hg sW hjw
      have ec : w.getD j 0 = c := by
        have := hv 0 (by simp)
        simpa using this
      rw [ec] at rc
      obtain ⟨h2, r2, M2, p2⟩ := sp_isSign (g := g) (d := d + 2) hL s (hgc c List.mem_cons_self)
      have pre : ∀ r, ((bI (tw t [c] p).2.isSome ≠ 0) → tr_L g (d + 4) m_X9_isWord 24 [some (.ref 1099), some (.ref a), some (.int (Int32.ofNat j))] [] h2 r) → ((bI (tw t [c] p).2.isSome = 0) → tr_L g (d + 4) m_X9_isWord 22 [some (.ref 1099), some (.ref a), some (.int (Int32.ofNat j))] [] h2 r) → tr_L g (d + 4) m_X9_isWord 2 [some (.ref 1099), some (.ref a), some (.int (Int32.ofNat j))] [] h r := fun r z1 z2 => sg_X9_isWord_2 hL (d := d + 3) (w1 h) rl (fun q => lp_no hjw w5 q) (fun _ => sg_X9_isWord_10 hL (d := d + 3) (w1 h) rc r2 z1 z2)
      unfold tw at M2 p2 pre ⊢
      by_cases e : t.getD p 0 = c
      · rw [if_pos e] at M2 p2 pre ⊢
        have M2 : mN h h2 (p + 1) (hh_a h 108) := M2
        have p2 : p + 1 ≤ t.length := p2
        obtain ⟨h3, r3, M3, p3⟩ := ih (j + 1) (p + 1) h2 (by simp at hj; omega) (fun i hi => by
          have := hv (i + 1) (by simp; omega)
          rw [show j + (i + 1) = j + 1 + i by omega] at this
          simpa using this) (fun c' hc' => hgc c' (List.mem_cons_of_mem _ hc')) r2.2 (iS_N M2 p2 s)
        rw [M2.2.2.2] at M3
        exact ⟨h3, pre _ (fun _ => sg_X9_isWord_24 r2.2 (by rw [ii_s]; exact r3)) (fun q => absurd q (by show ¬ (1 : Int32) = 0; decide)), mN_tr M2 M3, p3⟩
      · rw [if_neg e] at M2 p2 pre ⊢
        exact ⟨h2, pre _ (fun q => absurd rfl q) (fun _ => sg_X9_isWord_22 r2.2 rfl), M2, p2⟩
  obtain ⟨h', r, M, hp⟩ := loop w 0 p h (by omega) (fun i _ => by rw [Nat.zero_add]) hw hL s
  exact ⟨h', sg_X9_isWord_0 hL r, M, hp⟩
theorem A_len (hL : hh_L h) : (hh_a h 108).length = 155 := (hh_arr hL ht108).2
theorem mN_108 {z : Nat} {v : Int32} (hL : hh_L h) (s : iS h t p) : mN h (hh_sa h 108 0 ((hh_a h 108).set z v)) p ((hh_a h 108).set z v) := ⟨hh_F_sa (by decide), by rw [hh_i_sa (by decide)]; exact s.2.2.1, fun sl _ => hh_i_sa (by decide), by rw [hh_a_sa (hh_L_lt hL (by decide)), if_pos rfl]⟩
theorem dig_I {x : Int32} : fa_X9_isIn x 48 57 = bI (dig x).isSome := by
  unfold fa_X9_isIn dig
  by_cases h1 : x < 48
  · rw [if_pos h1, if_neg (fun q => absurd h1 (Int32.not_lt.mpr q.1))]; rfl
  · rw [if_neg h1]
    by_cases h2 : 57 < x
    · rw [if_pos h2, if_neg (fun q => absurd h2 (Int32.not_lt.mpr q.2))]; rfl
    · rw [if_neg h2, if_pos ⟨Int32.not_lt.mp h1, Int32.not_lt.mp h2⟩]; rfl
theorem nw_dig : dig (nw t p) = dig (t.getD p 0) := by
  unfold nw
  by_cases hp : p < t.length
  · rw [if_pos hp]
  · rw [if_neg hp, List.getD, List.getElem?_eq_none (by omega)]
    rfl
def tnV (t : List Int32) (p : Nat) : Int32 := match (tn t p).2 with
  | none => 0
  | some N => Int32.ofNat N
theorem sp_isNumber {z : Nat} (hL : hh_L h) (s : iS h t p) (hz : z < 155) : ∃ h', tr_L g (d + 1) m_X9_isNumber 0 [some (.ref 1099), some (.int (Int32.ofNat z)), none, none] [] h (.inl (some (.int (bI (tn t p).2.isSome))), h') ∧ mN h h' (tn t p).1 ((hh_a h 108).set z (tnV t p)) ∧ (tn t p).1 ≤ t.length := by
  have rn := sp_now (g := g) (d := d) hL s
  have ri := sa_X9_isIn (g := g) (d := d) (x0 := nw t p) (x1 := 48) (x2 := 57) hL
  rw [dig_I, nw_dig] at ri
  have e26 := s.2.2.1
  have h60 := s.2.2.2.2.1
  unfold tnV tn
  cases e1 : dig (t.getD p 0) with
  | none =>
    rw [e1] at ri
    have L9 := hh_L_ss (j := z) (x := 0) hL ht108
    exact ⟨_, sg_X9_isNumber_0 hL (sg_X9_isNumber_4 hL (fun q => absurd q (by decide)) (fun _ => sg_X9_isNumber_9 hL (d := d) rn ri (fun _ => sg_X9_isNumber_52 hL (j0 := z) rfl hz (fun _ => sg_X9_isNumber_67 L9 rfl) (fun q => absurd q (by decide))) (fun q => absurd rfl q))), mN_108 hL s, s.2.2.2.1⟩
  | some a =>
    rw [e1] at ri
    obtain ⟨d0, d1, d2⟩ := dig_ne e1
    have hp := gd_lt rfl d0
    have en : nw t p = t.getD p 0 := by rw [nw, if_pos hp]
    have M2 := mN_26 (q := p + 1) hL
    have s2 := iS_N M2 hp s
    have L2 := ht99_7 (sl := 26) (x := Int32.ofNat (p + 1)) hL (by omega)
    have rn2 := sp_now (g := g) (d := d) L2 s2
    have ri2 := sa_X9_isIn (g := g) (d := d) (x0 := nw t (p + 1)) (x1 := 48) (x2 := 57) L2
    rw [dig_I, nw_dig] at ri2
    have v1 : ((10 : Int32) * 0 + nw t p) - 48 = Int32.ofNat a := by
      rw [en, d1, Int32.mul_zero, Int32.zero_add]
      have := ii_u (48 + a) 48 (by omega)
      rw [Nat.add_sub_cancel_left] at this
      exact this
    have pre : ∀ r, tr_L g (d + 1) m_X9_isNumber 4 [some (.ref 1099), some (.int (Int32.ofNat z)), some (.int (Int32.ofNat a)), some (.int 1)] [] (hh_si h 99 8 26 (Int32.ofNat (p + 1))) r → tr_L g (d + 1) m_X9_isNumber 0 [some (.ref 1099), some (.int (Int32.ofNat z)), none, none] [] h r := fun r k => sg_X9_isNumber_0 hL (sg_X9_isNumber_4 hL (fun q => absurd q (by decide)) (fun _ => sg_X9_isNumber_9 hL (d := d) rn ri (fun q => bI1 q) (fun _ => sg_X9_isNumber_23 hL (d := d) rn (by rw [v1, e26, ii_s]; exact k))))
    cases e2 : dig (t.getD (p + 1) 0) with
    | none =>
      rw [e2] at ri2
      have L9 := hh_L_ss (j := z) (x := Int32.ofNat a) L2 ht108
      have M9 := mN_108 (z := z) (v := Int32.ofNat a) L2 s2
      rw [M2.2.2.2] at M9 L9
      refine ⟨_, pre _ (sg_X9_isNumber_4 L2 (fun q => absurd q (by decide)) (fun _ => sg_X9_isNumber_9 L2 (d := d) rn2 ri2 (fun _ => sg_X9_isNumber_52 L2 (j0 := z) rfl hz (fun q => absurd q (by decide)) (fun _ => ?_)) (fun q => absurd rfl q))), mN_tr M2 M9, hp⟩
      rw [M2.2.2.2]
      exact sg_X9_isNumber_63 L9 rfl
    | some b =>
      rw [e2] at ri2
      obtain ⟨f0, f1, f2⟩ := dig_ne e2
      have hp2 := gd_lt rfl f0
      have en2 : nw t (p + 1) = t.getD (p + 1) 0 := by rw [nw, if_pos hp2]
      have M3 := mN_26 (q := p + 2) L2
      have s3 := iS_N M3 hp2 s2
      have L3 := ht99_7 (sl := 26) (x := Int32.ofNat (p + 2)) L2 (by omega)
      have v2 : ((10 : Int32) * Int32.ofNat a + nw t (p + 1)) - 48 = Int32.ofNat (10 * a + b) := by
        rw [en2, f1, show (10 : Int32) = Int32.ofNat 10 from rfl, ii_m, ii_a]
        have := ii_u (10 * a + (48 + b)) 48 (by omega)
        rw [show 10 * a + (48 + b) - 48 = 10 * a + b by omega] at this
        exact this
      have e26' : hh_i (hh_si h 99 8 26 (Int32.ofNat (p + 1))) 99 26 = Int32.ofNat (p + 1) := M2.2.1
      have L9 := hh_L_ss (j := z) (x := Int32.ofNat (10 * a + b)) L3 ht108
      have M9 := mN_108 (z := z) (v := Int32.ofNat (10 * a + b)) L3 s3
      rw [M3.2.2.2, M2.2.2.2] at M9 L9
      refine ⟨_, pre _ (sg_X9_isNumber_4 L2 (fun q => absurd q (by decide)) (fun _ => sg_X9_isNumber_9 L2 (d := d) rn2 ri2 (fun q => bI1 q) (fun _ => sg_X9_isNumber_23 L2 (d := d) rn2 ?_))), mN_tr M2 (mN_tr M3 M9), hp2⟩
      rw [v2, e26', ii_s]
      refine sg_X9_isNumber_4 L3 (fun _ => sg_X9_isNumber_52 L3 (j0 := z) rfl hz (fun q => absurd q (by decide)) (fun _ => ?_)) (fun q => absurd q (by decide))
      rw [M3.2.2.2, M2.2.2.2]
      exact sg_X9_isNumber_63 L9 rfl
/-- one of some letters, taken -/
theorem sp_takes {z : Nat} {w : List Int32} {m : Int32} (hL : hh_L h) (s : iS h t p) (hz : z < 155) (hm : m = bI (decide (t.getD p 0 ∈ w))) (hw : ∀ c ∈ w, gc c) : ∃ h', tr_L g (d + 1) m_X9_takes 0 [some (.ref 1099), some (.int m), some (.int (Int32.ofNat z))] [] h (.inl (some (.int (bI (tf t w p).2.isSome))), h') ∧ mN h h' (tf t w p).1 ((hh_a h 108).set z (nw t p)) ∧ (tf t w p).1 ≤ t.length := by
  have rn := sp_now (g := g) (d := d) hL s
  have L2 := hh_L_ss (j := z) (x := nw t p) hL ht108
  have M2 := mN_108 (z := z) (v := nw t p) hL s
  have s2 := iS_N M2 s.2.2.2.1 s
  have e26 := s2.2.2.1
  unfold tf
  by_cases e : t.getD p 0 ∈ w
  · rw [if_pos e]
    rw [decide_eq_true e] at hm
    subst hm
    have hp := gd_lt rfl (gc_ne (hw _ e))
    have M3 := mN_26 (q := p + 1) L2
    rw [M2.2.2.2] at M3
    refine ⟨_, sg_X9_takes_0 hL (d := d) (j0 := z) rn rfl hz (fun q => absurd q (by decide)) (fun _ => sg_X9_takes_19 L2 (Or.inr rfl) rfl), ?_, hp⟩
    rw [e26, ii_s]
    exact mN_tr M2 M3
  · rw [if_neg e]
    rw [decide_eq_false e] at hm
    subst hm
    have M3 := mN_26 (q := p) L2
    rw [M2.2.2.2] at M3
    refine ⟨_, sg_X9_takes_0 hL (d := d) (j0 := z) rn rfl hz (fun _ => sg_X9_takes_23 L2 (Or.inl rfl) rfl) (fun q => absurd rfl q), ?_, s.2.2.2.1⟩
    rw [e26, Int32.add_zero]
    exact mN_tr M2 M3
theorem opt_mem : fa_X9_isOption (nw t p) = bI (decide (t.getD p 0 ∈ wOpt)) := by
  rw [ix_opt]
  have key : ∀ x : Int32, (ox x).isSome = decide (x ∈ wOpt) := fun x => by
    rcases ox_c x with ⟨o, ho, e5, e6⟩ | ⟨e5, e6⟩
    · rw [e6, e5]
      have : ∀ o, o < 4 → decide (Int32.ofNat (97 + o) ∈ wOpt) = true := by decide +kernel
      rw [this o ho]
      rfl
    · rw [e5]
      refine (decide_eq_false (fun hm => ?_)).symm
      simp only [wOpt, List.mem_cons, List.not_mem_nil, or_false] at hm
      rcases hm with e | e | e | e
      · exact e6 0 (by omega) e
      · exact e6 1 (by omega) e
      · exact e6 2 (by omega) e
      · exact e6 3 (by omega) e
  rw [key]
  unfold nw
  by_cases hp : p < t.length
  · rw [if_pos hp]
  · rw [if_neg hp, List.getD, List.getElem?_eq_none (by omega)]
    rfl
theorem con_mem : fa_X9_isContent (nw t p) = bI (decide (t.getD p 0 ∈ wCon)) := by
  have key : ∀ x : Int32, fa_X9_isContent x = bI (decide (x ∈ wCon)) := fun x => by
    unfold fa_X9_isContent wCon
    by_cases e1 : x = 47
    · subst e1; decide
    · by_cases e2 : x = 92
      · subst e2; decide
      · by_cases e3 : x = 46
        · subst e3; decide
        · rw [if_neg e1, if_neg e2, if_neg e3, decide_eq_false]
          · rfl
          · intro hm
            simp only [List.mem_cons, List.not_mem_nil, or_false] at hm
            rcases hm with e | e | e
            · exact e1 e
            · exact e2 e
            · exact e3 e
  rw [key]
  unfold nw
  by_cases hp : p < t.length
  · rw [if_pos hp]
  · rw [if_neg hp, List.getD, List.getElem?_eq_none (by omega)]
    rfl
end
