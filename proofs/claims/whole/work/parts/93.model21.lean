/-! THE MODEL: says, votesAll, retries in the making -/
theorem mO_W {h h1 h2 : ev_AH} {o : Int32 × Int32 × Int32 × CT} (m : mW h h1) (b : mO h1 h2 o) : mO h h2 o := ⟨hh_F_tr (hh_F_w m.1 (by decide)) b.1, fun sl h1 h2 => (b.2.1 sl h1 h2).trans (m.2 sl (by omega)), b.2.2.1, b.2.2.2.1, b.2.2.2.2.1, fun e => by rw [b.2.2.2.2.2.1 e, hh_F_a m.1 (by decide)], b.2.2.2.2.2.2⟩
theorem mO_B {h h1 h2 : ev_AH} {o : Int32 × Int32 × Int32 × CT} (m : mB h h1) (b : mO h1 h2 o) : mO h h2 o := ⟨hh_F_tr (hh_F_w m.1 (by decide)) b.1, fun sl h1 h2 => (b.2.1 sl h1 h2).trans (m.2 sl (by omega)), b.2.2.1, b.2.2.2.1, b.2.2.2.2.1, fun e => by rw [b.2.2.2.2.2.1 e, hh_F_a m.1 (by decide)], b.2.2.2.2.2.2⟩
theorem mO_F5 {h h1 h2 : ev_AH} {o : Int32 × Int32 × Int32 × CT} (m : hh_F [105] h h1) (b : mO h1 h2 o) : mO h h2 o := ⟨hh_F_tr (hh_F_w m (by decide)) b.1, fun sl h1 h2 => (b.2.1 sl h1 h2).trans (hh_F_i m (by decide)), b.2.2.1, b.2.2.2.1, b.2.2.2.2.1, fun e => by rw [b.2.2.2.2.2.1 e, hh_F_a m (by decide)], b.2.2.2.2.2.2⟩
def om_says (c : CT) (n : Nat) (x a : Int32) : Int32 × Int32 × Int32 × CT := match idx 24 x with
  | none => (1, 0, 0, c)
  | some p => match ox a with
    | none => (1, 0, 0, c)
    | some o => if ry_cat c n (ct_ry c p).1 = -1 then (2, 3, ry_ex (ct_ry c p).1, c) else (0, 0, 0, ct_hear c (ry_cat c n (ct_ry c p).1).toNatClampNeg (Int32.ofNat o))
def vm_says (c : CT) (n : Nat) (x a : Int32) : Int32 := match idx 24 x with
  | none => 0
  | some p => match ox a with
    | none => 0
    | some _ => if ry_cat c n (ct_ry c p).1 = -1 then 0 else ry_cat c n (ct_ry c p).1
section
variable {g : tr_g} {d : Nat} {h h' : ev_AH} {c : CT} {n B : Nat}
theorem sp_saysM {x a : Int32} (hL : hh_L h) (q : mQ h c n) (w : cw c n B) (he : R_end c) (h12 : hh_i h 99 12 = 0) : ∃ h', tr_L g (d + 3) m_X9_says 0 [some (.ref 1099), some (.int x), some (.int a), none] [] h (.inl (some (.int (vm_says c n x a))), h') ∧ mO h h' (om_says c n x a) := by
  have h7 := q.2.2.1
  have rp := sa_X9_isPort (g := g) (d := d + 1) (x0 := x) hL
  rw [ix_port] at rp
  have ro := sa_X9_isOption (g := g) (d := d + 1) (x0 := a) hL
  rw [ix_opt] at ro
  have bad : ∀ w, ∃ h', tr_L g (d + 3) m_X9_says 15 [some (.ref 1099), some (.int x), some (.int a), w] [.ref 1099] h (.inl (some (.int 0)), h') ∧ mO h h' (1, 0, 0, c) := fun w => by
    have r1 := sp_thr1 (g := g) (d := d + 2) (x := 1) hL
    exact ⟨_, sg_X9_says_15 hL (d := d + 2) r1 (fun t => absurd t (by decide)) (fun _ => sg_X9_says_27 r1.2 rfl), mO_thr (mRc_n q) h12 (mT_set hL)⟩
  unfold vm_says om_says
  rcases idx_c (m := 24) (by omega) x with ⟨p, hp, e3, e4⟩ | ⟨e3, e4⟩
  · rw [e4] at rp
    simp only [e4]
    rcases ox_c a with ⟨o, ho, e5, e6⟩ | ⟨e5, e6⟩
    · rw [e6] at ro
      simp only [e6]
      have r1 := sp_thr0 (g := g) (d := d + 2) (x := 1) hL
      have m1 := mT_set (x := 0) hL
      have q1 := mQ_T m1 q
      obtain ⟨h2, r2, W2, R2⟩ := sp_shines (g := g) (d := d) r1.2 q1 w.2.2.1 hp (he p hp)
      have q2 := mQ_W W2 q1
      have m7 : hh_i h2 99 7 = 0 := by rw [W2.2 7 (by omega)]; exact m1.2.1
      have m12 : hh_i h2 99 12 = 0 := by rw [W2.2 12 (by omega), m1.2.2 12 (by omega)]; exact h12
      have pre : ∀ r', (0 ≤ hh_i h2 99 15 → tr_L g (d + 3) m_X9_says 46 [some (.ref 1099), some (.int x), some (.int a), none] [.ref 1099] h2 r') → (hh_i h2 99 15 < 0 → tr_L g (d + 3) m_X9_says 42 [some (.ref 1099), some (.int x), some (.int a), none] [.ref 1099] h2 r') → tr_L g (d + 3) m_X9_says 0 [some (.ref 1099), some (.int x), some (.int a), none] [] h r' := fun r' z1 z2 => sg_X9_says_0 hL (d := d + 2) rp (fun t => bI1 t) (fun _ => sg_X9_says_8 hL (d := d + 2) ro (fun _ => sg_X9_says_19 hL (d := d + 2) r1 (fun _ => sg_X9_says_29 r1.2 (d := d + 2) (by rw [e3]; exact r2) z1 z2) (fun t => absurd rfl t)) (fun t => bI1 t))
      have L2 := r2.2
      rcases ry_or w.2.2.1 h7 he hp with ⟨k, hk, c1, c2⟩ | ⟨e, he24, c0, c1, c2⟩
      · have i15 : hh_i h2 99 15 = Int32.ofNat k := by rw [R2.1, c1]
        rw [c1, if_neg (ii_ne1 (by omega)), if_neg (ii_ne1 (by omega)), ii_cn (by omega)]
        have r3 := sp_rej0 (g := g) (d := d + 1) (x1 := 3) (x2 := hh_i h2 99 16) (x3 := 2) L2
        have m3 := mT_set (x := 0) L2
        have q3 := mQ_T m3 q2
        have i15' : hh_i (hh_si h2 99 8 7 0) 99 15 = Int32.ofNat k := by rw [m3.2.2 15 (by omega)]; exact i15
        have e12 : hh_i (hh_si h2 99 8 7 0) 99 12 = 0 := by rw [m3.2.2 12 (by omega)]; exact m12
        have e7 := m3.2.1
        have L3 := r3.2
        have r4 := sp_placeM (g := g) (d := d + 1) (k := k) (o := o) L3 q3 hk ho
        have ok0 : ∀ {h9 : ev_AH} {o9 : Int32 × Int32 × Int32 × CT}, mO (hh_si h2 99 8 7 0) h9 o9 → mO h h9 o9 := fun b => mO_T m1 (mO_W W2 (mO_T m3 b))
        have pre2 : ∀ r', tr_L g (d + 3) m_X9_says 61 [some (.ref 1099), some (.int x), some (.int a), none] [] (hh_si h2 99 8 7 0) r' → tr_L g (d + 3) m_X9_says 0 [some (.ref 1099), some (.int x), some (.int a), none] [] h r' := fun r' z => pre r' (fun _ => sg_X9_says_46 L2 (d := d + 2) r3 (fun _ => z) (fun t => absurd rfl t)) (fun t => absurd t (Int32.not_lt.mpr (by rw [i15]; exact ii_nn (by omega))))
        generalize hh_si h2 99 8 7 0 = H at pre2 ok0 r4 L3 i15' e12 e7 q3
        have ls : (hh_a H 100).length = 124 := q3.1.1
        have mm := mR_hear (o := Int32.ofNat o) w.2.1 h7 hk q3.1
        have w' := cw_hear w hk ho
        have ok := ok0 (mO_ok L3 e7 e12 (mRc_of mm w'.1.1 h7))
        have hp3 := ct_pl_le (c := c) (k := k) (x := Int32.ofNat o)
        have ei : a - 97 = Int32.ofNat o := by rw [e5, ii_idx ho]
        have ea := hs_a L3
        have es : ∀ l l', hh_sa (hh_sa H 100 0 l) 100 0 l' = hh_sa H 100 0 l' := fun l l' => hs_s l l'
        have eH := hs_id L3
        -- the end
        have last : ∀ (s1 : List Int32) (w3 : Option Value), s1.length = 124 → s1.getD 5 0 = (hh_a H 100).getD 5 0 → tr_L g (d + 3) m_X9_says 119 [some (.ref 1099), some (.int x), some (.int a), w3] [] (hh_sa H 100 0 s1) (.inl (some (.int (Int32.ofNat k))), hh_sa H 100 0 ((s1.set (54 + 10 * k + 1) (s1.getD (54 + 10 * k + 1) 0 + 1)).set 5 ((hh_a H 100).getD 5 0 + 1))) := fun s1 w3 hl h5 => by
          have LL := hs_L L3 hl
          have j15 : hh_i (hh_sa H 100 0 s1) 99 15 = Int32.ofNat k := by rw [hh_i_sa (by decide)]; exact i15'
          have o1 := sp_of (g := g) (d := d + 2) (k := k) (w := 1) LL (by omega) (by omega)
          rw [ea] at o1
          have t1 := sp_setsL (g := g) (d := d + 2) (k := k) (w := 1) (v := s1.getD (54 + 10 * k + 1) 0 + 1) L3 hl (by omega) (by omega)
          refine sg_X9_says_119 LL (d := d + 2) (j0 := 5) (j1 := 5) (by rw [j15]; exact o1) (by rw [j15]; exact t1) rfl (by omega) rfl (by omega) ?_
          have g5 : (s1.set (54 + 10 * k + 1) (s1.getD (54 + 10 * k + 1) 0 + 1)).getD 5 0 = (hh_a H 100).getD 5 0 := by rw [gs (by omega), if_neg (by omega), h5]
          simp only [ea, es]
          rw [g5, hh_i_sa (by decide), i15']
        by_cases hpl : 0 < ct_pl c k (Int32.ofNat o)
        · have s1e : sHear (hh_a H 100) k (ct_pl c k (Int32.ofNat o)) (Int32.ofNat o) = ((((hh_a H 100).set (54 + 10 * k + 2 + ct_pl c k (Int32.ofNat o)) ((hh_a H 100).getD (54 + 10 * k + 2 + ct_pl c k (Int32.ofNat o) - 1) 0)).set (54 + 10 * k + 2 + ct_pl c k (Int32.ofNat o) - 1) (Int32.ofNat o)).set (54 + 10 * k + 1) ((((hh_a H 100).set (54 + 10 * k + 2 + ct_pl c k (Int32.ofNat o)) ((hh_a H 100).getD (54 + 10 * k + 2 + ct_pl c k (Int32.ofNat o) - 1) 0)).set (54 + 10 * k + 2 + ct_pl c k (Int32.ofNat o) - 1) (Int32.ofNat o)).getD (54 + 10 * k + 1) 0 + 1)).set 5 ((hh_a H 100).getD 5 0 + 1) := by
            unfold sHear
            simp only [if_pos hpl]
          rw [s1e] at ok
          refine ⟨_, pre2 _ (sg_X9_says_61 L3 (d := d + 2) (by rw [i15', ei]; exact r4) (fun t => absurd ((ii_le (b := 0) (by omega) (by omega)).mp t) (by omega)) (fun _ => ?_)), ok⟩
          generalize hplv : ct_pl c k (Int32.ofNat o) = pl at hpl hp3
          have a2 : (2 : Int32) + Int32.ofNat pl = Int32.ofNat (2 + pl) := by rw [show (2 : Int32) = Int32.ofNat 2 from rfl, ii_a]
          have a3 : Int32.ofNat (2 + pl) - 1 = Int32.ofNat (2 + pl - 1) := ii_u (2 + pl) 1 (by omega)
          have o1 := sp_of (g := g) (d := d + 2) (k := k) (w := 2 + pl - 1) L3 (by omega) (by omega)
          have t1 := sp_setsL (g := g) (d := d + 2) (k := k) (w := 2 + pl) (v := (hh_a H 100).getD (54 + 10 * k + (2 + pl - 1)) 0) L3 ls (by omega) (by omega)
          rw [eH] at t1
          have t2 := sp_setsL (g := g) (d := d + 2) (k := k) (w := 2 + pl - 1) (v := Int32.ofNat o) (l := (hh_a H 100).set (54 + 10 * k + (2 + pl)) ((hh_a H 100).getD (54 + 10 * k + (2 + pl - 1)) 0)) L3 (by simp; exact ls) (by omega) (by omega)
          refine sg_X9_says_78 L3 (d := d + 2) (by rw [i15', a2, a3]; exact o1) (by rw [i15', a2]; exact t1) (by rw [hh_i_sa (by decide), i15', a2, a3, ei]; exact t2) ?_
          rw [show 54 + 10 * k + (2 + pl - 1) = 54 + 10 * k + 2 + pl - 1 by omega, show 54 + 10 * k + (2 + pl) = 54 + 10 * k + 2 + pl by omega]
          exact last _ _ (by simp; exact ls) (by rw [gs (by simp; omega), gs (by omega), if_neg (by omega), if_neg (by omega)])
        · have s1e : sHear (hh_a H 100) k (ct_pl c k (Int32.ofNat o)) (Int32.ofNat o) = ((hh_a H 100).set (54 + 10 * k + 1) ((hh_a H 100).getD (54 + 10 * k + 1) 0 + 1)).set 5 ((hh_a H 100).getD 5 0 + 1) := by
            unfold sHear
            simp only [if_neg hpl]
          rw [s1e] at ok
          refine ⟨_, pre2 _ (sg_X9_says_61 L3 (d := d + 2) (by rw [i15', ei]; exact r4) (fun _ => ?_) (fun t => absurd ((ii_lt (a := 0) (by omega) (by omega)).mp t) hpl)), ok⟩
          have z := last (hh_a H 100) (some (.int (Int32.ofNat (ct_pl c k (Int32.ofNat o))))) ls rfl
          rw [eH] at z
          exact z
      · have i15 : hh_i h2 99 15 = -1 := by rw [R2.1, c1]
        rw [if_pos c1, if_pos c1]
        have r3 := sp_rej1 (g := g) (d := d + 1) (x1 := 3) (x2 := hh_i h2 99 16) (x3 := 2) L2
        have ok := mO_T m1 (mO_W W2 (mO_rej (x1 := 3) (x2 := hh_i h2 99 16) (x3 := 2) L2 (mRc_n q2)))
        rw [R2.2.1 e c0, ← c2] at ok
        refine ⟨_, pre _ (fun t => absurd t (by rw [i15]; decide)) (fun _ => sg_X9_says_42 L2 (d := d + 2) r3 (fun t => absurd t (by decide)) (fun _ => sg_X9_says_59 r3.2 ?_)), ok⟩
        rw [R2.2.1 e c0, c2]
    · rw [e5] at ro
      simp only [e5]
      obtain ⟨h9, r9, m9⟩ := bad none
      exact ⟨h9, sg_X9_says_0 hL (d := d + 2) rp (fun t => bI1 t) (fun _ => sg_X9_says_8 hL (d := d + 2) ro (fun t => absurd rfl t) (fun _ => r9)), m9⟩
  · rw [e3] at rp
    simp only [e3]
    obtain ⟨h9, r9, m9⟩ := bad none
    exact ⟨h9, sg_X9_says_0 hL (d := d + 2) rp (fun _ => r9) (fun t => absurd rfl t), m9⟩
/-! a retrial -/
def om_ret (c : CT) (n : Nat) : Int32 × Int32 × Int32 × CT := if ct_may c = 0 then (1, 5, ct_i c 2, c) else (0, 0, 0, ct_again c n)
theorem sp_caused (hL : hh_L h) (q : mQ h c n) : tr_L g d m_X9_isCaused 0 [some (.ref 1099)] [] h (.inl (some (.int (ct_may c))), h) := by
  have e6 := q.1.2.1.2.2.2.2.2.2.1
  have e7 := q.1.2.1.2.2.2.2.2.2.2.1
  have e9 := q.1.2.2.1 0 (by omega)
  have ok6 := q.2.2.2.1.2.2.2.1
  have ok7 := q.2.2.2.1.2.2.2.2
  unfold ct_may
  by_cases h6 : ct_i c 6 = 0
  · rw [if_pos h6]
    exact sg_X9_isCaused_0 hL (j0 := 6) rfl (by omega) (fun _ => sg_X9_isCaused_38 hL rfl) (fun t => by rw [e6, h6] at t; exact absurd t (by decide))
  · rw [if_neg h6]
    have h61 := ok6.resolve_left h6
    refine sg_X9_isCaused_0 hL (j0 := 6) rfl (by omega) (fun t => absurd (by rw [e6, h61]) t) (fun _ => ?_)
    by_cases h9 : (ct_ve c).getD 0 0 = 45
    · rw [if_pos h9]
      exact sg_X9_isCaused_11 hL (j0 := 9) rfl (by omega) (fun _ => sg_X9_isCaused_34 hL rfl) (fun t => absurd (by rw [show (9 : Nat) = 9 + 0 from rfl, e9, h9]) t)
    · rw [if_neg h9]
      refine sg_X9_isCaused_11 hL (j0 := 9) rfl (by omega) (fun t => absurd (by rw [← e9]; exact t) h9) (fun _ => ?_)
      by_cases h7 : ct_i c 7 = 0
      · rw [if_pos h7]
        exact sg_X9_isCaused_23 hL (j0 := 7) rfl (by omega) (fun _ => sg_X9_isCaused_38 hL rfl) (fun t => by rw [e7, h7] at t; exact absurd t (by decide))
      · rw [if_neg h7]
        exact sg_X9_isCaused_23 hL (j0 := 7) rfl (by omega) (fun t => absurd (by rw [e7, ok7.resolve_left h7]) t) (fun _ => sg_X9_isCaused_34 hL rfl)
end
