/-! THE MODEL: calls about rays -/
def mV (h h' : ev_AH) (x : Int32) : Prop := hh_F [99] h h' ∧ hh_i h' 99 7 = x ∧ ∀ sl, sl ≠ 7 → (sl < 15 ∨ 18 < sl) → hh_i h' 99 sl = hh_i h 99 sl
theorem mV_T {h h' : ev_AH} {x : Int32} (a : mT h h' x) : mV h h' x := ⟨a.1, a.2.1, fun sl h1 _ => a.2.2 sl h1⟩
theorem mV_TW {h1 h2 h3 : ev_AH} {x : Int32} (a : mV h1 h2 x) (b : mW h2 h3) : mV h1 h3 x := ⟨hh_F_tr a.1 b.1, by rw [b.2 7 (by omega)]; exact a.2.1, fun sl h1 h2 => (b.2 sl h2).trans (a.2.2 sl h1 h2)⟩
theorem mV_VT {h1 h2 h3 : ev_AH} {x y : Int32} (a : mV h1 h2 x) (b : mT h2 h3 y) : mV h1 h3 y := ⟨hh_F_tr a.1 b.1, b.2.1, fun sl h1 h2 => (b.2.2 sl h1).trans (a.2.2 sl h1 h2)⟩
/-- every ray ends -/
def R_end (c : CT) : Prop := ∀ p, p < 24 → (ct_ry c p).1 ≠ none
theorem bx_port_lt : ∀ q, q < 35 → ∀ w, w < 4 → bx_port q w < 24 := by decide +kernel
theorem ry_res {co : Nat → Int32} : ∀ (m q w len b : Nat), q < 35 → w < 4 → (∀ z, (ry co m q w len b).1 = some (.inl z) → z < 35 ∧ co z = 99) ∧ (∀ e, (ry co m q w len b).1 = some (.inr e) → e < 24) := by
  intro m
  induction m with
  | zero =>
    intro q w len b _ _
    exact ⟨fun z h => (by cases h), fun e h => (by cases h)⟩
  | succ m ih =>
    intro q w len b hq hw
    unfold ry
    by_cases h99 : co q = 99
    · rw [if_pos h99]
      exact ⟨fun z h => by
        have h := Sum.inl.inj (Option.some.inj h)
        rw [← h]
        exact ⟨hq, h99⟩, fun e h => (by cases h)⟩
    · rw [if_neg h99]
      have hw2 : bx_refl (co q) w < 4 := bx_refl_lt hw
      by_cases hn : bx_nb q (bx_refl (co q) w) = 35
      · rw [if_pos hn]
        exact ⟨fun z h => (by cases h), fun e h => by
          have h := Sum.inr.inj (Option.some.inj h)
          rw [← h]
          exact bx_port_lt q hq _ hw2⟩
      · rw [if_neg hn]
        have := bx_lt hq hw2
        exact ih _ _ _ _ (by omega) hw2
section
variable {g : tr_g} {d : Nat} {h h' : ev_AH} {c : CT} {n : Nat}
/-- a ray ends at a cat, or at a port -/
theorem ry_or (hw : co_w c n) (h7 : n ≤ 7) (he : R_end c) {p : Nat} (hp : p < 24) : (∃ k, k < n ∧ ry_cat c n (ct_ry c p).1 = Int32.ofNat k ∧ ry_ex (ct_ry c p).1 = -1) ∨ (∃ e, e < 24 ∧ (ct_ry c p).1 = some (.inr e) ∧ ry_cat c n (ct_ry c p).1 = -1 ∧ ry_ex (ct_ry c p).1 = Int32.ofNat e) := by
  obtain ⟨f1, f2⟩ := bx_facts p hp
  have r := ry_res (co := ct_c c) 140 (bx_cell p) (bx_dir p) 0 0 f1 f2
  have h0 := he p hp
  cases hr : (ct_ry c p).1 with
  | none => exact absurd hr h0
  | some z =>
    cases z with
    | inl q =>
      obtain ⟨a1, a2⟩ := r.1 q hr
      have hc : ct_cat c n (Int32.ofNat q) < n := (hw q a1).2.mp a2
      refine Or.inl ⟨_, hc, ?_, rfl⟩
      show ii_o (ct_cat c n (Int32.ofNat q)) n = _
      rw [ii_o, if_pos hc]
    | inr e => exact Or.inr ⟨e, r.2 e hr, rfl, rfl, rfl⟩
theorem sp_noPort {x : Int32} (hL : hh_L h) (q : mQ h c n) (hw : co_w c n) (he : R_end c) : (idx 24 x = none → ∃ h', tr_L g (d + 11) m_X9_isNoPort 0 [some (.ref 1099), some (.int x)] [] h (.inl (some (.int 1)), h') ∧ mV h h' 1) ∧ (∀ p, idx 24 x = some p → p < 24 → x = Int32.ofNat p → ∃ h', tr_L g (d + 11) m_X9_isNoPort 0 [some (.ref 1099), some (.int x)] [] h (.inl (some (.int 0)), h') ∧ mV h h' 0 ∧ mRay h' c n (ct_ry c p)) := by
  have r := sa_X9_isPort (g := g) (d := d + 9) (x0 := x) hL
  rw [ix_port] at r
  constructor
  · intro e
    rw [e] at r
    have r1 := sp_thr1 (g := g) (d := d + 10) (x := 1) hL
    exact ⟨_, sg_X9_isNoPort_0 hL (d := d + 10) r (fun t => absurd rfl t) (fun _ => sg_X9_isNoPort_8 hL (d := d + 10) r1 (fun t => absurd t (by decide)) (fun _ => sg_X9_isNoPort_20 r1.2 rfl)), mV_T (mT_set hL)⟩
  · intro p e hp hx
    rw [e] at r
    have r1 := sp_thr0 (g := g) (d := d + 10) (x := 1) hL
    have m1 := mT_set (x := 0) hL
    obtain ⟨h2, r2, W2, R2⟩ := sp_shines (g := g) (d := d + 8) r1.2 (mQ_T m1 q) hw hp (he p hp)
    exact ⟨h2, sg_X9_isNoPort_0 hL (d := d + 10) r (fun _ => sg_X9_isNoPort_12 hL (d := d + 10) r1 (fun _ => sg_X9_isNoPort_22 r1.2 (d := d + 10) (by rw [hx]; exact r2) rfl) (fun t => absurd rfl t)) (fun t => bI1 t), mV_TW (mV_T m1) W2, R2⟩
def cd_ray (E : Nat) : Int32 := if E = 1 then 1 else 2
theorem mo_rayEnd {x : Int32} (hL : hh_L h) (q : mQ h c n) (hw : co_w c n) (he : R_end c) : ∃ h', mV h h' (ans (an_rayEnd c x) cd_ray).2 ∧ tr_L g (d + 12) m_X9_rayEnd 0 [some (.ref 1099), some (.int x)] [] h (.inl (some (.int (ans (an_rayEnd c x) cd_ray).1)), h') := by
  have h7 := q.2.2.1
  have np := sp_noPort (g := g) (d := d) (x := x) hL q hw he
  unfold an_rayEnd
  rcases idx_c (m := 24) (by omega) x with ⟨p, hp, e3, e4⟩ | ⟨e3, e4⟩
  · obtain ⟨h1, r1, V1, R1⟩ := np.2 p e4 hp e3
    simp only [e4]
    have pre : ∀ r', tr_L g (d + 12) m_X9_rayEnd 8 [some (.ref 1099), some (.int x)] [] h1 r' → tr_L g (d + 12) m_X9_rayEnd 0 [some (.ref 1099), some (.int x)] [] h r' := fun r' z => sg_X9_rayEnd_0 hL (d := d + 11) r1 (fun t => absurd rfl t) (fun _ => z)
    rcases ry_or hw h7 he hp with ⟨k, hk, c1, c2⟩ | ⟨e, he24, c0, c1, c2⟩
    · rw [if_pos c2]
      have r3 := sp_thr1 (g := g) (d := d + 11) (x := 2) r1.2
      refine ⟨_, mV_VT V1 (mT_set (x := 2) r1.2), pre _ (sg_X9_rayEnd_8 r1.2 (fun t => ?_) (fun _ => sg_X9_rayEnd_16 r1.2 (d := d + 11) r3 (fun t => absurd t (by decide)) (fun _ => sg_X9_rayEnd_28 r3.2 rfl)))⟩
      rw [R1.1, c1] at t
      exact absurd t (Int32.not_lt.mpr (ii_nn (by omega)))
    · rw [if_neg (by rw [c2]; exact ii_ne1 (by omega))]
      have r3 := sp_thr0 (g := g) (d := d + 11) (x := 2) r1.2
      have m3 := mT_set (x := 0) r1.2
      have e16 : hh_i (hh_si h1 99 8 7 0) 99 16 = ry_ex (ct_ry c p).1 := by rw [m3.2.2 16 (by decide), R1.2.1 e c0, c2]
      refine ⟨_, mV_VT V1 m3, pre _ (sg_X9_rayEnd_8 r1.2 (fun _ => sg_X9_rayEnd_20 r1.2 (d := d + 11) r3 (fun _ => sg_X9_rayEnd_32 r3.2 (by rw [e16]; rfl)) (fun t => absurd rfl t)) (fun t => ?_))⟩
      rw [R1.1, c1] at t
      exact absurd t (by decide)
  · obtain ⟨h1, r1, V1⟩ := np.1 e3
    simp only [e3]
    exact ⟨h1, V1, sg_X9_rayEnd_0 hL (d := d + 11) r1 (fun _ => sg_X9_rayEnd_28 r1.2 rfl) (fun t => absurd t (by decide))⟩
theorem mo_rayCat {x : Int32} (hL : hh_L h) (q : mQ h c n) (hw : co_w c n) (he : R_end c) : ∃ h', mV h h' (ans (an_rayCat c n x) cd_ray).2 ∧ tr_L g (d + 12) m_X9_rayCat 0 [some (.ref 1099), some (.int x)] [] h (.inl (some (.int (ans (an_rayCat c n x) cd_ray).1)), h') := by
  have h7 := q.2.2.1
  have np := sp_noPort (g := g) (d := d) (x := x) hL q hw he
  unfold an_rayCat
  rcases idx_c (m := 24) (by omega) x with ⟨p, hp, e3, e4⟩ | ⟨e3, e4⟩
  · obtain ⟨h1, r1, V1, R1⟩ := np.2 p e4 hp e3
    simp only [e4]
    have pre : ∀ r', tr_L g (d + 12) m_X9_rayCat 8 [some (.ref 1099), some (.int x)] [] h1 r' → tr_L g (d + 12) m_X9_rayCat 0 [some (.ref 1099), some (.int x)] [] h r' := fun r' z => sg_X9_rayCat_0 hL (d := d + 11) r1 (fun t => absurd rfl t) (fun _ => z)
    rcases ry_or hw h7 he hp with ⟨k, hk, c1, c2⟩ | ⟨e, he24, c0, c1, c2⟩
    · rw [if_neg (by rw [c1]; exact ii_ne1 (by omega))]
      have r3 := sp_thr0 (g := g) (d := d + 11) (x := 2) r1.2
      have m3 := mT_set (x := 0) r1.2
      have e15 : hh_i (hh_si h1 99 8 7 0) 99 15 = ry_cat c n (ct_ry c p).1 := by rw [m3.2.2 15 (by decide), R1.1]
      refine ⟨_, mV_VT V1 m3, pre _ (sg_X9_rayCat_8 r1.2 (fun _ => sg_X9_rayCat_20 r1.2 (d := d + 11) r3 (fun _ => sg_X9_rayCat_32 r3.2 (by rw [e15]; rfl)) (fun t => absurd rfl t)) (fun t => ?_))⟩
      rw [R1.1, c1] at t
      exact absurd t (Int32.not_lt.mpr (ii_nn (by omega)))
    · rw [if_pos c1]
      have r3 := sp_thr1 (g := g) (d := d + 11) (x := 2) r1.2
      refine ⟨_, mV_VT V1 (mT_set (x := 2) r1.2), pre _ (sg_X9_rayCat_8 r1.2 (fun t => ?_) (fun _ => sg_X9_rayCat_16 r1.2 (d := d + 11) r3 (fun t => absurd t (by decide)) (fun _ => sg_X9_rayCat_28 r3.2 rfl)))⟩
      rw [R1.1, c1] at t
      exact absurd t (by decide)
  · obtain ⟨h1, r1, V1⟩ := np.1 e3
    simp only [e3]
    exact ⟨h1, V1, sg_X9_rayCat_0 hL (d := d + 11) r1 (fun _ => sg_X9_rayCat_28 r1.2 rfl) (fun t => absurd t (by decide))⟩
theorem mo_rayLength {x : Int32} (hL : hh_L h) (q : mQ h c n) (hw : co_w c n) (he : R_end c) : ∃ h', mV h h' (ans (an_rayLength c x) cd_ray).2 ∧ tr_L g (d + 12) m_X9_rayLength 0 [some (.ref 1099), some (.int x)] [] h (.inl (some (.int (ans (an_rayLength c x) cd_ray).1)), h') := by
  have np := sp_noPort (g := g) (d := d) (x := x) hL q hw he
  unfold an_rayLength
  rcases idx_c (m := 24) (by omega) x with ⟨p, hp, e3, e4⟩ | ⟨e3, e4⟩
  · obtain ⟨h1, r1, V1, R1⟩ := np.2 p e4 hp e3
    simp only [e4]
    exact ⟨h1, V1, sg_X9_rayLength_0 hL (d := d + 11) r1 (fun _ => sg_X9_rayLength_12 r1.2 (by rw [R1.2.2.1]; rfl)) (fun t => absurd rfl t)⟩
  · obtain ⟨h1, r1, V1⟩ := np.1 e3
    simp only [e3]
    exact ⟨h1, V1, sg_X9_rayLength_0 hL (d := d + 11) r1 (fun t => absurd t (by decide)) (fun _ => sg_X9_rayLength_8 r1.2 rfl)⟩
theorem mo_rayBounces {x : Int32} (hL : hh_L h) (q : mQ h c n) (hw : co_w c n) (he : R_end c) : ∃ h', mV h h' (ans (an_rayBounces c x) cd_ray).2 ∧ tr_L g (d + 12) m_X9_rayBounces 0 [some (.ref 1099), some (.int x)] [] h (.inl (some (.int (ans (an_rayBounces c x) cd_ray).1)), h') := by
  have np := sp_noPort (g := g) (d := d) (x := x) hL q hw he
  unfold an_rayBounces
  rcases idx_c (m := 24) (by omega) x with ⟨p, hp, e3, e4⟩ | ⟨e3, e4⟩
  · obtain ⟨h1, r1, V1, R1⟩ := np.2 p e4 hp e3
    simp only [e4]
    exact ⟨h1, V1, sg_X9_rayBounces_0 hL (d := d + 11) r1 (fun _ => sg_X9_rayBounces_12 r1.2 (by rw [R1.2.2.2]; rfl)) (fun t => absurd rfl t)⟩
  · obtain ⟨h1, r1, V1⟩ := np.1 e3
    simp only [e3]
    exact ⟨h1, V1, sg_X9_rayBounces_0 hL (d := d + 11) r1 (fun t => absurd t (by decide)) (fun _ => sg_X9_rayBounces_8 r1.2 rfl)⟩
theorem mo_rayJoin {x : Int32} (hL : hh_L h) (q : mQ h c n) (hw : co_w c n) (he : R_end c) : ∃ h', mV h h' (ans (an_rayEnd c x) cd_ray).2 ∧ tr_L g (d + 13) m_X9_rayEndByJoining 0 [some (.ref 1099), some (.int x)] [] h (.inl (some (.int (ans (an_rayEnd c x) cd_ray).1)), h') := by
  obtain ⟨h', V, r⟩ := mo_rayEnd (g := g) (d := d) (x := x) hL q hw he
  exact ⟨h', V, sg_X9_rayEndByJoining_0 hL (d := d + 12) r rfl⟩
end
