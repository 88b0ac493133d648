/-! the methods of Joining: parents told by a function on the sides -/
/-- the root, looked for in at most m steps -/
def rt (P : Nat → Nat) : Nat → Nat → Nat
  | 0, x => x
  | m + 1, x => if P x = x then x else rt P m (P x)
def jn (P : Nat → Nat) (x y : Nat) : Nat → Nat := fun i => if i = rt P 140 x then rt P 140 y else P i
def jb (q w : Nat) (P : Nat → Nat) : Nat → Nat := if bx_nb q w = 35 then P else jn P (4 * q + w) (4 * bx_nb q w + bx_opp w)
def jw (k : Int32) (q : Nat) : Nat → Nat → (Nat → Nat) → Nat → Nat
  | 0, _, P => P
  | m + 1, w, P => if k = 99 then P else jw k q m (w + 1) (jn P (4 * q + bx_opp w) (4 * q + bx_refl k w))
def ja (co : Nat → Int32) : Nat → Nat → (Nat → Nat) → Nat → Nat
  | 0, _, P => P
  | m + 1, q, P => ja co m (q + 1) (jw (co q) q 4 0 (jb q 2 (jb q 1 P)))
def jP (co : Nat → Int32) : Nat → Nat := ja co 35 0 (fun i => i)
/-- the side of a port -/
def ps (p : Nat) : Nat := 4 * bx_cell p + bx_opp (bx_dir p)
def jo (co : Nat → Int32) (p : Nat) : Nat := mm_find (fun o => decide (o ≠ p) && decide (rt (jP co) 140 (ps o) = rt (jP co) 140 (ps p))) 24
def P_ok (P : Nat → Nat) : Prop := ∀ x, x < 140 → P x < 140
theorem rt_lt {P : Nat → Nat} (hP : P_ok P) : ∀ m x, x < 140 → rt P m x < 140
  | 0, _, hx => hx
  | m + 1, x, hx => by
    rw [rt]
    split
    · exact hx
    · exact rt_lt hP m _ (hP x hx)
theorem jn_ok {P : Nat → Nat} {x y : Nat} (hP : P_ok P) (hy : y < 140) : P_ok (jn P x y) := fun i hi => by
  unfold jn
  split
  · exact rt_lt hP 140 y hy
  · exact hP i hi
theorem bx_in {q w : Nat} (hq : q < 35) (hw : w < 4) : 4 * q + w < 140 := by omega
theorem bx_opp_lt {w : Nat} (hw : w < 4) : bx_opp w < 4 := (bx_wf w hw).1
theorem jb_ok {P : Nat → Nat} {q w : Nat} (hP : P_ok P) (hq : q < 35) (hw : w < 4) : P_ok (jb q w P) := by
  unfold jb
  split
  · exact hP
  · rename_i h
    have := bx_lt hq hw
    exact jn_ok hP (bx_in (by omega) (bx_opp_lt hw))
theorem jw_ok {k : Int32} {q : Nat} (hq : q < 35) : ∀ m w (P : Nat → Nat), w + m ≤ 4 → P_ok P → P_ok (jw k q m w P)
  | 0, _, _, _, hP => hP
  | m + 1, w, P, hw, hP => by
    rw [jw]
    split
    · exact hP
    · exact jw_ok hq m (w + 1) _ (by omega) (jn_ok hP (bx_in hq (bx_refl_lt (by omega))))
/-- the parents that the array holds -/
def pR (h : ev_AH) (P : Nat → Nat) : Prop := P_ok P ∧ ∀ x, x < 140 → (hh_a h 82).getD x 0 = Int32.ofNat (P x)
section
variable {g : tr_g} {d : Nat} {h : ev_AH}
theorem pR_F {ks : List Nat} {P : Nat → Nat} {h' : ev_AH} (hF : hh_F ks h h') (hk : 82 ∉ ks) (hp : pR h P) : pR h' P := ⟨hp.1, fun x hx => by rw [hh_F_a hF hk]; exact hp.2 x hx⟩
theorem sp_rootOf {P : Nat → Nat} {x : Nat} (hL : hh_L h) (hp : pR h P) (hx : x < 140) : tr_L g (d + 1) m_X4_rootOf 0 [some (.ref 1081), some (.int (Int32.ofNat x)), none, none] [] h (.inl (some (.int (Int32.ofNat (rt P 140 x)))), h) := by
  have key : ∀ m st y, st + m = 140 → y < 140 → tr_L g (d + 1) m_X4_rootOf 4 [some (.ref 1081), some (.int (Int32.ofNat x)), some (.int (Int32.ofNat y)), some (.int (Int32.ofNat st))] [] h (.inl (some (.int (Int32.ofNat (rt P m y)))), h) := by
    intro m
    induction m with
    | zero =>
      intro st y hst hy
      refine sg_X4_rootOf_4 hL (fun _ => sg_X4_rootOf_38 hL rfl) (fun t => ?_)
      have := (ii_lt (b := 140) (by omega) (by omega)).mp t
      omega
    | succ m ih =>
      intro st y hst hy
      have a1 := sp_atL (g := g) (d := d) (a := 82) (k := y) hL rfl (by decide) (by omega)
      rw [hp.2 y hy] at a1
      have hPy := hp.1 y hy
      refine sg_X4_rootOf_4 hL (fun t => ?_) (fun _ => sg_X4_rootOf_11 hL a1 (fun t => sg_X4_rootOf_38 hL ?_) (fun t => sg_X4_rootOf_23 hL a1 rfl ?_))
      · have := (ii_le (a := 140) (by omega) (by omega)).mp t
        omega
      · rw [rt, if_pos ((ii_eq (by omega) (by omega)).mp t)]
      · rw [ii_s, rt, if_neg (fun e => t (by rw [e]))]
        exact ih (st + 1) (P y) (by omega) hPy
  exact sg_X4_rootOf_0 hL (key 140 0 x (by omega) hx)
theorem sp_join {P : Nat → Nat} {x y : Nat} (hL : hh_L h) (hp : pR h P) (hx : x < 140) (hy : y < 140) : ∃ h', tr_L g (d + 2) m_X4_join 0 [some (.ref 1081), some (.int (Int32.ofNat x)), some (.int (Int32.ofNat y))] [] h (.inl none, h') ∧ hh_F [82] h h' ∧ pR h' (jn P x y) := by
  have r1 := sp_rootOf (g := g) (d := d) hL hp hx
  have r2 := sp_rootOf (g := g) (d := d) hL hp hy
  have hx2 := rt_lt hp.1 140 x hx
  have p1 := sp_put (g := g) (d := d + 1) (a := 82) (k := rt P 140 x) (y := Int32.ofNat (rt P 140 y)) hL rfl (by decide) (by omega)
  have hlen : (hh_a h 82).length = 140 := (hh_arr hL (k := 82) (t := 0) rfl).2
  refine ⟨_, sg_X4_join_0 hL r1 r2 p1 rfl, hh_F_sa (by decide), jn_ok hp.1 hy, fun i hi => ?_⟩
  rw [hh_a_sa (hh_L_lt hL (by decide)), if_pos rfl]
  unfold jn
  by_cases e : i = rt P 140 x
  · rw [if_pos e, e]
    simp [List.getD, hlen, hx2]
  · rw [if_neg e, ← hp.2 i hi]
    simp [List.getD, Ne.symm e]
theorem sp_joinBeside {P : Nat → Nat} {q w : Nat} (hL : hh_L h) (hp : pR h P) (hq : q < 35) (hw : w < 4) : ∃ h', tr_L g (d + 3) m_X4_joinToNeighbour 0 [some (.ref 1081), some (.int (Int32.ofNat q)), some (.int (Int32.ofNat w)), none] [] h (.inl none, h') ∧ hh_F [82] h h' ∧ pR h' (jb q w P) := by
  have n1 := sp_nb (g := g) (d := d + 2) hL hq hw
  rcases bx_nb_cases hq hw with ⟨e1, e2⟩ | ⟨e1, e2, e3⟩
  · refine ⟨h, sg_X4_joinToNeighbour_0 hL n1 (fun _ => sg_X4_joinToNeighbour_28 hL rfl) (fun t => absurd e2 t), hh_F_rf, ?_⟩
    rw [jb, if_pos e1]
    exact hp
  · obtain ⟨h', r1, r2, r3⟩ := sp_join (g := g) (d := d) (x := 4 * q + w) (y := 4 * bx_nb q w + bx_opp w) hL hp (bx_in hq hw) (bx_in e1 (bx_opp_lt hw))
    refine ⟨h', sg_X4_joinToNeighbour_0 hL n1 (fun t => absurd t e3) (fun _ => ?_), r2, ?_⟩
    · rw [e2]
      exact sg_X4_joinToNeighbour_11 hL (sp_side hL) (sp_opp hL hw) (sp_side hL) r1 rfl
    · rw [jb, if_neg (by omega)]
      exact r3
theorem sp_joinWithin {P : Nat → Nat} {q : Nat} {k : Int32} (hL : hh_L h) (hp : pR h P) (hq : q < 35) : ∃ h', tr_L g (d + 3) m_X4_joinWithin 0 [some (.ref 1081), some (.int (Int32.ofNat q)), some (.int k), none, none] [] h (.inl none, h') ∧ hh_F [82] h h' ∧ pR h' (jw k q 4 0 P) := by
  have key : ∀ m w (P : Nat → Nat), w + m = 4 → ∀ (h1 : ev_AH), hh_L h1 → hh_F [82] h h1 → pR h1 P → ∃ h', (∀ w4 : Option Value, tr_L g (d + 3) m_X4_joinWithin 2 [some (.ref 1081), some (.int (Int32.ofNat q)), some (.int k), some (.int (Int32.ofNat w)), w4] [] h1 (.inl none, h')) ∧ hh_F [82] h h' ∧ pR h' (jw k q m w P) := by
    intro m
    induction m with
    | zero =>
      intro w P hw h1 hL1 hF1 hp1
      refine ⟨h1, fun w4 => sg_X4_joinWithin_2 hL1 (fun _ => sg_X4_joinWithin_44 hL1 rfl) (fun t => ?_), hF1, hp1⟩
      have := (ii_lt (b := 4) (by omega) (by omega)).mp t
      omega
    | succ m ih =>
      intro w P hw h1 hL1 hF1 hp1
      by_cases h99 : k = 99
      · refine ⟨h1, fun w4 => sg_X4_joinWithin_2 hL1 (fun t => ?_) (fun _ => sg_X4_joinWithin_7 hL1 (fun _ => sg_X4_joinWithin_44 hL1 rfl) (fun t => absurd h99 t)), hF1, ?_⟩
        · have := (ii_le (a := 4) (by omega) (by omega)).mp t
          omega
        · rw [jw, if_pos h99]
          exact hp1
      · have hw4 : w < 4 := by omega
        obtain ⟨h2, r1, r2, r3⟩ := sp_join (g := g) (d := d) (x := 4 * q + bx_opp w) (y := 4 * q + bx_refl k w) hL1 hp1 (bx_in hq (bx_opp_lt hw4)) (bx_in hq (bx_refl_lt hw4))
        obtain ⟨h', s1, s2, s3⟩ := ih (w + 1) _ (by omega) h2 r1.2 (hh_F_tr hF1 r2) r3
        refine ⟨h', fun w4 => sg_X4_joinWithin_2 hL1 (fun t => ?_) (fun _ => sg_X4_joinWithin_7 hL1 (fun t => absurd t h99) (fun _ => sg_X4_joinWithin_13 hL1 (sp_opp hL1 hw4) (sp_side hL1) (sp_refl hL1 hw4) (sp_side hL1) r1 ?_)), s2, ?_⟩
        · have := (ii_le (a := 4) (by omega) (by omega)).mp t
          omega
        · rw [ii_s]
          exact s1 _
        · rw [jw, if_neg h99]
          exact s3
  obtain ⟨h', s1, s2, s3⟩ := key 4 0 P (by omega) h hL hh_F_rf hp
  exact ⟨h', sg_X4_joinWithin_0 hL (s1 _), s2, s3⟩
theorem sp_joinAll {c : CT} (hL : hh_L h) (hc : cC h 1 = c) (hco : ∀ y ∈ ct_co c, tr_ch y) : ∃ h', tr_L g (d + 4) m_X4_joinAll 0 [some (.ref 1081), some (.ref 1001), none] [] h (.inl none, h') ∧ hh_F [82] h h' ∧ pR h' (jP (ct_c c)) := by
  have key : ∀ m q (P : Nat → Nat), q + m = 35 → ∀ (h1 : ev_AH), hh_L h1 → hh_F [82] h h1 → pR h1 P → ∃ h', tr_L g (d + 4) m_X4_joinAll 26 [some (.ref 1081), some (.ref 1001), some (.int (Int32.ofNat q))] [] h1 (.inl none, h') ∧ hh_F [82] h h' ∧ pR h' (ja (ct_c c) m q P) := by
    intro m
    induction m with
    | zero =>
      intro q P hq h1 hL1 hF1 hp1
      refine ⟨h1, sg_X4_joinAll_26 hL1 (fun _ => sg_X4_joinAll_63 hL1 rfl) (fun t => ?_), hF1, hp1⟩
      have := (ii_lt (b := 35) (by omega) (by omega)).mp t
      omega
    | succ m ih =>
      intro q P hq h1 hL1 hF1 hp1
      obtain ⟨h2, r1, r2, r3⟩ := sp_joinBeside (g := g) (d := d) (q := q) (w := 1) hL1 hp1 (by omega) (by omega)
      obtain ⟨h3, s1, s2, s3⟩ := sp_joinBeside (g := g) (d := d) (q := q) (w := 2) r1.2 r3 (by omega) (by omega)
      have hF3 : hh_F [82] h h3 := hh_F_tr (hh_F_tr hF1 r2) s2
      have hc3 : cC h3 1 = c := (cC_F hF3 (by decide)).trans hc
      have a1 := sp_atcL (g := g) (d := d + 3) (a := 2) (k := q) s1.2 rfl (by decide) (by omega) (by rw [show hh_a h3 2 = ct_co (cC h3 1) from rfl, hc3]; exact hco)
      rw [show (hh_a h3 2).getD q 0 = ct_c c q by rw [← hc3]; rfl] at a1
      obtain ⟨h4, u1, u2, u3⟩ := sp_joinWithin (g := g) (d := d) (q := q) (k := ct_c c q) s1.2 s3 (by omega)
      obtain ⟨h', v1, v2, v3⟩ := ih (q + 1) _ (by omega) h4 u1.2 (hh_F_tr hF3 u2) u3
      refine ⟨h', sg_X4_joinAll_26 hL1 (fun t => ?_) (fun _ => sg_X4_joinAll_32 hL1 r1 s1 a1 u1 ?_), v2, v3⟩
      · have := (ii_le (a := 35) (by omega) (by omega)).mp t
        omega
      · rw [ii_s]
        exact v1
  have k0 : ∀ m x, x + m = 140 → ∀ (h1 : ev_AH), hh_L h1 → hh_F [82] h h1 → (∀ i, i < x → (hh_a h1 82).getD i 0 = Int32.ofNat i) → ∃ h', tr_L g (d + 4) m_X4_joinAll 2 [some (.ref 1081), some (.ref 1001), some (.int (Int32.ofNat x))] [] h1 (.inl none, h') ∧ hh_F [82] h h' ∧ pR h' (jP (ct_c c)) := by
    intro m
    induction m with
    | zero =>
      intro x hx h1 hL1 hF1 hi
      have hx0 : x = 140 := hx
      obtain ⟨h', v1, v2, v3⟩ := key 35 0 (fun i => i) (by omega) h1 hL1 hF1 ⟨fun i hi => hi, fun i hi2 => hi i (by omega)⟩
      refine ⟨h', sg_X4_joinAll_2 hL1 (fun _ => sg_X4_joinAll_24 hL1 v1) (fun t => ?_), v2, v3⟩
      have := (ii_lt (b := 140) (by omega) (by omega)).mp t
      omega
    | succ m ih =>
      intro x hx h1 hL1 hF1 hi
      have hlen : (hh_a h1 82).length = 140 := (hh_arr hL1 (k := 82) (t := 0) rfl).2
      have hLn := hh_L_ss (j := x) (x := Int32.ofNat x) hL1 (show hh_t[82]? = some (.inl (0, 140)) from rfl)
      obtain ⟨h', r1, r2, r3⟩ := ih (x + 1) (by omega) _ hLn (hh_F_tr hF1 (hh_F_sa (by decide))) (fun i hi2 => by
        rw [hh_a_sa (hh_L_lt hL1 (by decide)), if_pos rfl]
        by_cases e : x = i
        · subst e
          simp [List.getD, hlen, show x < 140 by omega]
        · have := hi i (by omega)
          simp [List.getD, e] at this ⊢
          exact this)
      refine ⟨h', sg_X4_joinAll_2 hL1 (fun t => ?_) (fun _ => sg_X4_joinAll_11 hL1 (e0 := rfl) (b0 := by omega) ?_), r2, r3⟩
      · have := (ii_le (a := 140) (by omega) (by omega)).mp t
        omega
      · rw [ii_s]
        exact r1
  obtain ⟨h', r1, r2, r3⟩ := k0 140 0 (by omega) h hL hh_F_rf (fun i hi => absurd hi (by omega))
  exact ⟨h', sg_X4_joinAll_0 hL r1, r2, r3⟩
theorem ps_lt {p : Nat} (hp : p < 24) : ps p < 140 := by
  obtain ⟨h1, h2⟩ := bx_facts p hp
  exact bx_in h1 (bx_opp_lt h2)
theorem sp_rootAt {P : Nat → Nat} {p : Nat} (hL : hh_L h) (hp : pR h P) (hp24 : p < 24) : tr_L g (d + 2) m_X4_rootAt 0 [some (.ref 1081), some (.int (Int32.ofNat p))] [] h (.inl (some (.int (Int32.ofNat (rt P 140 (ps p))))), h) := by
  obtain ⟨h1, h2⟩ := bx_facts p hp24
  exact sg_X4_rootAt_0 hL (sp_cellAt hL hp24) (sp_dirAt hL hp24) (sp_opp hL h2) (sp_side hL) (sp_rootOf hL hp (ps_lt hp24)) rfl
theorem sp_otherEnd {co : Nat → Int32} {p : Nat} (hL : hh_L h) (hp : pR h (jP co)) (hp24 : p < 24) : tr_L g (d + 3) m_X4_otherEnd 0 [some (.ref 1081), some (.int (Int32.ofNat p)), none, none] [] h (.inl (some (.int (ii_o (jo co p) 24))), h) := by
  have rlt : ∀ o, o < 24 → rt (jP co) 140 (ps o) < 140 := fun o ho => rt_lt hp.1 140 _ (ps_lt ho)
  have key : ∀ m o, o + m = 24 → (∀ j, j < o → (decide (j ≠ p) && decide (rt (jP co) 140 (ps j) = rt (jP co) 140 (ps p))) = false) → tr_L g (d + 3) m_X4_otherEnd 8 [some (.ref 1081), some (.int (Int32.ofNat p)), some (.int (Int32.ofNat (rt (jP co) 140 (ps p)))), some (.int (Int32.ofNat o))] [] h (.inl (some (.int (ii_o (jo co p) 24))), h) := by
    intro m
    induction m with
    | zero =>
      intro o ho hb
      have ho2 : o = 24 := ho
      subst ho2
      have e : jo co p = 24 := mm_find_no hb
      refine sg_X4_otherEnd_8 hL (fun _ => sg_X4_otherEnd_36 hL (by rw [e]; rfl)) (fun t => ?_)
      have := (ii_lt (a := 24) (b := 24) (by omega) (by omega)).mp t
      omega
    | succ m ih =>
      intro o ho hb
      have nxt : (decide (o ≠ p) && decide (rt (jP co) 140 (ps o) = rt (jP co) 140 (ps p))) = false → tr_L g (d + 3) m_X4_otherEnd 30 [some (.ref 1081), some (.int (Int32.ofNat p)), some (.int (Int32.ofNat (rt (jP co) 140 (ps p)))), some (.int (Int32.ofNat o))] [] h (.inl (some (.int (ii_o (jo co p) 24))), h) := fun hf => by
        refine sg_X4_otherEnd_30 hL ?_
        rw [ii_s]
        refine ih (o + 1) (by omega) (fun j hj => ?_)
        by_cases hj2 : j < o
        · exact hb j hj2
        · have : j = o := by omega
          subst this
          exact hf
      have r1 := rlt o (by omega)
      have r2 := rlt p hp24
      refine sg_X4_otherEnd_8 hL (fun t => ?_) (fun _ => sg_X4_otherEnd_14 hL (fun t => nxt ?_) (fun t => sg_X4_otherEnd_19 hL (sp_rootAt hL hp (by omega)) (fun t2 => nxt ?_) (fun t2 => sg_X4_otherEnd_28 hL ?_)))
      · have := (ii_le (a := 24) (by omega) (by omega)).mp t
        omega
      · have := (ii_eq (by omega) (by omega)).mp t
        simp [this]
      · have e9 : ¬ (rt (jP co) 140 (ps o) = rt (jP co) 140 (ps p)) := fun e => t2 (by rw [e])
        rw [decide_eq_false e9, Bool.and_false]
      · have e1 : o ≠ p := fun e => t (by rw [e])
        have e2 := (ii_eq (by omega) (by omega)).mp t2
        have e : jo co p = o := mm_find_at (by omega) (by rw [decide_eq_true e1, decide_eq_true e2]; rfl) hb
        rw [e, ii_o, if_pos (by omega)]
  exact sg_X4_otherEnd_0 hL (sp_rootAt hL hp hp24) (key 24 0 (by omega) (fun j hj => absurd hj (by omega)))
end
