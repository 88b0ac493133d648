/-! THE FACE of the class: queries that leave all as it is, but for the rows they work with -/
def idx (m : Nat) (x : Int32) : Option Nat := if 0 ≤ x ∧ x < Int32.ofNat m then some x.toNatClampNeg else none
theorem idx_c {m : Nat} (hm : m < 2147483648) (x : Int32) : (∃ k, k < m ∧ x = Int32.ofNat k ∧ idx m x = some k) ∨ (idx m x = none ∧ ∀ k, k < m → x ≠ Int32.ofNat k) := by
  unfold idx
  by_cases h : 0 ≤ x ∧ x < Int32.ofNat m
  · obtain ⟨k, hk, rfl⟩ := ii_of2 hm h.1 h.2
    rw [if_pos h, ii_cn (by omega)]
    exact Or.inl ⟨k, hk, rfl, rfl⟩
  · rw [if_neg h]
    refine Or.inr ⟨rfl, fun k hk e => h ?_⟩
    subst e
    exact ⟨ii_nn (by omega), (ii_lt (by omega) hm).mpr hk⟩
theorem idx_k {m k : Nat} (hm : m < 2147483648) (hk : k < m) : idx m (Int32.ofNat k) = some k := by
  rcases idx_c hm (Int32.ofNat k) with ⟨j, hj, e, e2⟩ | ⟨_, e⟩
  · rw [e2, (ii_eq (by omega) (by omega)).mp e]
  · exact absurd rfl (e k hk)
def ox (x : Int32) : Option Nat := if 97 ≤ x ∧ x ≤ 100 then some (x.toNatClampNeg - 97) else none
theorem ox_c (x : Int32) : (∃ o, o < 4 ∧ x = Int32.ofNat (97 + o) ∧ ox x = some o) ∨ (ox x = none ∧ ∀ o, o < 4 → x ≠ Int32.ofNat (97 + o)) := by
  unfold ox
  by_cases h : 97 ≤ x ∧ x ≤ 100
  · obtain ⟨q, hq, rfl⟩ := ii_of (Int32.le_trans (by decide : (0 : Int32) ≤ 97) h.1)
    have h4 := (ii_le (a := 97) (by omega) (by omega)).mp h.1
    have h5 : q ≤ 100 := (ii_le (b := 100) (by omega) (by omega)).mp h.2
    rw [if_pos h, ii_cn (by omega)]
    exact Or.inl ⟨q - 97, by omega, by rw [show 97 + (q - 97) = q by omega], rfl⟩
  · rw [if_neg h]
    refine Or.inr ⟨rfl, fun o ho e => h ?_⟩
    subst e
    exact ⟨(ii_le (a := 97) (by omega) (by omega)).mpr (by omega), (ii_le (b := 100) (by omega) (by omega)).mpr (by omega)⟩
/-- an answer: a number, or which exception -/
def ro (A : Int32 ⊕ Nat) (h : ev_AH) : ev_O × ev_AH := match A with
  | .inl v => (.inl (some (.int v)), h)
  | .inr E => (.inr E, hh_x h)
/-- what a query needs of the court -/
def cQ (h : ev_AH) (c : CT) (n : Nat) : Prop := cC h 1 = c ∧ ct_i c 0 = Int32.ofNat n ∧ n ≤ 7 ∧ ct_ok c ∧ (∀ k, k < n → ∃ q, q < 35 ∧ (ct_ce c).getD k 0 = Int32.ofNat q) ∧ ct_perm c n
theorem cQ_F {ks : List Nat} {h h' : ev_AH} {c : CT} {n : Nat} (hF : hh_F ks h h') (hk : ∀ j, j < 8 → j ∉ ks) (q : cQ h c n) : cQ h' c n := by
  obtain ⟨q1, q2⟩ := q
  exact ⟨by rw [cC_F hF (fun j hj => hk _ (by omega))]; exact q1, q2⟩
/-- the rows that queries work with -/
abbrev kW : List Nat := [80, 81, 82, 83, 84, 85, 86, 87, 88, 89, 90, 91, 92, 98]
section
variable {g : tr_g} {d : Nat} {h : ev_AH} {c : CT} {n : Nat}
theorem rq_cell {x : Int32} (hL : hh_L h) : (idx 35 x = none → tr_L g (d + 1) m_X8_requireCell 0 [some (.int x)] [] h (.inr 0, hh_x h)) ∧ (∀ q, idx 35 x = some q → tr_L g (d + 1) m_X8_requireCell 0 [some (.int x)] [] h (.inl none, h)) := by
  have r := sp_reqCell (g := g) (d := d) (x := x) hL
  rcases fa_cell (x := x) with ⟨q, hq, e, e1⟩ | ⟨e, e1⟩
  · rw [e1, if_neg (by decide)] at r
    refine ⟨fun e2 => ?_, fun _ _ => r⟩
    rw [e, idx_k (by omega) hq] at e2
    cases e2
  · rw [e1, if_pos rfl] at r
    refine ⟨fun _ => r, fun q e2 => ?_⟩
    rcases idx_c (m := 35) (by omega) x with ⟨k, hk, e3, _⟩ | ⟨e3, _⟩
    · exact absurd e3 (e k hk)
    · rw [e3] at e2
      cases e2
theorem rq_port {x : Int32} (hL : hh_L h) : (idx 24 x = none → tr_L g (d + 1) m_X8_requirePort 0 [some (.int x)] [] h (.inr 1, hh_x h)) ∧ (∀ q, idx 24 x = some q → tr_L g (d + 1) m_X8_requirePort 0 [some (.int x)] [] h (.inl none, h)) := by
  have r := sp_reqPort (g := g) (d := d) (x := x) hL
  rcases fa_port (x := x) with ⟨q, hq, e, e1⟩ | ⟨e, e1⟩
  · rw [e1, if_neg (by decide)] at r
    refine ⟨fun e2 => ?_, fun _ _ => r⟩
    rw [e, idx_k (by omega) hq] at e2
    cases e2
  · rw [e1, if_pos rfl] at r
    refine ⟨fun _ => r, fun q e2 => ?_⟩
    rcases idx_c (m := 24) (by omega) x with ⟨k, hk, e3, _⟩ | ⟨e3, _⟩
    · exact absurd e3 (e k hk)
    · rw [e3] at e2
      cases e2
theorem ox_fa {x : Int32} : (ox x = none ↔ fa_X8_isOption x = 0) := by
  rcases fa_option (x := x) with ⟨q, hq, e, e1⟩ | ⟨e, e1⟩
  · rw [e1]
    rcases ox_c x with ⟨k, hk, e3, e4⟩ | ⟨e3, e4⟩
    · rw [e4]; simp
    · exact absurd e (e4 q hq)
  · rw [e1]
    rcases ox_c x with ⟨k, hk, e3, e4⟩ | ⟨e3, e4⟩
    · exact absurd e3 (e k hk)
    · rw [e3]; simp
theorem rq_opt {x : Int32} (hL : hh_L h) : (ox x = none → tr_L g (d + 1) m_X8_requireOption 0 [some (.int x)] [] h (.inr 1, hh_x h)) ∧ (∀ q, ox x = some q → tr_L g (d + 1) m_X8_requireOption 0 [some (.int x)] [] h (.inl none, h)) := by
  have r := sp_reqOption (g := g) (d := d) (x := x) hL
  refine ⟨fun e => ?_, fun q e => ?_⟩
  · rw [if_pos (ox_fa.mp e)] at r; exact r
  · rw [if_neg (fun z => by rw [ox_fa.mpr z] at e; cases e)] at r; exact r
theorem rq_cat {x : Int32} (hL : hh_L h) (q : cQ h c n) : (idx n x = none → tr_L g d m_X8_requireCat 0 [some (.ref 1000), some (.int x)] [] h (.inr 0, hh_x h)) ∧ (∀ k, idx n x = some k → tr_L g d m_X8_requireCat 0 [some (.ref 1000), some (.int x)] [] h (.inl none, h)) := by
  obtain ⟨q1, q2, q3, _⟩ := q
  have r := sp_reqCat (g := g) (d := d) (x := x) (n := n) hL (by rw [← q2, ← q1]; rfl) q3
  rcases idx_c (m := n) (by omega) x with ⟨k, hk, e3, e4⟩ | ⟨e3, e4⟩
  · refine ⟨fun e => ?_, fun _ _ => r.1 ⟨k, hk, e3⟩⟩
    rw [e4] at e; cases e
  · refine ⟨fun _ => r.2 e4, fun k e => ?_⟩
    rw [e3] at e; cases e
def an_cellOf (c : CT) (n : Nat) (x : Int32) : Int32 ⊕ Nat := match idx n x with
  | none => .inr 0
  | some k => .inl ((ct_ce c).getD k 0)
theorem op_cellOf {x : Int32} (hL : hh_L h) (q : cQ h c n) : tr_L g (d + 12) m_X8_cellOf 0 [some (.ref 1000), some (.int x)] [] h (ro (an_cellOf c n x) h) := by
  have r := rq_cat (g := g) (d := d + 11) (x := x) hL q
  unfold an_cellOf
  rcases idx_c (m := n) (by have := q.2.2.1; omega) x with ⟨k, hk, e3, e4⟩ | ⟨e3, e4⟩
  · rw [e4]
    have h7 := q.2.2.1
    refine sg_X8_cellOf_0 hL (r.2 k e4) (v0 := (ct_ce c).getD k 0) (h2 := h) ?_ rfl
    rw [e3, ← q.1]
    exact sp_atL (a := 3) hL rfl (by omega) (by omega)
  · rw [e3]
    exact sx_X8_cellOf_0_2 (h1 := h) hL (cx := r.1 e3) (hr := rfl)
def an_catIn (c : CT) (n : Nat) (x : Int32) : Int32 ⊕ Nat := match idx 35 x with
  | none => .inr 0
  | some _ => if ct_cat c n x < n then .inl (Int32.ofNat (ct_cat c n x)) else .inr 3
theorem op_catIn {x : Int32} (hL : hh_L h) (q : cQ h c n) : tr_L g (d + 12) m_X8_catIn 0 [some (.ref 1000), some (.int x), none] [] h (ro (an_catIn c n x) h) := by
  have r := rq_cell (g := g) (d := d + 10) (x := x) hL
  have h7 := q.2.2.1
  unfold an_catIn
  rcases idx_c (m := 35) (by omega) x with ⟨k, hk, e3, e4⟩ | ⟨e3, e4⟩
  · rw [e4]
    have f := sp_findCat (g := g) (d := d + 10) (x := x) hL q.1 q.2.1 q.2.2.1
    have n1 := ii_ne1 (k := ct_cat c n x)
    by_cases hc : ct_cat c n x < n
    · rw [ii_o, if_pos hc] at f
      simp only [if_pos hc]
      exact sg_X8_catIn_0 hL (r.2 k e4) f (fun _ => sg_X8_catIn_28 hL rfl) (fun t => absurd t (n1 (by omega)))
    · rw [ii_o, if_neg hc] at f
      simp only [if_neg hc]
      exact sg_X8_catIn_0 hL (r.2 k e4) f (fun t => absurd rfl t) (fun _ => sg_X8_catIn_18 hL rfl)
  · rw [e3]
    exact sx_X8_catIn_0_1 (h1 := h) hL (cx := r.1 e3) (hr := rfl)
theorem gD_ch {l : List Int32} (hl : ∀ y ∈ l, tr_ch y) (k : Nat) : tr_ch (l.getD k 0) := by
  by_cases hk : k < l.length
  · rw [List.getD, List.getElem?_eq_getElem hk]
    exact hl _ (List.getElem_mem hk)
  · rw [List.getD, List.getElem?_eq_none (by omega)]
    exact ⟨by decide, by decide⟩
def an_contentOf (c : CT) (x : Int32) : Int32 ⊕ Nat := match idx 35 x with
  | none => .inr 0
  | some k => .inl ((ct_co c).getD k 0)
theorem op_contentOf {x : Int32} (hL : hh_L h) (q : cQ h c n) : tr_L g (d + 12) m_X8_contentOf 0 [some (.ref 1000), some (.int x)] [] h (ro (an_contentOf c x) h) := by
  have r := rq_cell (g := g) (d := d + 10) (x := x) hL
  unfold an_contentOf
  rcases idx_c (m := 35) (by omega) x with ⟨k, hk, e3, e4⟩ | ⟨e3, e4⟩
  · rw [e4]
    have ok := q.2.2.2.1.1
    have e0 : hh_a h 2 = ct_co c := by rw [← q.1]; rfl
    refine sg_X8_contentOf_0 hL (r.2 k e4) (v0 := (ct_co c).getD k 0) (h2 := h) ?_ (gD_ch ok k) rfl
    rw [e3, ← e0]
    exact sp_atcL (a := 2) hL rfl (by omega) (by omega) (by rw [e0]; exact ok)
  · rw [e3]
    exact sx_X8_contentOf_0_1 (h1 := h) hL (cx := r.1 e3) (hr := rfl)
def an_optionAt (c : CT) (n : Nat) (x y : Int32) : Int32 ⊕ Nat := match idx n x with
  | none => .inr 0
  | some k => match idx 4 y with
    | none => .inr 1
    | some p => .inl (fa_X8_letterOf (ct_opt c k p))
theorem op_optionAt {x y : Int32} (hL : hh_L h) (q : cQ h c n) : tr_L g (d + 12) m_X8_optionAt 0 [some (.ref 1000), some (.int x), some (.int y)] [] h (ro (an_optionAt c n x y) h) := by
  have r := rq_cat (g := g) (d := d + 11) (x := x) hL q
  have h7 := q.2.2.1
  unfold an_optionAt
  rcases idx_c (m := n) (by omega) x with ⟨k, hk, e3, e4⟩ | ⟨e3, e4⟩
  · rw [e4]
    rcases idx_c (m := 4) (by omega) y with ⟨p, hp, e5, e6⟩ | ⟨e5, e6⟩
    · simp only [e6]
      refine sg_X8_optionAt_0 hL (r.2 k e4) (fun t => ?_) (fun _ => sg_X8_optionAt_9 hL (fun _ => ?_) (fun t => ?_))
      · rw [e5] at t
        exact absurd t (Int32.not_lt.mpr (ii_nn (by omega)))
      · rw [e3, e5]
        exact sg_X8_optionAt_24 hL (sp_optionIn hL q.1 (by omega) (by omega)) (tr_mono (Nat.zero_le _) (sa_X8_letterOf (d := 0) hL)) (tr_chc _) rfl
      · rw [e5] at t
        exact absurd ((ii_le (a := 4) (by omega) (by omega)).mp t) (by omega)
    · simp only [e5]
      refine sg_X8_optionAt_0 hL (r.2 k e4) (fun _ => sg_X8_optionAt_14 hL rfl) (fun t => sg_X8_optionAt_9 hL (fun t2 => ?_) (fun _ => sg_X8_optionAt_14 hL rfl))
      obtain ⟨p, hp, e⟩ := ii_of2 (n := 4) (by omega) t t2
      exact absurd e (e6 p hp)
  · rw [e3]
    exact sx_X8_optionAt_0_2 (h1 := h) hL (cx := r.1 e3) (hr := rfl)
def an_placeOf (c : CT) (n : Nat) (x y : Int32) : Int32 ⊕ Nat := match idx n x with
  | none => .inr 0
  | some k => match ox y with
    | none => .inr 1
    | some o => .inl (Int32.ofNat (ct_pl c k (Int32.ofNat o)))
theorem sp_idxOf {o : Nat} (hL : hh_L h) (ho : o < 4) : tr_L g d m_X8_indexOf 0 [some (.int (Int32.ofNat (97 + o)))] [] h (.inl (some (.int (Int32.ofNat o))), h) := by
  have := sa_X8_indexOf (g := g) (d := d) (x0 := Int32.ofNat (97 + o)) hL
  rw [fa_X8_indexOf, ii_idx ho] at this
  exact this
theorem op_placeOf {x y : Int32} (hL : hh_L h) (q : cQ h c n) : tr_L g (d + 12) m_X8_placeOf 0 [some (.ref 1000), some (.int x), some (.int y)] [] h (ro (an_placeOf c n x y) h) := by
  have r := rq_cat (g := g) (d := d + 11) (x := x) hL q
  have s := rq_opt (g := g) (d := d + 10) (x := y) hL
  have h7 := q.2.2.1
  unfold an_placeOf
  rcases idx_c (m := n) (by omega) x with ⟨k, hk, e3, e4⟩ | ⟨e3, e4⟩
  · rw [e4]
    rcases ox_c y with ⟨p, hp, e5, e6⟩ | ⟨e5, e6⟩
    · simp only [e6]
      refine sg_X8_placeOf_0 hL (r.2 k e4) (s.2 p e6) (v0 := Int32.ofNat p) (v1 := Int32.ofNat (ct_pl c k (Int32.ofNat p))) (h3 := h) (h4 := h) (by rw [e5]; exact sp_idxOf hL hp) (by rw [e3]; exact sp_placeIn hL q.1 (by omega)) rfl
    · simp only [e5]
      exact sx_X8_placeOf_0_6 (h2 := h) hL (c_0 := r.2 k e4) (cx := s.1 e5) (hr := rfl)
  · rw [e3]
    exact sx_X8_placeOf_0_2 (h1 := h) hL (cx := r.1 e3) (hr := rfl)
def an_heardBy (c : CT) (n : Nat) (x : Int32) : Int32 ⊕ Nat := match idx n x with
  | none => .inr 0
  | some k => .inl ((ct_he c).getD k 0)
theorem op_heardBy {x : Int32} (hL : hh_L h) (q : cQ h c n) : tr_L g (d + 12) m_X8_heardBy 0 [some (.ref 1000), some (.int x)] [] h (ro (an_heardBy c n x) h) := by
  have r := rq_cat (g := g) (d := d + 11) (x := x) hL q
  unfold an_heardBy
  rcases idx_c (m := n) (by have := q.2.2.1; omega) x with ⟨k, hk, e3, e4⟩ | ⟨e3, e4⟩
  · rw [e4]
    have h7 := q.2.2.1
    refine sg_X8_heardBy_0 hL (r.2 k e4) (v0 := (ct_he c).getD k 0) (h2 := h) ?_ rfl
    rw [e3, ← q.1]
    exact sp_atL (a := 6) hL rfl (by omega) (by omega)
  · rw [e3]
    exact sx_X8_heardBy_0_2 (h1 := h) hL (cx := r.1 e3) (hr := rfl)
/-! rays -/
def an_rayEnd (c : CT) (x : Int32) : Int32 ⊕ Nat := match idx 24 x with
  | none => .inr 1
  | some p => if ry_ex (ct_ry c p).1 = -1 then .inr 3 else .inl (ry_ex (ct_ry c p).1)
theorem wF {h' : ev_AH} {ks : List Nat} (a : hh_F ks h h') (hs : ∀ k ∈ ks, k ∈ kW) : hh_F kW h h' := hh_F_w a hs
theorem sp_fol {p : Nat} (hL : hh_L h) (q : cQ h c n) (hp : p < 24) : ∃ h', tr_L g (d + 11) m_X5_follow 0 [some (.ref 1080), some (.ref 1001), some (.int (Int32.ofNat p)), none, none, none, none, none] [] h (.inl none, h') ∧ ry_is h h' (ry_ex (ct_ry c p).1) (ry_cat c n (ct_ry c p).1) (ct_ry c p).2.1 (ct_ry c p).2.2 := by
  obtain ⟨h', r1, r2⟩ := sp_follow (g := g) (d := 0) hL q.1 q.2.1 q.2.2.1 q.2.2.2.1.1 hp
  exact ⟨h', tr_mono (by omega) r1, r2⟩
theorem op_rayEnd {x : Int32} (hL : hh_L h) (q : cQ h c n) : ∃ h', hh_F kW h h' ∧ tr_L g (d + 12) m_X8_rayEnd 0 [some (.ref 1000), some (.int x)] [] h (ro (an_rayEnd c x) h') := by
  have r := rq_port (g := g) (d := d + 10) (x := x) hL
  unfold an_rayEnd
  rcases idx_c (m := 24) (by omega) x with ⟨p, hp, e3, e4⟩ | ⟨e3, e4⟩
  · rw [e4]
    obtain ⟨h', r1, L', F', z0, z1, z2, z3⟩ := sp_fol (g := g) (d := d) hL q hp
    refine ⟨h', hh_F_w F' (by decide), ?_⟩
    by_cases hx : ry_ex (ct_ry c p).1 = -1
    · simp only [if_pos hx]
      exact sg_X8_rayEnd_0 hL (r.2 p e4) (by rw [e3]; exact r1) (fun t => by rw [z0] at t; exact absurd hx t) (fun _ => sg_X8_rayEnd_27 L' rfl)
    · simp only [if_neg hx]
      exact sg_X8_rayEnd_0 hL (r.2 p e4) (by rw [e3]; exact r1) (fun _ => sg_X8_rayEnd_37 L' (by rw [z0]; rfl)) (fun t => by rw [z0] at t; exact absurd t hx)
  · rw [e3]
    exact ⟨h, hh_F_rf, sx_X8_rayEnd_0_1 (h1 := h) hL (cx := r.1 e3) (hr := rfl)⟩
def an_rayCat (c : CT) (n : Nat) (x : Int32) : Int32 ⊕ Nat := match idx 24 x with
  | none => .inr 1
  | some p => if ry_cat c n (ct_ry c p).1 = -1 then .inr 3 else .inl (ry_cat c n (ct_ry c p).1)
theorem op_rayCat {x : Int32} (hL : hh_L h) (q : cQ h c n) : ∃ h', hh_F kW h h' ∧ tr_L g (d + 12) m_X8_rayCat 0 [some (.ref 1000), some (.int x)] [] h (ro (an_rayCat c n x) h') := by
  have r := rq_port (g := g) (d := d + 10) (x := x) hL
  unfold an_rayCat
  rcases idx_c (m := 24) (by omega) x with ⟨p, hp, e3, e4⟩ | ⟨e3, e4⟩
  · rw [e4]
    obtain ⟨h', r1, L', F', z0, z1, z2, z3⟩ := sp_fol (g := g) (d := d) hL q hp
    refine ⟨h', hh_F_w F' (by decide), ?_⟩
    by_cases hx : ry_cat c n (ct_ry c p).1 = -1
    · simp only [if_pos hx]
      exact sg_X8_rayCat_0 hL (r.2 p e4) (by rw [e3]; exact r1) (fun t => by rw [z1] at t; exact absurd hx t) (fun _ => sg_X8_rayCat_27 L' rfl)
    · simp only [if_neg hx]
      exact sg_X8_rayCat_0 hL (r.2 p e4) (by rw [e3]; exact r1) (fun _ => sg_X8_rayCat_37 L' (by rw [z1]; rfl)) (fun t => by rw [z1] at t; exact absurd t hx)
  · rw [e3]
    exact ⟨h, hh_F_rf, sx_X8_rayCat_0_1 (h1 := h) hL (cx := r.1 e3) (hr := rfl)⟩
def an_rayLength (c : CT) (x : Int32) : Int32 ⊕ Nat := match idx 24 x with
  | none => .inr 1
  | some p => .inl (Int32.ofNat (ct_ry c p).2.1)
theorem op_rayLength {x : Int32} (hL : hh_L h) (q : cQ h c n) : ∃ h', hh_F kW h h' ∧ tr_L g (d + 12) m_X8_rayLength 0 [some (.ref 1000), some (.int x)] [] h (ro (an_rayLength c x) h') := by
  have r := rq_port (g := g) (d := d + 10) (x := x) hL
  unfold an_rayLength
  rcases idx_c (m := 24) (by omega) x with ⟨p, hp, e3, e4⟩ | ⟨e3, e4⟩
  · rw [e4]
    obtain ⟨h', r1, L', F', z0, z1, z2, z3⟩ := sp_fol (g := g) (d := d) hL q hp
    exact ⟨h', hh_F_w F' (by decide), sg_X8_rayLength_0 hL (r.2 p e4) (by rw [e3]; exact r1) (by rw [z2]; rfl)⟩
  · rw [e3]
    exact ⟨h, hh_F_rf, sx_X8_rayLength_0_1 (h1 := h) hL (cx := r.1 e3) (hr := rfl)⟩
def an_rayBounces (c : CT) (x : Int32) : Int32 ⊕ Nat := match idx 24 x with
  | none => .inr 1
  | some p => .inl (Int32.ofNat (ct_ry c p).2.2)
theorem op_rayBounces {x : Int32} (hL : hh_L h) (q : cQ h c n) : ∃ h', hh_F kW h h' ∧ tr_L g (d + 12) m_X8_rayBounces 0 [some (.ref 1000), some (.int x)] [] h (ro (an_rayBounces c x) h') := by
  have r := rq_port (g := g) (d := d + 10) (x := x) hL
  unfold an_rayBounces
  rcases idx_c (m := 24) (by omega) x with ⟨p, hp, e3, e4⟩ | ⟨e3, e4⟩
  · rw [e4]
    obtain ⟨h', r1, L', F', z0, z1, z2, z3⟩ := sp_fol (g := g) (d := d) hL q hp
    exact ⟨h', hh_F_w F' (by decide), sg_X8_rayBounces_0 hL (r.2 p e4) (by rw [e3]; exact r1) (by rw [z3]; rfl)⟩
  · rw [e3]
    exact ⟨h, hh_F_rf, sx_X8_rayBounces_0_1 (h1 := h) hL (cx := r.1 e3) (hr := rfl)⟩
def an_rayJoin (c : CT) (x : Int32) : Int32 ⊕ Nat := match idx 24 x with
  | none => .inr 1
  | some p => if jo (ct_c c) p < 24 then .inl (Int32.ofNat (jo (ct_c c) p)) else .inr 3
theorem op_rayJoin {x : Int32} (hL : hh_L h) (q : cQ h c n) : ∃ h', hh_F kW h h' ∧ tr_L g (d + 12) m_X8_rayEndByJoining 0 [some (.ref 1000), some (.int x), none] [] h (ro (an_rayJoin c x) h') := by
  have r := rq_port (g := g) (d := d + 10) (x := x) hL
  unfold an_rayJoin
  rcases idx_c (m := 24) (by omega) x with ⟨p, hp, e3, e4⟩ | ⟨e3, e4⟩
  · rw [e4]
    obtain ⟨h', r1, F', z⟩ := sp_joinAll (g := g) (d := d + 7) hL q.1 q.2.2.2.1.1
    have r2 := sp_otherEnd (g := g) (d := d + 8) r1.2 z hp
    refine ⟨h', hh_F_w F' (by decide), ?_⟩
    have n1 := ii_ne1 (k := jo (ct_c c) p)
    by_cases hx : jo (ct_c c) p < 24
    · rw [ii_o, if_pos hx] at r2
      simp only [if_pos hx]
      exact sg_X8_rayEndByJoining_0 hL (r.2 p e4) r1 (by rw [e3]; exact r2) (fun _ => sg_X8_rayEndByJoining_39 r1.2 rfl) (fun t => absurd t (n1 (by omega)))
    · rw [ii_o, if_neg hx] at r2
      simp only [if_neg hx]
      exact sg_X8_rayEndByJoining_0 hL (r.2 p e4) r1 (by rw [e3]; exact r2) (fun t => absurd rfl t) (fun _ => sg_X8_rayEndByJoining_29 r1.2 rfl)
  · rw [e3]
    exact ⟨h, hh_F_rf, sx_X8_rayEndByJoining_0_1 (h1 := h) hL (cx := r.1 e3) (hr := rfl)⟩
/-! efforts -/
def ce_q (c : CT) (k : Nat) : Nat := ((ct_ce c).getD k 0).toNatClampNeg
theorem ce_qI (q : cQ h c n) {k : Nat} (hk : k < n) : ce_q c k < 35 ∧ (ct_ce c).getD k 0 = Int32.ofNat (ce_q c k) := by
  obtain ⟨j, hj, e⟩ := q.2.2.2.2.1 k hk
  have : ce_q c k = j := by rw [ce_q, e, ii_cn (by omega)]
  rw [this]
  exact ⟨hj, e⟩
def ef_Q (c : CT) (p k : Nat) : Nat := ef (sq (ct_c c) 512 (E0 p, [pe p])).1 (ce_q c k)
def ef_L (c : CT) (p k : Nat) : Nat := ef (sr (ct_c c) 140 (E0 p)) (ce_q c k)
def an_effort (f : CT → Nat → Nat → Nat) (c : CT) (n : Nat) (x y : Int32) : Int32 ⊕ Nat := match idx 24 x with
  | none => .inr 1
  | some p => match idx n y with
    | none => .inr 0
    | some k => if f c p k = 1000 then .inr 3 else .inl (Int32.ofNat (f c p k))
theorem ei_le {E : Nat → Nat} {q : Nat} : ∀ m w l, ei E q m w l ≤ l := by
  intro m
  induction m with
  | zero => intro w l; exact Nat.le_refl _
  | succ m ih =>
    intro w l
    unfold ei
    refine Nat.le_trans (ih _ _) ?_
    try (split <;> omega)
theorem op_effortQ {x y : Int32} (hL : hh_L h) (q : cQ h c n) : ∃ h', hh_F kW h h' ∧ tr_L g (d + 12) m_X8_leastEffort 0 [some (.ref 1000), some (.int x), some (.int y), none] [] h (ro (an_effort ef_Q c n x y) h') := by
  have r := rq_port (g := g) (d := d + 10) (x := x) hL
  have s := rq_cat (g := g) (d := d + 11) (x := y) hL q
  have h7 := q.2.2.1
  unfold an_effort
  rcases idx_c (m := 24) (by omega) x with ⟨p, hp, e3, e4⟩ | ⟨e3, e4⟩
  · rw [e4]
    rcases idx_c (m := n) (by omega) y with ⟨k, hk, e5, e6⟩ | ⟨e5, e6⟩
    · simp only [e6]
      obtain ⟨h', r1, F', z⟩ := sp_searchQ (g := g) (d := d + 7) hL q.1 q.2.2.2.1.1 hp
      have q' := cQ_F F' (fun j hj => by simp; omega) q
      obtain ⟨w1, w2⟩ := ce_qI q hk
      have r2 : tr_L g (d + 11) m_X8_at 0 [some (.ref 1003), some (.int y)] [] h' (.inl (some (.int (Int32.ofNat (ce_q c k)))), h') := by
        rw [← w2, e5]
        have := sp_atL (g := g) (d := d + 11) (a := 3) (k := k) r1.2 rfl (by omega) (by omega)
        rw [show hh_a h' 3 = ct_ce c by rw [← q'.1]; rfl] at this
        exact this
      have r3 := sp_effortQ (g := g) (d := d + 10) (q := ce_q c k) r1.2 z w1
      have hle : ef_Q c p k ≤ 1000 := ei_le _ _ _
      refine ⟨h', hh_F_w F' (by decide), ?_⟩
      by_cases hx : ef_Q c p k = 1000
      · simp only [if_pos hx]
        refine sg_X8_leastEffort_0 hL (r.2 p e4) (s.2 k e6) (by rw [e3]; exact r1) r2 r3 (fun t => ?_) (fun _ => sg_X8_leastEffort_47 r1.2 rfl)
        exact absurd (show Int32.ofNat (ef_Q c p k) = 1000 by rw [hx]; rfl) t
      · simp only [if_neg hx]
        refine sg_X8_leastEffort_0 hL (r.2 p e4) (s.2 k e6) (by rw [e3]; exact r1) r2 r3 (fun _ => sg_X8_leastEffort_57 r1.2 rfl) (fun t => ?_)
        exact absurd ((ii_eq (a := ef_Q c p k) (b := 1000) (by omega) (by omega)).mp t) hx
    · simp only [e5]
      exact ⟨h, hh_F_rf, sx_X8_leastEffort_0_6 (h2 := h) hL (c_0 := r.2 p e4) (cx := s.1 e5) (hr := rfl)⟩
  · rw [e3]
    exact ⟨h, hh_F_rf, sx_X8_leastEffort_0_1 (h1 := h) hL (cx := r.1 e3) (hr := rfl)⟩
theorem op_effortL {x y : Int32} (hL : hh_L h) (q : cQ h c n) : ∃ h', hh_F kW h h' ∧ tr_L g (d + 12) m_X8_leastEffortByRounds 0 [some (.ref 1000), some (.int x), some (.int y), none] [] h (ro (an_effort ef_L c n x y) h') := by
  have r := rq_port (g := g) (d := d + 10) (x := x) hL
  have s := rq_cat (g := g) (d := d + 11) (x := y) hL q
  have h7 := q.2.2.1
  unfold an_effort
  rcases idx_c (m := 24) (by omega) x with ⟨p, hp, e3, e4⟩ | ⟨e3, e4⟩
  · rw [e4]
    rcases idx_c (m := n) (by omega) y with ⟨k, hk, e5, e6⟩ | ⟨e5, e6⟩
    · simp only [e6]
      obtain ⟨h', r1, F', z⟩ := sp_searchL (g := g) (d := d + 8) hL q.1 q.2.2.2.1.1 hp
      have q' := cQ_F F' (fun j hj => by simp; omega) q
      obtain ⟨w1, w2⟩ := ce_qI q hk
      have r2 : tr_L g (d + 11) m_X8_at 0 [some (.ref 1003), some (.int y)] [] h' (.inl (some (.int (Int32.ofNat (ce_q c k)))), h') := by
        rw [← w2, e5]
        have := sp_atL (g := g) (d := d + 11) (a := 3) (k := k) r1.2 rfl (by omega) (by omega)
        rw [show hh_a h' 3 = ct_ce c by rw [← q'.1]; rfl] at this
        exact this
      have r3 := sp_effortL (g := g) (d := d + 10) (q := ce_q c k) r1.2 z w1
      have hle : ef_L c p k ≤ 1000 := ei_le _ _ _
      refine ⟨h', hh_F_w F' (by decide), ?_⟩
      by_cases hx : ef_L c p k = 1000
      · simp only [if_pos hx]
        refine sg_X8_leastEffortByRounds_0 hL (r.2 p e4) (s.2 k e6) (by rw [e3]; exact r1) r2 r3 (fun t => ?_) (fun _ => sg_X8_leastEffortByRounds_47 r1.2 rfl)
        exact absurd (show Int32.ofNat (ef_L c p k) = 1000 by rw [hx]; rfl) t
      · simp only [if_neg hx]
        refine sg_X8_leastEffortByRounds_0 hL (r.2 p e4) (s.2 k e6) (by rw [e3]; exact r1) r2 r3 (fun _ => sg_X8_leastEffortByRounds_57 r1.2 rfl) (fun t => ?_)
        exact absurd ((ii_eq (a := ef_L c p k) (b := 1000) (by omega) (by omega)).mp t) hx
    · simp only [e5]
      exact ⟨h, hh_F_rf, sx_X8_leastEffortByRounds_0_6 (h2 := h) hL (c_0 := r.2 p e4) (cx := s.1 e5) (hr := rfl)⟩
  · rw [e3]
    exact ⟨h, hh_F_rf, sx_X8_leastEffortByRounds_0_1 (h1 := h) hL (cx := r.1 e3) (hr := rfl)⟩
end
