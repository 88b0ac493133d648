/-! THE MODEL: changes in the making -/
section
variable {g : tr_g} {d : Nat} {h h' : ev_AH} {c : CT} {n : Nat}
theorem mRc_n (q : mQ h c n) : mRc (hh_a h 100) c := by
  have h7 := q.2.2.1
  have : cn c = n := by unfold cn; rw [q.2.1, ii_cn (by omega)]
  unfold mRc
  rw [this]
  exact q.1
theorem mRc_of {s : List Int32} {n : Nat} (h : mR s c n) (e : ct_i c 0 = Int32.ofNat n) (h7 : n ≤ 7) : mRc s c := by
  have : cn c = n := by unfold cn; rw [e, ii_cn (by omega)]
  unfold mRc
  rw [this]
  exact h
/-- nothing was thrown yet, or only an exception was -/
theorem mO_thr {x : Int32} (q : mRc (hh_a h 100) c) (h12 : hh_i h 99 12 = 0) (m : mT h h' x) : mO h h' (x, 0, 0, c) := ⟨hh_F_w m.1 (by decide), fun sl h1 _ => m.2.2 sl h1, m.2.1, by rw [m.2.2 12 (by omega)]; exact h12, fun e => absurd rfl e, fun _ => hh_F_a m.1 (by decide), by rw [hh_F_a m.1 (by decide)]; exact q⟩
theorem mO_T {h1 h2 : ev_AH} {x : Int32} {o : Int32 × Int32 × Int32 × CT} (m : mT h h1 x) (b : mO h1 h2 o) : mO h h2 o := ⟨hh_F_tr (hh_F_w m.1 (by decide)) b.1, fun sl h1 h2 => (b.2.1 sl h1 h2).trans (m.2.2 sl h1), b.2.2.1, b.2.2.2.1, b.2.2.2.2.1, fun e => by rw [b.2.2.2.2.2.1 e, hh_F_a m.1 (by decide)], b.2.2.2.2.2.2⟩
theorem mO_U {h1 h2 : ev_AH} {x : Int32} {o : Int32 × Int32 × Int32 × CT} (m : mU h h1 x) (b : mO h1 h2 o) : mO h h2 o := ⟨hh_F_tr (hh_F_w m.1 (by decide)) b.1, fun sl h1 h2 => (b.2.1 sl h1 h2).trans (m.2.2 sl h1 (by omega)), b.2.2.1, b.2.2.2.1, b.2.2.2.2.1, fun e => by rw [b.2.2.2.2.2.1 e, hh_F_a m.1 (by decide)], b.2.2.2.2.2.2⟩
/-- a rejection -/
theorem mO_rej {x1 x2 x3 : Int32} (hL : hh_L h) (q : mRc (hh_a h 100) c) : mO h (hh_si (hh_si (hh_si h 99 8 12 x1) 99 8 13 x2) 99 8 7 x3) (x3, x1, x2, c) := by
  have L1 := ht99_7 (sl := 12) (x := x1) hL (by omega)
  have L2 := ht99_7 (sl := 13) (x := x2) L1 (by omega)
  have j1 : ∀ sl, hh_i (hh_si h 99 8 12 x1) 99 sl = if 12 = sl then x1 else hh_i h 99 sl := fun sl => hh_i_sis hL ht99 (by decide)
  have j2 : ∀ sl, hh_i (hh_si (hh_si h 99 8 12 x1) 99 8 13 x2) 99 sl = if 13 = sl then x2 else hh_i (hh_si h 99 8 12 x1) 99 sl := fun sl => hh_i_sis L1 ht99 (by decide)
  have j3 : ∀ sl, hh_i (hh_si (hh_si (hh_si h 99 8 12 x1) 99 8 13 x2) 99 8 7 x3) 99 sl = if 7 = sl then x3 else hh_i (hh_si (hh_si h 99 8 12 x1) 99 8 13 x2) 99 sl := fun sl => hh_i_sis L2 ht99 (by decide)
  have F : hh_F [99] h (hh_si (hh_si (hh_si h 99 8 12 x1) 99 8 13 x2) 99 8 7 x3) := hh_F_tr (hh_F_si (by decide)) (hh_F_tr (hh_F_si (by decide)) (hh_F_si (by decide)))
  refine ⟨hh_F_w F (by decide), fun sl h1 h2 => ?_, ?_, ?_, fun _ => ?_, fun _ => hh_F_a F (by decide), by rw [hh_F_a F (by decide)]; exact q⟩
  · rw [j3, if_neg (by omega), j2, if_neg (by omega), j1, if_neg (by omega)]
  · rw [j3, if_pos rfl]
  · rw [j3, if_neg (by decide), j2, if_neg (by decide), j1, if_pos rfl]
  · rw [j3, if_neg (by decide), j2, if_pos rfl]
/-- a change that stands -/
theorem mO_ok {s : List Int32} {c' : CT} (hL : hh_L h) (h7 : hh_i h 99 7 = 0) (h12 : hh_i h 99 12 = 0) (q : mRc s c') : mO h (hh_sa h 100 0 s) (0, 0, 0, c') := ⟨hh_F_sa (by decide), fun sl _ _ => hh_i_sa (by decide), by rw [hh_i_sa (by decide)]; exact h7, by rw [hh_i_sa (by decide)]; exact h12, fun e => absurd rfl e, fun e => absurd rfl e, by rw [hh_a_sa (hh_L_lt hL (by decide)), if_pos rfl]; exact q⟩
theorem sp_rej1 {x1 x2 x3 : Int32} (hL : hh_L h) : tr_L g (d + 1) m_X9_isRejected 0 [some (.ref 1099), some (.int 1), some (.int x1), some (.int x2), some (.int x3)] [] h (.inl (some (.int 1)), hh_si (hh_si (hh_si h 99 8 12 x1) 99 8 13 x2) 99 8 7 x3) := sp_isRej (b := true) hL
theorem sp_rej0 {x1 x2 x3 : Int32} (hL : hh_L h) : tr_L g (d + 1) m_X9_isRejected 0 [some (.ref 1099), some (.int 0), some (.int x1), some (.int x2), some (.int x3)] [] h (.inl (some (.int 0)), hh_si h 99 8 7 0) := sp_isRej (b := false) hL
theorem mT0 (hL : hh_L h) (h7 : hh_i h 99 7 = 0) : mT h h 0 := ⟨hh_F_rf, h7, fun _ _ => rfl⟩
/-! the method -/
def om_meth (c : CT) (x : Int32) : Int32 × Int32 × Int32 × CT := if fa_X8_isMethod x = 0 then (1, 0, 0, c) else (0, 0, 0, cc_in c 1 x)
theorem sp_methM {x : Int32} (hL : hh_L h) (q : mQ h c n) (hn : ct_ln c) (h12 : hh_i h 99 12 = 0) : ∃ h', tr_L g (d + 1) m_X9_methods 0 [some (.ref 1099), some (.int x), none] [] h (.inl (some (.int (if fa_X8_isMethod x = 0 then 0 else ct_i c 1))), h') ∧ mO h h' (om_meth c x) := by
  have h7 := q.2.2.1
  have r0 := sp_thr0 (g := g) (d := d) (x := 1) hL
  have r1 := sp_thr1 (g := g) (d := d) (x := 1) hL
  have ok : ∀ w, fa_X8_isMethod x = 1 → tr_L g (d + 1) m_X9_methods 23 [some (.ref 1099), some (.int x), w] [.ref 1099] h (.inl (some (.int (if fa_X8_isMethod x = 0 then 0 else ct_i c 1))), hh_sa (hh_si h 99 8 7 0) 100 0 ((hh_a h 100).set 0 x)) := fun w e => by
    rw [e, if_neg (by decide)]
    refine sg_X9_methods_23 hL r0 (fun _ => sg_X9_methods_33 r0.2 (j0 := 0) (j1 := 0) rfl (by omega) rfl (by omega) ?_) (fun t => absurd rfl t)
    rw [hh_a_si (by decide), q.1.2.1.1]
  unfold om_meth
  have res : fa_X8_isMethod x = 1 → ∃ h', (∀ w, tr_L g (d + 1) m_X9_methods 23 [some (.ref 1099), some (.int x), w] [.ref 1099] h (.inl (some (.int (if fa_X8_isMethod x = 0 then 0 else ct_i c 1))), h')) ∧ mO h h' (if fa_X8_isMethod x = 0 then (1, 0, 0, c) else (0, 0, 0, cc_in c 1 x)) := fun e => by
    refine ⟨_, fun w => ok w e, ?_⟩
    rw [e, if_neg (by decide)]
    have m1 := mT_set (x := 0) hL
    refine mO_T m1 (mO_ok r0.2 m1.2.1 (by rw [m1.2.2 12 (by omega)]; exact h12) (mRc_of (mR_meth hn q.1) ?_ h7))
    rw [ci_in hn (by omega), if_neg (by decide)]
    exact q.2.1
  by_cases e1 : x = 112
  · obtain ⟨h', a, b⟩ := res (by unfold fa_X8_isMethod; rw [if_pos e1])
    exact ⟨h', sg_X9_methods_0 hL (fun _ => a _) (fun t => absurd e1 t), b⟩
  · by_cases e2 : x = 114
    · obtain ⟨h', a, b⟩ := res (by unfold fa_X8_isMethod; rw [if_neg e1, if_pos e2])
      exact ⟨h', sg_X9_methods_0 hL (fun t => absurd t e1) (fun _ => sg_X9_methods_7 hL (fun _ => a _) (fun t => absurd e2 t)), b⟩
    · by_cases e3 : x = 115
      · obtain ⟨h', a, b⟩ := res (by unfold fa_X8_isMethod; rw [if_neg e1, if_neg e2, if_pos e3])
        exact ⟨h', sg_X9_methods_0 hL (fun t => absurd t e1) (fun _ => sg_X9_methods_7 hL (fun t => absurd t e2) (fun _ => sg_X9_methods_13 hL (fun _ => a _) (fun t => absurd e3 t))), b⟩
      · have e : fa_X8_isMethod x = 0 := by unfold fa_X8_isMethod; rw [if_neg e1, if_neg e2, if_neg e3]
        rw [e, if_pos rfl, if_pos rfl]
        exact ⟨_, sg_X9_methods_0 hL (fun t => absurd t e1) (fun _ => sg_X9_methods_7 hL (fun t => absurd t e2) (fun _ => sg_X9_methods_13 hL (fun t => absurd t e3) (fun _ => sg_X9_methods_19 hL r1 (fun t => absurd t (by decide)) (fun _ => sg_X9_methods_31 r1.2 rfl)))), mO_thr (mRc_n q) h12 (mT_set hL)⟩
/-! a mirror -/
theorem con_eq {x : Int32} : fa_X9_isContent x = fa_X8_isContent x := by
  unfold fa_X9_isContent fa_X8_isContent
  by_cases e1 : x = 46
  · subst e1; decide
  · by_cases e2 : x = 47
    · subst e2; decide
    · by_cases e3 : x = 92
      · subst e3; decide
      · rw [if_neg e2, if_neg e3, if_neg e1, if_neg e1, if_neg e2, if_neg e3]
theorem con_or {x : Int32} (h : fa_X8_isContent x ≠ 0) : x = 46 ∨ x = 47 ∨ x = 92 := by
  unfold fa_X8_isContent at h
  by_cases e1 : x = 46
  · exact Or.inl e1
  · by_cases e2 : x = 47
    · exact Or.inr (Or.inl e2)
    · by_cases e3 : x = 92
      · exact Or.inr (Or.inr e3)
      · rw [if_neg e1, if_neg e2, if_neg e3] at h
        exact absurd rfl h
def om_mir (c : CT) (n : Nat) (x a : Int32) : Int32 × Int32 × Int32 × CT := match idx 35 x with
  | none => (1, 0, 0, c)
  | some q => if fa_X8_isContent a = 0 then (2, 0, 0, c) else if ct_cat c n x < n then (3, 2, Int32.ofNat (ct_cat c n x), c) else (0, 0, 0, ct_chg c q a)
def vm_mir (c : CT) (n : Nat) (x a : Int32) : Int32 := if (om_mir c n x a).1 = 0 then ct_mir (om_mir c n x a).2.2.2 else 0
theorem chg_0 {q : Nat} {x : Int32} (hn : ct_ln c) : ct_i (ct_chg c q x) 0 = ct_i c 0 := by
  unfold ct_chg
  split
  · rfl
  · exact (ci_in (c := cc_co c ((ct_co c).set q x)) ⟨by rw [show ct_co (cc_co c ((ct_co c).set q x)) = (ct_co c).set q x from rfl, List.length_set]; exact hn.1, hn.2⟩ (by omega)).trans (if_neg (by omega))
end
