/-! THE LAW: what holds between two of its rows -/
def lw (c : CT) (P : List CT) (S : Option CT) (y : YS) (t : List Int32) (B k : Nat) : Prop := cw c (cn c) B ∧ (∀ e ∈ P, cw e (cn e) B) ∧ (∀ e, S = some e → cw e (cn e) B) ∧ B + t.length ≤ k ∧ t.length ≤ 60 ∧ tx_ok t ∧ (y.2.2.2 = -1 ∨ 0 ≤ y.2.2.2)
def lwS (a b k : Nat) (h : ev_AH) : Prop := hh_L h ∧ h.2.1 ≤ a + 2 * k ∧ h.2.2 ≤ b + 200 * k ∧ ∃ c P S y l t B, CI h c P S y l t ∧ MI h c P S y l t ∧ lw c P S y t B k
theorem lg_self {u : Int64} : lg_cmp u u = 0 := by
  unfold lg_cmp
  rw [if_neg (by simp), if_pos rfl]
theorem ia_eq {h h' : ev_AH} {k : Nat} (e : h'.1[k]? = h.1[k]?) : hh_a h' k = hh_a h k := by unfold hh_a; rw [e]
theorem ii_eqc {h h' : ev_AH} {k sl : Nat} (e : h'.1[k]? = h.1[k]?) : hh_i h' k sl = hh_i h k sl := by unfold hh_i hh_v; rw [e]
/-- the heap behind a wrapper of the law -/
def wH (A : Int32 ⊕ Nat) (h : ev_AH) : ev_AH := match A with
  | .inl v => ev_wr h 1109 (.inr (100, (hh_v h 109).set 0 (.long v.toInt64)))
  | .inr _ => hh_x h
theorem ht109 : hh_t[109]? = some (.inr (100, [2])) := rfl
theorem ht110 : hh_t[110]? = some (.inr (101, [3])) := rfl
theorem wr_F {h : ev_AH} {x : ev_AC} : hh_F [109] h (ev_wr h 1109 x) := ⟨by simp [ev_wr], rfl, fun j hj => by
  have : (109 : Nat) ≠ j := fun e => hj (by simp [e])
  show (h.1.set 109 x)[j]? = h.1[j]?
  exact List.getElem?_set_ne this⟩
theorem wr_F2 {h : ev_AH} {x : ev_AC} : hh_F [110] h (ev_wr h 1110 x) := ⟨by simp [ev_wr], rfl, fun j hj => by
  have : (110 : Nat) ≠ j := fun e => hj (by simp [e])
  show (h.1.set 110 x)[j]? = h.1[j]?
  exact List.getElem?_set_ne this⟩
theorem wr_v {h : ev_AH} {v : Value} (hL : hh_L h) : (hh_v (ev_wr h 1109 (.inr (100, (hh_v h 109).set 0 v))) 109)[0]? = some v := by
  obtain ⟨o1, o2⟩ := hh_obj hL ht109
  have hlt : 109 < h.1.length := (List.getElem?_eq_some_iff.mp o1).1
  have e : (h.1.set 109 (.inr (100, (hh_v h 109).set 0 v)))[109]? = some (.inr (100, (hh_v h 109).set 0 v)) := List.getElem?_set_self hlt
  have l1 : 0 < (hh_v h 109).length := by rw [o2]; decide
  show (match (h.1.set 109 (.inr (100, (hh_v h 109).set 0 v)))[109]? with | some (.inr (_, vs)) => vs | _ => [])[0]? = some v
  rw [e]
  exact List.getElem?_set_self l1
theorem wr_v2 {h : ev_AH} {v : Value} (hL : hh_L h) : (hh_v (ev_wr h 1110 (.inr (101, (hh_v h 110).set 0 v))) 110)[0]? = some v := by
  obtain ⟨o1, o2⟩ := hh_obj hL ht110
  have hlt : 110 < h.1.length := (List.getElem?_eq_some_iff.mp o1).1
  have e : (h.1.set 110 (.inr (101, (hh_v h 110).set 0 v)))[110]? = some (.inr (101, (hh_v h 110).set 0 v)) := List.getElem?_set_self hlt
  have l1 : 0 < (hh_v h 110).length := by rw [o2]; decide
  show (match (h.1.set 110 (.inr (101, (hh_v h 110).set 0 v)))[110]? with | some (.inr (_, vs)) => vs | _ => [])[0]? = some v
  rw [e]
  exact List.getElem?_set_self l1
section
variable {g : tr_g} {d : Nat} {h h1 h2 h' : ev_AH} {c c' : CT} {n B k : Nat} {P P' : List CT} {S S' : Option CT} {y y' : YS} {l l' t t' : List Int32}
theorem MI_E (e : ∀ k : Nat, 99 ≤ k → k < 109 → h'.1[k]? = h.1[k]?) (w : MI h c P S y l t) : MI h' c P S y l t := by
  obtain ⟨w1, w2, w3, w4, w5, w6, w7⟩ := w
  have a : ∀ k, 99 ≤ k → k < 109 → hh_a h' k = hh_a h k := fun k p q => ia_eq (e k p q)
  have i : ∀ sl, hh_i h' 99 sl = hh_i h 99 sl := fun sl => ii_eqc (e 99 (by omega) (by omega))
  refine ⟨by rw [a 100 (by omega) (by omega)]; exact w1, MP_of (i 6) (a 103 (by omega) (by omega)) w2, ?_, ?_, ?_, ?_, ?_⟩
  · rw [i, a 102 (by omega) (by omega)]; exact w3
  · rw [i, i, i, i]; exact w4
  · rw [i, a 106 (by omega) (by omega)]; exact w5
  · rw [i]; exact w6
  · rw [a 107 (by omega) (by omega)]; exact w7
/-- behind the class's half of a row -/
def mid (h h1 : ev_AH) (c : CT) (P : List CT) (S : Option CT) (y : YS) (l t : List Int32) (c' : CT) (P' : List CT) (S' : Option CT) (y' : YS) (l' t' : List Int32) : Prop := h1.2.1 ≤ h.2.1 + 2 ∧ h1.2.2 ≤ h.2.2 + 200 ∧ CI h1 c' P' S' y' l' t' ∧ MI h1 c P S y l t
theorem mid_w {A : Int32 ⊕ Nat} {m q : Nat} (hL1 : hh_L h1) (M : hh_M m q h h1) (hm : m ≤ 1) (hq : q ≤ 100) (ci : CI h1 c' P' S' y' l' t') (mi : MI h c P S y l t) : mid h (wH A h1) c P S y l t c' P' S' y' l' t' ∧ ∀ v, A = .inl v → (hh_v (wH A h1) 109)[0]? = some (.long v.toInt64) := by
  have m1 : MI h1 c P S y l t := MI_E (fun k p q => M.2.2.2 k p (by omega)) mi
  have b1 := M.2.1
  have b2 := M.2.2.1
  cases A with
  | inl v =>
    have F := wr_F (h := h1) (x := .inr (100, (hh_v h1 109).set 0 (.long v.toInt64)))
    refine ⟨⟨?_, ?_, CI_F F (by decide) ci, MI_E (fun k p q => F.2.2 k (by simp; omega)) m1⟩, fun w hw => ?_⟩
    · show (ev_wr h1 1109 _).2.1 ≤ _
      rw [F.2.1]
      omega
    · show (ev_wr h1 1109 _).2.2 ≤ _
      rw [F.2.1]
      omega
    · have hw := Sum.inl.inj hw
      subst hw
      exact wr_v hL1
  | inr E =>
    refine ⟨⟨?_, ?_, CI_x ci, m1⟩, fun w hw => by cases hw⟩
    · show h1.2.1 + 1 ≤ _
      omega
    · show h1.2.2 + 6 ≤ _
      omega
theorem mid_0 {m q : Nat} (M : hh_M m q h h1) (hm : m ≤ 1) (hq : q ≤ 100) (ci : CI h1 c' P' S' y' l' t') (mi : MI h c P S y l t) : mid h h1 c P S y l t c' P' S' y' l' t' := ⟨by have := M.2.1; omega, by have := M.2.2.1; omega, ci, MI_E (fun k p q => M.2.2.2 k p (by omega)) mi⟩
/-- behind the model's half of a row -/
theorem end_w {a b : Nat} (s1 : h.2.1 ≤ a + 2 * k) (s2 : h.2.2 ≤ b + 200 * k) (m : mid h h1 c P S y l t c' P' S' y' l' t') (L2 : hh_L h2) (F : hh_F kM h1 h2) (mi : MI h2 c' P' S' y' l' t') (w : lw c' P' S' y' t' B (k + 1)) : lwS a b (k + 1) h2 := by
  obtain ⟨m1, m2, m3, _⟩ := m
  refine ⟨L2, ?_, ?_, c', P', S', y', l', t', B, CI_F F (by decide) m3, mi, w⟩
  · rw [F.2.1]; omega
  · rw [F.2.1]; omega
theorem lw_k (w : lw c P S y t B k) : lw c P S y t B (k + 1) := ⟨w.1, w.2.1, w.2.2.1, by have := w.2.2.2.1; omega, w.2.2.2.2⟩
theorem end_q {a b : Nat} {x : Int32} (s1 : h.2.1 ≤ a + 2 * k) (s2 : h.2.2 ≤ b + 200 * k) (m : mid h h1 c P S y l t c P S y l t) (L2 : hh_L h2) (U : mU h1 h2 x) (w : lw c P S y t B k) : lwS a b (k + 1) h2 := end_w s1 s2 m L2 (hh_F_w U.1 (by decide)) (MI_of (hh_F_w U.1 (by decide)) (fun sl p q => U.2.2 sl p (by omega)) m.2.2.2) (lw_k w)
theorem cmp_w {A : Int32 ⊕ Nat} {f : Nat → Int32} {ks : List Nat} (hf : ∀ E, A = .inr E → f E ≠ 0) (p : ∀ v, A = .inl v → (hh_v h1 109)[0]? = some (.long v.toInt64)) (F : hh_F ks h1 h2) (hk : 109 ∉ ks) : (ans A f).2 ≠ 0 ∨ ((ans A f).2 = 0 ∧ (hh_v h2 109)[0]? = some (.long (ans A f).1.toInt64)) := by
  cases A with
  | inl v => exact Or.inr ⟨rfl, by rw [hh_F_v F hk]; exact p v rfl⟩
  | inr E => exact Or.inl (hf E rfl)
/-! changes keep the bounds -/
theorem lw_o {o : Int32 × Int32 × Int32 × CT} {n' B' : Nat} (w : lw c P S y t B k) (q : cw o.2.2.2 n' B') (hB : B ≤ B') (hB2 : B' ≤ B + 1) : lw o.2.2.2 (pO P c o) S (yO y o) t B' (k + 1) := by
  obtain ⟨w1, w2, w3, w4, w5, w6, w7⟩ := w
  refine ⟨by rw [cw_cn q]; exact q, fun e he => ?_, fun e he => cw_B hB (w3 e he), by omega, w5, w6, ?_⟩
  · unfold pO at he
    split at he
    · unfold hi_push at he
      split at he
      · rcases List.mem_append.mp he with h | h
        · exact cw_B hB (w2 e h)
        · have := List.mem_singleton.mp h
          rw [this]
          exact cw_B hB w1
      · rcases List.mem_append.mp he with h | h
        · exact cw_B hB (w2 e (List.mem_of_mem_drop h))
        · have := List.mem_singleton.mp h
          rw [this]
          exact cw_B hB w1
    · exact cw_B hB (w2 e he)
  · unfold yO
    split
    · exact w7
    · exact w7
theorem cats_cw {x a b e : Int32} (w : cw c n B) : ∃ n', cw (om_cats c n x a b e).2.2.2 n' (B + 1) := by
  have same : ∃ n', cw c n' (B + 1) := ⟨n, cw_B (by omega) w⟩
  have h7 := w.1.2.1
  unfold om_cats
  rcases idx_c (m := 35) (by omega) x with ⟨q, hq, e3, e4⟩ | ⟨e3, e4⟩
  · rw [e4]
    simp only
    by_cases k1 : fa_X8_areThreeOptions a b e = 0
    · rw [if_pos k1]; exact same
    · rw [if_neg k1]
      by_cases k2 : n = 7
      · rw [if_pos k2]; exact same
      · rw [if_neg k2]
        by_cases k3 : ct_cat c n x < n
        · rw [if_pos k3]; exact same
        · rw [if_neg k3]
          rw [e3] at k3
          exact ⟨n + 1, cw_B (by omega) (cw_seat w (by omega) hq k3 k1)⟩
  · rw [e3]; exact same
theorem mir_cw {x a : Int32} (w : cw c n B) : ∃ n', cw (om_mir c n x a).2.2.2 n' (B + 1) := by
  have same : ∃ n', cw c n' (B + 1) := ⟨n, cw_B (by omega) w⟩
  unfold om_mir
  rcases idx_c (m := 35) (by omega) x with ⟨q, hq, e3, e4⟩ | ⟨e3, e4⟩
  · rw [e4]
    simp only
    by_cases k1 : fa_X8_isContent a = 0
    · rw [if_pos k1]; exact same
    · rw [if_neg k1]
      by_cases k3 : ct_cat c n x < n
      · rw [if_pos k3]; exact same
      · rw [if_neg k3]
        rw [e3] at k3
        exact ⟨n, cw_B (by omega) (cw_chg w hq k3 (con_or k1))⟩
  · rw [e3]; exact same
theorem says_cw {x a : Int32} (w : cw c n B) : ∃ n', cw (om_says c n x a).2.2.2 n' (B + 1) := by
  have same : ∃ n', cw c n' (B + 1) := ⟨n, cw_B (by omega) w⟩
  have h7 := w.1.2.1
  unfold om_says
  rcases idx_c (m := 24) (by omega) x with ⟨p, hp, e3, e4⟩ | ⟨e3, e4⟩
  · rw [e4]
    simp only
    rcases ox_c a with ⟨o, ho, e5, e6⟩ | ⟨e5, e6⟩
    · rw [e6]
      simp only
      rcases ry_or w.2.2.1 h7 (R_end_of w.2.2.1) hp with ⟨k, hk, q1, _⟩ | ⟨_, _, _, q1, _⟩
      · rw [q1, if_neg (ii_ne1 (by omega)), ii_cn (by omega)]
        exact ⟨n, cw_hear w hk ho⟩
      · rw [q1, if_pos rfl]; exact same
    · rw [e5]; exact same
  · rw [e3]; exact same
theorem meth_cw {a : Int32} (w : cw c n B) : ∃ n', cw (om_meth c a).2.2.2 n' (B + 1) := by
  unfold om_meth
  by_cases k1 : fa_X8_isMethod a = 0
  · rw [if_pos k1]
    exact ⟨n, cw_B (by omega) w⟩
  · rw [if_neg k1]
    refine ⟨n, cw_B (by omega) (cw_meth w ?_)⟩
    unfold fa_X8_isMethod at k1
    by_cases p1 : a = 112
    · exact Or.inl p1
    · rw [if_neg p1] at k1
      by_cases p2 : a = 114
      · exact Or.inr (Or.inl p2)
      · rw [if_neg p2] at k1
        by_cases p3 : a = 115
        · exact Or.inr (Or.inr p3)
        · rw [if_neg p3] at k1
          exact absurd rfl k1
theorem vote_cw (w : cw c n B) : ∃ n', cw (om_vote c n).2.2.2 n' (B + 1) := by
  unfold om_vote
  by_cases k1 : n = 0
  · rw [if_pos k1]
    exact ⟨n, cw_B (by omega) w⟩
  · rw [if_neg k1]
    exact ⟨n, cw_conc w verd_ch⟩
theorem ret_cw (w : cw c n B) : ∃ n', cw (om_ret c n).2.2.2 n' (B + 1) := by
  unfold om_ret
  by_cases k1 : ct_may c = 0
  · rw [if_pos k1]
    exact ⟨n, cw_B (by omega) w⟩
  · rw [if_neg k1]
    exact ⟨n, cw_B (by omega) (cw_again w)⟩
end
