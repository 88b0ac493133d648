/-! LEAST EFFORTS by rounds; with another number for 'none' -/
theorem nb_back : ∀ q, q < 35 → ∀ t, t < 4 → bx_nb q t ≠ 35 → bx_nb (bx_nb q t) (bx_opp t) = q := by decide +kernel
theorem opp_opp : ∀ t, t < 4 → bx_opp (bx_opp t) = t := by decide +kernel
theorem ebl_up {t q : Nat} {k : Int32} {E : Nat → Nat} : ∀ (m w l : Nat) (v : Nat), w ≤ v → v < w + m → t ≠ bx_opp v → ebl t q k E m w l ≤ E (4 * q + v) + (if t = bx_refl k v then 0 else 1)
  | 0, w, l, v, h1, h2, _ => absurd h2 (by omega)
  | m + 1, w, l, v, h1, h2, h3 => by
    rw [ebl]
    by_cases e : v = w
    · subst e
      refine Nat.le_trans (ebl_le m (v + 1) _) ?_
      rw [if_neg h3]
      have hm : ∀ a l : Nat, (if a < l then a else l) ≤ a := fun a l => by split <;> omega
      exact hm _ _
    · exact ebl_up m (w + 1) _ v (by omega) (by omega) h3
theorem ebl_lo {t q : Nat} {k : Int32} {E : Nat → Nat} {F : Nat} (hF : ∀ w, w < 4 → t ≠ bx_opp w → F ≤ E (4 * q + w) + (if t = bx_refl k w then 0 else 1)) : ∀ (m w l : Nat), w + m ≤ 4 → F ≤ l → F ≤ ebl t q k E m w l
  | 0, w, l, _, h => h
  | m + 1, w, l, hw, h => by
    rw [ebl]
    refine ebl_lo hF m (w + 1) _ (by omega) ?_
    split
    · exact h
    · rename_i h3
      have := hF w (by omega) h3
      have hm : ∀ a l : Nat, F ≤ a → F ≤ l → F ≤ (if a < l then a else l) := fun a l h1 h2 => by split <;> omega
      exact hm _ _ this h
/-- an entry's effort from behind is not above that over any edge -/
theorem eb_edge {co : Nat → Int32} {E : Nat → Nat} {x t : Nat} (hx : x < 140) (ht : t < 4) (ok : okE co x t) : eb co E (ny x t) ≤ E x + wt co x t := by
  obtain ⟨o1, o2, o3⟩ := ok
  have hb := bx_lt (q := x / 4) (w := t) (by omega) ht
  have e1 : ny x t / 4 = bx_nb (x / 4) t := by unfold ny; omega
  have e2 : ny x t % 4 = t := by unfold ny; omega
  have e3 := nb_back (x / 4) (by omega) t ht o3
  unfold eb
  rw [e1, e2, e3, if_neg (by omega), if_neg o1]
  have := ebl_up (t := t) (q := x / 4) (k := co (x / 4)) (E := E) 4 0 1000 (x % 4) (by omega) (by omega) o2
  rw [show 4 * (x / 4) + x % 4 = x by omega] at this
  exact this
theorem eb_low {co : Nat → Int32} {p : Nat} {E F : Nat → Nat} {y : Nat} (hy : y < 140) (hF : CL co p 1000 F) (hE : ∀ x, x < 140 → F x ≤ E x) : F y ≤ eb co E y := by
  have h1000 := hF.2.1 y hy
  unfold eb
  split
  · exact h1000
  · rename_i h1
    split
    · exact h1000
    · rename_i h2
      have ho : bx_opp (y % 4) < 4 := (bx_wf (y % 4) (by omega)).1
      have hb := bx_lt (q := y / 4) (w := bx_opp (y % 4)) (by omega) ho
      have e3 := nb_back (y / 4) (by omega) (bx_opp (y % 4)) ho h1
      rw [opp_opp (y % 4) (by omega)] at e3
      refine ebl_lo (fun w hw hne => ?_) 4 0 1000 (by omega) h1000
      have hx : 4 * bx_nb (y / 4) (bx_opp (y % 4)) + w < 140 := by omega
      have d1 : (4 * bx_nb (y / 4) (bx_opp (y % 4)) + w) / 4 = bx_nb (y / 4) (bx_opp (y % 4)) := by omega
      have d2 : (4 * bx_nb (y / 4) (bx_opp (y % 4)) + w) % 4 = w := by omega
      have c1 := hF.2.2 _ hx (y % 4) (by omega) ⟨by rw [d1]; exact h2, by rw [d2]; exact hne, by rw [d1, e3]; omega⟩
      have c2 := hE _ hx
      unfold ny wt at c1
      rw [d1, d2, e3, show 4 * (y / 4) + y % 4 = y by omega] at c1
      omega
/-- one round -/
theorem la_run {co : Nat → Int32} {p : Nat} : ∀ (m x : Nat) (E : Nat → Nat) (b : Bool), x + m = 140 → (∀ z, (la co m x E b).1 z ≤ E z) ∧ (∀ F, CL co p 1000 F → (∀ z, z < 140 → F z ≤ E z) → ∀ z, z < 140 → F z ≤ (la co m x E b).1 z) ∧ (∀ z, z < 140 → ∀ t, t < 4 → okE co z t → x ≤ ny z t → (la co m x E b).1 (ny z t) ≤ E z + wt co z t) ∧ ((la co m x E b).2 = false → b = false ∧ ∀ z, (la co m x E b).1 z = E z)
  | 0, x, E, b, hx => ⟨fun z => Nat.le_refl _, fun F hF h z hz => h z hz, fun z hz t ht ok hn => absurd (ny_lt hz ht ok.2.2) (by omega), fun h => ⟨h, fun z => rfl⟩⟩
  | m + 1, x, E, b, hx => by
    rw [la]
    by_cases h : eb co E x < E x
    · rw [if_pos h]
      obtain ⟨k1, k2, k3, k4⟩ := la_run (p := p) m (x + 1) (upE E x (eb co E x)) true (by omega)
      have up : ∀ z, upE E x (eb co E x) z = if z = x then eb co E x else E z := fun z => rfl
      have upl : ∀ z, upE E x (eb co E x) z ≤ E z := fun z => by
        rw [up]
        split
        · rename_i e
          rw [e]
          omega
        · exact Nat.le_refl _
      refine ⟨fun z => Nat.le_trans (k1 z) (upl z), fun F hF hE z hz => k2 F hF (fun y hy => ?_) z hz, fun z hz t ht ok hn => ?_, fun hf => absurd (k4 hf).1 (by decide)⟩
      · rw [up]
        split
        · rename_i e
          rw [e]
          exact eb_low (by omega) hF hE
        · exact hE y hy
      · by_cases e : ny z t = x
        · have h1 := k1 (ny z t)
          rw [up, if_pos e] at h1
          have h2 := eb_edge (E := E) hz ht ok
          rw [e] at h1 h2 ⊢
          omega
        · have h1 := k3 z hz t ht ok (by omega)
          have h2 := upl z
          omega
    · rw [if_neg h]
      obtain ⟨k1, k2, k3, k4⟩ := la_run (p := p) m (x + 1) E b (by omega)
      refine ⟨k1, k2, fun z hz t ht ok hn => ?_, k4⟩
      by_cases e : ny z t = x
      · have h1 := k1 (ny z t)
        have h2 := eb_edge (E := E) hz ht ok
        rw [e] at h1 h2 ⊢
        omega
      · exact k3 z hz t ht ok (by omega)
theorem cnt_full {p : Nat → Bool} {n : Nat} (h : n ≤ cnt p n) : ∀ k, k < n → p k = true := fun k hk => by
  cases e : p k with
  | true => rfl
  | false =>
    have := cnt_lt (p := p) (q := fun _ => true) n (fun _ _ _ => rfl) ⟨k, hk, rfl, e⟩
    rw [cnt_true] at this
    omega
/-- where not all is least yet, an entry is, and one before it is not, on the way to it -/
theorem front {co : Nat → Int32} {p K : Nat} {D E : Nat → Nat} (d1 : CL co p K D) (d2 : LE co p K D) (e0 : E (pe p) = 0) (eK : ∀ x, x < 140 → E x ≤ K) (e2 : LE co p K E) (hne : ∃ y, y < 140 ∧ E y ≠ D y) : ∃ x t, x < 140 ∧ t < 4 ∧ okE co x t ∧ E x = D x ∧ E (ny x t) ≠ D (ny x t) ∧ D (ny x t) = D x + wt co x t := by
  refine Classical.byContradiction (fun no => ?_)
  obtain ⟨y, hy, hne⟩ := hne
  have hF : CL co p K (fun z => if E z = D z then D z else D z + 1) := by
    refine ⟨?_, fun z hz => ?_, fun x hx t ht ok => ?_⟩
    · show (if E (pe p) = D (pe p) then D (pe p) else D (pe p) + 1) = 0
      rw [if_pos (by rw [e0, d1.1])]
      exact d1.1
    · have h1 := e2 D d1 z hz
      have h2 := eK z hz
      show (if E z = D z then D z else D z + 1) ≤ K
      split <;> omega
    · show (if E (ny x t) = D (ny x t) then D (ny x t) else D (ny x t) + 1) ≤ (if E x = D x then D x else D x + 1) + wt co x t
      have h1 := d1.2.2 x hx t ht ok
      by_cases a : E (ny x t) = D (ny x t)
      · rw [if_pos a]
        split <;> omega
      · rw [if_neg a]
        by_cases b : E x = D x
        · rw [if_pos b]
          have : D (ny x t) ≠ D x + wt co x t := fun e => no ⟨x, t, hx, ht, ok, b, a, e⟩
          omega
        · rw [if_neg b]
          omega
  have := d2 _ hF y hy
  simp only [if_neg hne] at this
  omega
theorem sr_ok {co : Nat → Int32} {p : Nat} {D : Nat → Nat} (hp : p < 24) (d1 : CL co p 1000 D) (d2 : LE co p 1000 D) : ∀ x, x < 140 → sr co 140 (E0 p) x = D x := by
  have hpe := pe_lt hp
  have key : ∀ (m : Nat) (E : Nat → Nat), E (pe p) = 0 → (∀ x, x < 140 → E x ≤ 1000) → LE co p 1000 E → 140 ≤ cnt (fun x => E x == D x) 140 + m → ∀ x, x < 140 → sr co m E x = D x := by
    intro m
    induction m with
    | zero =>
      intro E _ _ _ hc x hx
      exact beq_iff_eq.mp (cnt_full (p := fun x => E x == D x) (n := 140) (by omega) x hx)
    | succ m ih =>
      intro E e0 eK e2 hc x hx
      obtain ⟨k1, k2, k3, k4⟩ := la_run (co := co) (p := p) 140 0 E false (by omega)
      rw [sr]
      by_cases hb : (la co 140 0 E false).2 = true
      · rw [if_pos hb]
        have e0' : (la co 140 0 E false).1 (pe p) = 0 := Nat.le_zero.mp (Nat.le_trans (k1 _) (Nat.le_of_eq e0))
        have e2' : LE co p 1000 (la co 140 0 E false).1 := fun F hF z hz => k2 F hF (fun y hy => e2 F hF y hy) z hz
        have sub : ∀ z, z < 140 → (E z == D z) = true → ((la co 140 0 E false).1 z == D z) = true := fun z hz h => by
          have h1 := beq_iff_eq.mp h
          have h2 := k1 z
          have h3 := e2' D d1 z hz
          exact beq_iff_eq.mpr (by omega)
        refine ih _ e0' (fun z hz => Nat.le_trans (k1 z) (eK z hz)) e2' ?_ x hx
        by_cases hne : ∃ y, y < 140 ∧ E y ≠ D y
        · obtain ⟨z, t, hz, ht, ok, f1, f2, f3⟩ := front d1 d2 e0 eK e2 hne
          have hn := ny_lt hz ht ok.2.2
          have h4 := k3 z hz t ht ok (by omega)
          have h5 := e2' D d1 (ny z t) hn
          have := cnt_lt (p := fun x => E x == D x) (q := fun x => (la co 140 0 E false).1 x == D x) 140 sub ⟨ny z t, hn, beq_iff_eq.mpr (by omega), beq_eq_false_iff_ne.mpr f2⟩
          omega
        · have all : ∀ y, y < 140 → (la co 140 0 E false).1 y = D y := fun y hy => by
            refine beq_iff_eq.mp (sub y hy (beq_iff_eq.mpr ?_))
            exact Classical.byContradiction (fun h => hne ⟨y, hy, h⟩)
          have : cnt (fun x => (la co 140 0 E false).1 x == D x) 140 = 140 := by
            have h1 := cnt_mono (p := fun _ => true) (q := fun x => (la co 140 0 E false).1 x == D x) 140 (fun k hk _ => beq_iff_eq.mpr (all k hk))
            rw [cnt_true] at h1
            have h2 := cnt_le (p := fun x => (la co 140 0 E false).1 x == D x) 140
            omega
          omega
      · rw [if_neg hb]
        have hf : (la co 140 0 E false).2 = false := by
          cases h : (la co 140 0 E false).2 with
          | true => exact absurd h hb
          | false => rfl
        have same := (k4 hf).2
        have cl : CL co p 1000 E := ⟨e0, eK, fun z hz t ht ok => by
          have := k3 z hz t ht ok (by omega)
          rw [same] at this
          exact this⟩
        rw [same]
        exact Nat.le_antisymm (d2 E cl x hx) (e2 D d1 x hx)
  have e1 : E0 p (pe p) = 0 := by unfold E0; rw [if_pos rfl]
  refine key 140 (E0 p) e1 (fun x _ => by unfold E0; split <;> omega) E0_LE (by omega)
/-- both searches find the same -/
theorem agE_of {c : CT} {n : Nat} (w : pQ c n) : ag_E c n := fun p hp k hk => by
  obtain ⟨d1, d2⟩ := sq_ok (co := ct_c c) hp
  have h := sr_ok hp d1 d2
  obtain ⟨q, hq, _⟩ := w.2.2.2.1 k hk
  have hq' : ce_q c k < 35 := by
    unfold ce_q
    obtain ⟨q, hq, e⟩ := w.2.2.2.1 k hk
    rw [e, ii_cn (by omega)]
    exact hq
  have ei_c : ∀ (m w l : Nat), w + m ≤ 4 → ei (sq (ct_c c) 512 (E0 p, [pe p])).1 (ce_q c k) m w l = ei (sr (ct_c c) 140 (E0 p)) (ce_q c k) m w l := by
    intro m
    induction m with
    | zero => intro w l _; rfl
    | succ m ih =>
      intro w l hw
      rw [ei, ei, h _ (by omega)]
      exact ih _ _ (by omega)
  exact ei_c 4 0 1000 (by omega)
/-! another number for 'none' -/
theorem fin_140 {co : Nat → Int32} {p : Nat} {D : Nat → Nat} (d1 : CL co p 1000 D) (d2 : LE co p 1000 D) : ∀ y, y < 140 → D y < 1000 → D y ≤ 140 := by
  -- all numbers below one that is found are found
  have down : ∀ v, 1 ≤ v → v < 1000 → (∃ y, y < 140 ∧ D y = v) → ∃ x, x < 140 ∧ D x = v - 1 := by
    intro v h1 h2 ⟨y, hy, e⟩
    refine Classical.byContradiction (fun no => ?_)
    have hF : CL co p 1000 (fun z => if v ≤ D z ∧ D z < 1000 then D z + 1 else D z) := by
      refine ⟨?_, fun z hz => ?_, fun x hx t ht ok => ?_⟩
      · show (if v ≤ D (pe p) ∧ D (pe p) < 1000 then D (pe p) + 1 else D (pe p)) = 0
        rw [d1.1, if_neg (by omega)]
      · have := d1.2.1 z hz
        show (if v ≤ D z ∧ D z < 1000 then D z + 1 else D z) ≤ 1000
        split <;> omega
      · show (if v ≤ D (ny x t) ∧ D (ny x t) < 1000 then D (ny x t) + 1 else D (ny x t)) ≤ (if v ≤ D x ∧ D x < 1000 then D x + 1 else D x) + wt co x t
        have a1 := d1.2.2 x hx t ht ok
        have a2 := wt_le (co := co) (x := x) (t := t)
        have a3 := d1.2.1 x hx
        have a4 : D x ≠ v - 1 := fun e => no ⟨x, hx, e⟩
        by_cases b : v ≤ D x ∧ D x < 1000
        · rw [if_pos b]
          split <;> omega
        · rw [if_neg b]
          split <;> omega
    have := d2 _ hF y hy
    simp only [if_pos (show v ≤ D y ∧ D y < 1000 by omega)] at this
    omega
  intro y hy hlt
  have all : ∀ j, j ≤ D y → ∃ x, x < 140 ∧ D x = D y - j := by
    intro j
    induction j with
    | zero => intro _; exact ⟨y, hy, rfl⟩
    | succ j ih =>
      intro hj
      obtain ⟨x, hx, e⟩ := ih (by omega)
      obtain ⟨z, hz, e2⟩ := down (D y - j) (by omega) (by omega) ⟨x, hx, e⟩
      exact ⟨z, hz, by omega⟩
  have many : ∀ v, v ≤ D y → v ≤ cnt (fun x => decide (D x < v)) 140 := by
    intro v
    induction v with
    | zero => intro _; omega
    | succ v ih =>
      intro hv
      have h1 := ih (by omega)
      obtain ⟨x, hx, e⟩ := all (D y - v) (by omega)
      have := cnt_lt (p := fun x => decide (D x < v)) (q := fun x => decide (D x < v + 1)) 140 (fun k _ h => decide_eq_true (by have := of_decide_eq_true h; omega)) ⟨x, hx, decide_eq_true (by omega), decide_eq_false (by omega)⟩
      omega
  have h1 := many (D y) (Nat.le_refl _)
  have h2 := cnt_le (p := fun x => decide (D x < D y)) 140
  omega
def far9 (v : Nat) : Nat := if v < 1000 then v else 9999
theorem cap9 {co : Nat → Int32} {p : Nat} {D E : Nat → Nat} (d1 : CL co p 1000 D) (d2 : LE co p 1000 D) (e1 : CL co p 9999 E) (e2 : LE co p 9999 E) : ∀ x, x < 140 → E x = far9 (D x) := by
  have f := fin_140 d1 d2
  have gcl : CL co p 9999 (fun z => far9 (D z)) := by
    refine ⟨?_, fun z hz => ?_, fun x hx t ht ok => ?_⟩
    · show far9 (D (pe p)) = 0
      rw [d1.1]; rfl
    · show far9 (D z) ≤ 9999
      unfold far9
      split <;> omega
    · show far9 (D (ny x t)) ≤ far9 (D x) + wt co x t
      have a1 := d1.2.2 x hx t ht ok
      have a2 := wt_le (co := co) (x := x) (t := t)
      have a3 := f x hx
      unfold far9
      repeat' split
      all_goals omega
  have hcl : CL co p 1000 (fun z => if E z < 1000 then E z else 1000) := by
    refine ⟨?_, fun z hz => ?_, fun x hx t ht ok => ?_⟩
    · show (if E (pe p) < 1000 then E (pe p) else 1000) = 0
      rw [e1.1]; rfl
    · show (if E z < 1000 then E z else 1000) ≤ 1000
      split <;> omega
    · show (if E (ny x t) < 1000 then E (ny x t) else 1000) ≤ (if E x < 1000 then E x else 1000) + wt co x t
      have a1 := e1.2.2 x hx t ht ok
      repeat' split
      all_goals omega
  intro x hx
  have g1 := e2 _ gcl x hx
  have h1 := d2 _ hcl x hx
  have h2 := e1.2.1 x hx
  have h3 := d1.2.1 x hx
  unfold far9 at g1 ⊢
  try simp only at h1
  split at g1
  · rename_i a
    rw [if_pos a]
    split at h1 <;> omega
  · rename_i a
    rw [if_neg a]
    omega
