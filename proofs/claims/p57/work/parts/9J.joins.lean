/-! JOINING: its groups -/
def isr (P : Nat → Nat) (z : Nat) : Bool := P z == z
/-- a forest: a height of each side over its root -/
def FO (P : Nat → Nat) : Prop := P_ok P ∧ ∃ dp : Nat → Nat, (∀ x, x < 140 → P x = x → dp x = 0) ∧ (∀ x, x < 140 → P x ≠ x → dp (P x) < dp x) ∧ ∀ x, x < 140 → dp x + cnt (isr P) 140 ≤ 140
theorem rt_root {P dp : Nat → Nat} (ok : P_ok P) (h0 : ∀ x, x < 140 → P x = x → dp x = 0) (h1 : ∀ x, x < 140 → P x ≠ x → dp (P x) < dp x) : ∀ (m x : Nat), x < 140 → dp x ≤ m → P (rt P m x) = rt P m x ∧ ∀ m', dp x ≤ m' → rt P m' x = rt P m x
  | 0, x, hx, hd => by
    have : P x = x := Classical.byContradiction (fun h => by have := h1 x hx h; omega)
    refine ⟨this, fun m' _ => ?_⟩
    cases m' with
    | zero => rfl
    | succ m' =>
      show (if P x = x then x else rt P m' (P x)) = x
      rw [if_pos this]
  | m + 1, x, hx, hd => by
    by_cases h : P x = x
    · rw [rt, if_pos h]
      refine ⟨h, fun m' _ => ?_⟩
      cases m' with
      | zero => rfl
      | succ m' => rw [rt, if_pos h]
    · have hl := h1 x hx h
      obtain ⟨a, b⟩ := rt_root ok h0 h1 m (P x) (ok x hx) (by omega)
      rw [rt, if_neg h]
      refine ⟨a, fun m' hm' => ?_⟩
      cases m' with
      | zero => omega
      | succ m' =>
        rw [rt, if_neg h]
        exact b m' (by omega)
theorem FO_rt {P : Nat → Nat} (f : FO P) {x : Nat} (hx : x < 140) : P (rt P 140 x) = rt P 140 x ∧ rt P 140 x < 140 ∧ rt P 140 (P x) = rt P 140 x := by
  obtain ⟨ok, dp, h0, h1, h2⟩ := f
  have hd : ∀ z, z < 140 → dp z ≤ 140 := fun z hz => by have := h2 z hz; omega
  obtain ⟨a, b⟩ := rt_root ok h0 h1 140 x hx (hd x hx)
  refine ⟨a, rt_lt ok 140 x hx, ?_⟩
  by_cases h : P x = x
  · rw [h]
  · have hl := h1 x hx h
    obtain ⟨c, e⟩ := rt_root ok h0 h1 139 (P x) (ok x hx) (by have := hd x hx; omega)
    rw [e 140 (hd _ (ok x hx))]
    show _ = (if P x = x then x else rt P 139 (P x))
    rw [if_neg h]
theorem rt_self {P : Nat → Nat} {x : Nat} (h : P x = x) : ∀ m, rt P m x = x
  | 0 => rfl
  | m + 1 => by rw [rt, if_pos h]
theorem jn_run {P : Nat → Nat} {x y : Nat} (f : FO P) (hx : x < 140) (hy : y < 140) : FO (jn P x y) ∧ ∀ z, z < 140 → rt (jn P x y) 140 z = if rt P 140 z = rt P 140 x then rt P 140 y else rt P 140 z := by
  obtain ⟨rx1, rx2, _⟩ := FO_rt f hx
  obtain ⟨ry1, ry2, _⟩ := FO_rt f hy
  by_cases e : rt P 140 x = rt P 140 y
  · have same : jn P x y = P := by
      funext i
      show (if i = rt P 140 x then rt P 140 y else P i) = P i
      split
      · rename_i h
        rw [h, rx1, e]
      · rfl
    rw [same]
    refine ⟨f, fun z _ => ?_⟩
    split
    · rename_i h
      rw [h, e]
    · rfl
  · have fs := f
    obtain ⟨ok, dp, h0, h1, h2⟩ := f
    have pj : ∀ i, jn P x y i = if i = rt P 140 x then rt P 140 y else P i := fun _ => rfl
    have ok' : P_ok (jn P x y) := jn_ok ok hy
    -- the new height
    have k0 : ∀ z, z < 140 → jn P x y z = z → (if rt P 140 z = rt P 140 x then dp z + 1 else dp z) = 0 := fun z hz h => by
      rw [pj] at h
      by_cases hzx : z = rt P 140 x
      · rw [if_pos hzx] at h
        exact absurd (hzx.symm.trans h.symm) e
      · rw [if_neg hzx] at h
        rw [rt_self h, if_neg hzx]
        exact h0 z hz h
    have k1 : ∀ z, z < 140 → jn P x y z ≠ z → (if rt P 140 (jn P x y z) = rt P 140 x then dp (jn P x y z) + 1 else dp (jn P x y z)) < (if rt P 140 z = rt P 140 x then dp z + 1 else dp z) := fun z hz h => by
      rw [pj] at h ⊢
      by_cases hzx : z = rt P 140 x
      · rw [if_pos hzx] at h ⊢
        rw [rt_self ry1, if_neg (fun t => e t.symm), hzx, rt_self rx1, if_pos rfl, h0 _ ry2 ry1]
        omega
      · rw [if_neg hzx] at h ⊢
        have h3 := h1 z hz h
        rw [(FO_rt fs hz).2.2]
        split <;> omega
    have k2 : cnt (isr (jn P x y)) 140 < cnt (isr P) 140 := by
      refine cnt_lt 140 (fun z hz h => ?_) ⟨rt P 140 x, rx2, beq_iff_eq.mpr rx1, beq_eq_false_iff_ne.mpr ?_⟩
      · have h := beq_iff_eq.mp h
        rw [pj] at h
        by_cases hzx : z = rt P 140 x
        · rw [if_pos hzx] at h
          exact absurd (hzx.symm.trans h.symm) e
        · rw [if_neg hzx] at h
          exact beq_iff_eq.mpr h
      · rw [pj, if_pos rfl]
        exact fun t => e t.symm
    have f' : FO (jn P x y) := ⟨ok', fun z => if rt P 140 z = rt P 140 x then dp z + 1 else dp z, k0, k1, fun z hz => by
      have := h2 z hz
      show (if rt P 140 z = rt P 140 x then dp z + 1 else dp z) + _ ≤ 140
      split <;> omega⟩
    refine ⟨f', ?_⟩
    have key : ∀ n z, z < 140 → dp z ≤ n → rt (jn P x y) 140 z = if rt P 140 z = rt P 140 x then rt P 140 y else rt P 140 z := by
      intro n
      induction n with
      | zero =>
        intro z hz hd
        have hr : P z = z := Classical.byContradiction (fun h => by have := h1 z hz h; omega)
        rw [rt_self hr]
        by_cases hzx : z = rt P 140 x
        · rw [if_pos hzx]
          have h9 := (FO_rt f' hz).2.2
          have e9 : jn P x y z = rt P 140 y := by rw [pj, if_pos hzx]
          rw [← h9, e9]
          exact rt_self (by rw [pj, if_neg (fun t => e t.symm)]; exact ry1) 140
        · rw [if_neg hzx]
          exact rt_self (by rw [pj, if_neg hzx]; exact hr) 140
      | succ n ih =>
        intro z hz hd
        by_cases hr : P z = z
        · rw [rt_self hr]
          by_cases hzx : z = rt P 140 x
          · rw [if_pos hzx]
            have h9 := (FO_rt f' hz).2.2
            have e9 : jn P x y z = rt P 140 y := by rw [pj, if_pos hzx]
            rw [← h9, e9]
            exact rt_self (by rw [pj, if_neg (fun t => e t.symm)]; exact ry1) 140
          · rw [if_neg hzx]
            exact rt_self (by rw [pj, if_neg hzx]; exact hr) 140
        · have hzx : z ≠ rt P 140 x := fun t => hr (by rw [t]; exact rx1)
          have h3 := h1 z hz hr
          have h9 := (FO_rt f' hz).2.2
          have e9 : jn P x y z = P z := by rw [pj, if_neg hzx]
          rw [e9] at h9
          rw [← h9, ih (P z) (ok z hz) (by omega), (FO_rt fs hz).2.2]
    exact fun z hz => key (dp z) z hz (Nat.le_refl _)
/-- the pairs of sides that are joined -/
def JP (co : Nat → Int32) (x y : Nat) : Prop := (∃ q w, q < 35 ∧ (w = 1 ∨ w = 2) ∧ bx_nb q w ≠ 35 ∧ x = 4 * q + w ∧ y = 4 * bx_nb q w + bx_opp w) ∨ (∃ q w, q < 35 ∧ w < 4 ∧ co q ≠ 99 ∧ x = 4 * q + bx_opp w ∧ y = 4 * q + bx_refl (co q) w)
/-- the groups keep to what joined pairs have in common -/
def UF (co : Nat → Int32) (P : Nat → Nat) : Prop := FO P ∧ ∀ R : Nat → Prop, (∀ x y, JP co x y → (R x ↔ R y)) → ∀ z, z < 140 → (R z ↔ R (rt P 140 z))
def sm (P : Nat → Nat) (x y : Nat) : Prop := rt P 140 x = rt P 140 y
/-- P' is made of P: what was the same is the same -/
def grow (P P' : Nat → Nat) : Prop := ∀ x y, x < 140 → y < 140 → sm P x y → sm P' x y
theorem grow_tr {P Q R : Nat → Nat} (a : grow P Q) (b : grow Q R) : grow P R := fun x y hx hy h => b x y hx hy (a x y hx hy h)
theorem jn_UF {co : Nat → Int32} {P : Nat → Nat} {x y : Nat} (u : UF co P) (hx : x < 140) (hy : y < 140) (j : JP co x y) : UF co (jn P x y) ∧ sm (jn P x y) x y ∧ grow P (jn P x y) := by
  obtain ⟨f, g⟩ := jn_run u.1 hx hy
  refine ⟨⟨f, fun R hR z hz => ?_⟩, ?_, fun a b ha hb h => ?_⟩
  · rw [g z hz]
    have h1 := u.2 R hR z hz
    split
    · rename_i e
      rw [h1, e, ← u.2 R hR x hx, hR x y j]
      exact u.2 R hR y hy
    · exact h1
  · unfold sm
    rw [g x hx, g y hy, if_pos rfl]
    split
    · rfl
    · rfl
  · unfold sm at h ⊢
    rw [g a ha, g b hb, h]
theorem jb_UF {co : Nat → Int32} {P : Nat → Nat} {q w : Nat} (u : UF co P) (hq : q < 35) (hw : w = 1 ∨ w = 2) : UF co (jb q w P) ∧ grow P (jb q w P) ∧ (bx_nb q w ≠ 35 → sm (jb q w P) (4 * q + w) (4 * bx_nb q w + bx_opp w)) := by
  have hw4 : w < 4 := by omega
  unfold jb
  by_cases h : bx_nb q w = 35
  · rw [if_pos h]
    exact ⟨u, fun _ _ _ _ h => h, fun n => absurd h n⟩
  · rw [if_neg h]
    have hb := bx_lt hq hw4
    have ho := bx_opp_lt hw4
    obtain ⟨a, b, c⟩ := jn_UF u (x := 4 * q + w) (y := 4 * bx_nb q w + bx_opp w) (by omega) (by omega) (Or.inl ⟨q, w, hq, hw, h, rfl, rfl⟩)
    exact ⟨a, c, fun _ => b⟩
theorem jw_UF {co : Nat → Int32} {q : Nat} (hq : q < 35) : ∀ (m w : Nat) (P : Nat → Nat), w + m = 4 → UF co P → UF co (jw (co q) q m w P) ∧ grow P (jw (co q) q m w P) ∧ (co q ≠ 99 → ∀ v, w ≤ v → v < 4 → sm (jw (co q) q m w P) (4 * q + bx_opp v) (4 * q + bx_refl (co q) v))
  | 0, w, P, hw, u => ⟨u, fun _ _ _ _ h => h, fun _ v a b => absurd b (by omega)⟩
  | m + 1, w, P, hw, u => by
    rw [jw]
    by_cases h : co q = 99
    · rw [if_pos h]
      exact ⟨u, fun _ _ _ _ h => h, fun n => absurd h n⟩
    · rw [if_neg h]
      have hw4 : w < 4 := by omega
      have ho := bx_opp_lt hw4
      have hr : bx_refl (co q) w < 4 := bx_refl_lt hw4
      obtain ⟨a, b, c⟩ := jn_UF u (x := 4 * q + bx_opp w) (y := 4 * q + bx_refl (co q) w) (by omega) (by omega) (Or.inr ⟨q, w, hq, hw4, h, rfl, rfl⟩)
      obtain ⟨a2, b2, c2⟩ := jw_UF hq m (w + 1) _ (by omega) a
      refine ⟨a2, grow_tr c b2, fun _ v hv1 hv2 => ?_⟩
      by_cases e : v = w
      · subst e
        exact b2 _ _ (by omega) (by omega) b
      · exact c2 h v (by omega) hv2
theorem ja_UF {co : Nat → Int32} : ∀ (m q : Nat) (P : Nat → Nat), q + m = 35 → UF co P → UF co (ja co m q P) ∧ grow P (ja co m q P) ∧ ∀ q', q ≤ q' → q' < 35 → (∀ w, w = 1 ∨ w = 2 → bx_nb q' w ≠ 35 → sm (ja co m q P) (4 * q' + w) (4 * bx_nb q' w + bx_opp w)) ∧ (co q' ≠ 99 → ∀ v, v < 4 → sm (ja co m q P) (4 * q' + bx_opp v) (4 * q' + bx_refl (co q') v))
  | 0, q, P, hq, u => ⟨u, fun _ _ _ _ h => h, fun q' a b => absurd b (by omega)⟩
  | m + 1, q, P, hq, u => by
    rw [ja]
    have hq35 : q < 35 := by omega
    obtain ⟨a1, b1, c1⟩ := jb_UF (w := 1) u hq35 (Or.inl rfl)
    obtain ⟨a2, b2, c2⟩ := jb_UF (w := 2) a1 hq35 (Or.inr rfl)
    obtain ⟨a3, b3, c3⟩ := jw_UF (co := co) hq35 4 0 _ (by omega) a2
    obtain ⟨a4, b4, c4⟩ := ja_UF m (q + 1) _ (by omega) a3
    refine ⟨a4, grow_tr b1 (grow_tr b2 (grow_tr b3 b4)), fun q' h1 h2 => ?_⟩
    by_cases e : q' = q
    · subst e
      refine ⟨fun w hw hn => ?_, fun hc v hv => ?_⟩
      · have hw4 : w < 4 := by omega
        have hb := bx_lt hq35 hw4
        have ho := bx_opp_lt hw4
        rcases hw with rfl | rfl
        · exact b4 _ _ (by omega) (by omega) (b3 _ _ (by omega) (by omega) (b2 _ _ (by omega) (by omega) (c1 hn)))
        · exact b4 _ _ (by omega) (by omega) (b3 _ _ (by omega) (by omega) (c2 hn))
      · have ho := bx_opp_lt hv
        have hr : bx_refl (co q') v < 4 := bx_refl_lt hv
        exact b4 _ _ (by omega) (by omega) (c3 hc v (by omega) hv)
    · exact c4 q' (by omega) h2
theorem id_UF {co : Nat → Int32} : UF co (fun i => i) := by
  have r : ∀ z, rt (fun i => i) 140 z = z := fun z => rt_self rfl 140
  refine ⟨⟨fun x hx => hx, fun _ => 0, fun _ _ _ => rfl, fun x _ h => absurd rfl h, fun x _ => ?_⟩, fun R _ z _ => by rw [r]⟩
  have := cnt_le (p := isr (fun i => i)) 140
  show 0 + cnt (isr (fun i => i)) 140 ≤ 140
  omega
theorem jP_UF {co : Nat → Int32} : UF co (jP co) ∧ ∀ x y, JP co x y → sm (jP co) x y := by
  obtain ⟨a, _, c⟩ := ja_UF (co := co) 35 0 _ (by omega) id_UF
  refine ⟨a, fun x y h => ?_⟩
  rcases h with ⟨q, w, hq, hw, hn, rfl, rfl⟩ | ⟨q, w, hq, hw, hc, rfl, rfl⟩
  · exact (c q (by omega) hq).1 w hw hn
  · exact (c q (by omega) hq).2 hc w hw
/-! the sides of a ray are a group of their own -/
theorem opp_inj : ∀ a, a < 4 → ∀ b, b < 4 → bx_opp a = bx_opp b → a = b := by decide +kernel
def Rs (co : Nat → Int32) (p L : Nat) (z : Nat) : Prop := ∃ i, i ≤ L ∧ (z = sdI (itr co (pe p) i) ∨ (z = sdO co (itr co (pe p) i) ∧ co (itr co (pe p) i / 4) ≠ 99))
theorem sd_I {x q v : Nat} (hv : v < 4) (e : 4 * q + v = sdI x) : x / 4 = q ∧ bx_opp (x % 4) = v := by
  have := bx_opp_lt (show x % 4 < 4 by omega)
  unfold sdI at e
  omega
theorem sd_O {co : Nat → Int32} {x q v : Nat} (hv : v < 4) (e : 4 * q + v = sdO co x) : x / 4 = q ∧ rw_ co x = v := by
  have := rw_lt (co := co) (x := x)
  unfold sdO at e
  omega
theorem Rs_a {co : Nat → Int32} {p L q w : Nat} (hp : p < 24) (P : path co p L) (lt : ∀ i, i ≤ L → itr co (pe p) i < 140) (hq : q < 35) (hw : w < 4) (hn : bx_nb q w ≠ 35) (h : Rs co p L (4 * q + w)) : Rs co p L (4 * bx_nb q w + bx_opp w) := by
  obtain ⟨i, hi, h⟩ := h
  rcases h with e | ⟨e, hc⟩
  · obtain ⟨e1, e2⟩ := sd_I hw e
    cases i with
    | zero =>
      obtain ⟨b1, b2⟩ := pe_dm hp
      have e1 : pe p / 4 = q := e1
      have e2 : bx_opp (pe p % 4) = w := e2
      rw [b1] at e1
      rw [b2] at e2
      rw [← e1, ← e2, port_out p hp] at hn
      exact absurd rfl hn
    | succ i =>
      have cx := P.1 i (by omega)
      have hx := lt i (by omega)
      obtain ⟨a1, a2⟩ := nx_dm (co := co) (x := itr co (pe p) i)
      have e1 : nx co (itr co (pe p) i) / 4 = q := e1
      have e2 : bx_opp (nx co (itr co (pe p) i) % 4) = w := e2
      rw [a1] at e1
      rw [a2] at e2
      have back := nb_back (itr co (pe p) i / 4) (by omega) (rw_ co (itr co (pe p) i)) rw_lt cx.2
      refine ⟨i, by omega, Or.inr ⟨?_, cx.1⟩⟩
      rw [← e1, ← e2, back, opp_opp _ rw_lt]
      rfl
  · obtain ⟨e1, e2⟩ := sd_O hw e
    have cx : cont co (itr co (pe p) i) := ⟨hc, by rw [e1, e2]; exact hn⟩
    have hiL : i < L := by
      rcases Nat.lt_or_ge i L with h | h
      · exact h
      · have : i = L := by omega
        rw [this] at cx
        exact absurd cx P.2
    obtain ⟨a1, a2⟩ := nx_dm (co := co) (x := itr co (pe p) i)
    refine ⟨i + 1, by omega, Or.inl ?_⟩
    show _ = sdI (nx co (itr co (pe p) i))
    unfold sdI
    rw [a1, a2, e1, e2]
theorem Rs_b {co : Nat → Int32} {p L q w : Nat} (hk : cok co) (hq : q < 35) (hw : w < 4) (hc : co q ≠ 99) : Rs co p L (4 * q + bx_opp w) ↔ Rs co p L (4 * q + bx_refl (co q) w) := by
  have ho := bx_opp_lt hw
  have hr : bx_refl (co q) w < 4 := bx_refl_lt hw
  constructor
  · rintro ⟨i, hi, e | ⟨e, h99⟩⟩
    · obtain ⟨e1, e2⟩ := sd_I ho e
      have e3 := opp_inj _ (by omega) _ hw e2
      refine ⟨i, hi, Or.inr ⟨?_, by rw [e1]; exact hc⟩⟩
      unfold sdO rw_
      rw [e1, e3]
    · obtain ⟨e1, e2⟩ := sd_O ho e
      refine ⟨i, hi, Or.inl ?_⟩
      unfold rw_ at e2
      rw [e1] at e2
      have m := refl_opp (hk q hq) hc (show itr co (pe p) i % 4 < 4 by omega)
      rw [e2, opp_opp w hw] at m
      unfold sdI
      rw [e1, ← m]
  · rintro ⟨i, hi, e | ⟨e, h99⟩⟩
    · obtain ⟨e1, e2⟩ := sd_I hr e
      refine ⟨i, hi, Or.inr ⟨?_, by rw [e1]; exact hc⟩⟩
      have m := refl_opp (hk q hq) hc hw
      rw [← e2, opp_opp _ (by omega)] at m
      unfold sdO rw_
      rw [e1, m]
    · obtain ⟨e1, e2⟩ := sd_O hr e
      refine ⟨i, hi, Or.inl ?_⟩
      unfold rw_ at e2
      rw [e1] at e2
      have m1 := refl_inv (hk q hq) hc (show itr co (pe p) i % 4 < 4 by omega)
      have m2 := refl_inv (hk q hq) hc hw
      rw [e2, m2] at m1
      unfold sdI
      rw [e1, ← m1]
theorem Rs_ok {co : Nat → Int32} {p L : Nat} (hk : cok co) (hp : p < 24) (P : path co p L) (lt : ∀ i, i ≤ L → itr co (pe p) i < 140) (x y : Nat) (h : JP co x y) : Rs co p L x ↔ Rs co p L y := by
  rcases h with ⟨q, w, hq, hw, hn, rfl, rfl⟩ | ⟨q, w, hq, hw, hc, rfl, rfl⟩
  · have hw4 : w < 4 := by omega
    refine ⟨Rs_a hp P lt hq hw4 hn, fun h => ?_⟩
    have hb := bx_lt hq hw4
    have back := nb_back q hq w hw4 hn
    have := Rs_a hp P lt (q := bx_nb q w) (w := bx_opp w) (by omega) (bx_opp_lt hw4) (by rw [back]; omega) h
    rw [back, opp_opp w hw4] at this
    exact this
  · exact Rs_b hk hq hw hc
theorem ps_inj : ∀ p, p < 24 → ∀ o, o < 24 → pe p = pe o → p = o := by decide +kernel
theorem port_pp : ∀ p, p < 24 → bx_port (bx_cell p) (bx_opp (bx_dir p)) = p := by decide +kernel
/-- another port's side is touched only where the ray leaves -/
theorem Rs_port {c : CT} {n p o L : Nat} (w : co_w c n) (hp : p < 24) (ho : o < 24) (hne : o ≠ p) (P : path (ct_c c) p L) (lt : ∀ i, i ≤ L → itr (ct_c c) (pe p) i < 140) (he : (ct_ry c p).1 = (if ct_c c (itr (ct_c c) (pe p) L / 4) = 99 then some (.inl (itr (ct_c c) (pe p) L / 4)) else some (.inr (bx_port (itr (ct_c c) (pe p) L / 4) (rw_ (ct_c c) (itr (ct_c c) (pe p) L)))))) (h : Rs (ct_c c) p L (ps o)) : (ct_ry c p).1 = some (.inr o) := by
  obtain ⟨f1, f2⟩ := bx_facts o ho
  have fo := bx_opp_lt f2
  obtain ⟨b1, b2⟩ := pe_dm ho
  obtain ⟨i, hi, e | ⟨e, hc⟩⟩ := h
  · obtain ⟨e1, e2⟩ := sd_I fo e
    have e3 := opp_inj _ (by omega) _ f2 e2
    have epe : itr (ct_c c) (pe p) i = pe o := by
      have : pe o = 4 * bx_cell o + bx_dir o := rfl
      omega
    cases i with
    | zero => exact absurd (ps_inj p hp o ho epe).symm hne
    | succ i => exact absurd epe (pe_first ho (lt i (by omega)) (P.1 i (by omega)))
  · obtain ⟨e1, e2⟩ := sd_O fo e
    have hiL : i = L := by
      rcases Nat.lt_or_ge i L with h | h
      · have := (P.1 i h).2
        rw [e1, e2, port_out o ho] at this
        exact absurd rfl this
      · omega
    rw [hiL] at e1 e2 hc
    rw [he, if_neg hc, e1, e2, port_pp o ho]
/-- the first and the last side of a ray that leaves are in one group -/
theorem Rs_same {c : CT} {n p e : Nat} (w : co_w c n) (hp : p < 24) (h : (ct_ry c p).1 = some (.inr e)) : e < 24 ∧ sm (jP (ct_c c)) (ps p) (ps e) := by
  have hk := co_cok w
  obtain ⟨L, P, lt, he⟩ := ray_path w hp
  have J := (jP_UF (co := ct_c c)).2
  rw [h] at he
  by_cases h99 : ct_c c (itr (ct_c c) (pe p) L / 4) = 99
  · rw [if_pos h99] at he
    cases he
  · rw [if_neg h99] at he
    have el : e = bx_port (itr (ct_c c) (pe p) L / 4) (rw_ (ct_c c) (itr (ct_c c) (pe p) L)) := Sum.inr.inj (Option.some.inj he)
    have hL := lt L (Nat.le_refl _)
    have hn : bx_nb (itr (ct_c c) (pe p) L / 4) (rw_ (ct_c c) (itr (ct_c c) (pe p) L)) = 35 := Classical.byContradiction (fun hn => P.2 ⟨h99, hn⟩)
    have he24 : e < 24 := by rw [el]; exact bx_port_lt _ (by omega) _ rw_lt
    obtain ⟨q1, q2⟩ := port_in _ (show itr (ct_c c) (pe p) L / 4 < 35 by omega) _ rw_lt hn
    rw [← el] at q1 q2
    have within : ∀ x, x < 140 → ct_c c (x / 4) ≠ 99 → sm (jP (ct_c c)) (sdI x) (sdO (ct_c c) x) := fun x hx hc => J _ _ (Or.inr ⟨x / 4, x % 4, by omega, by omega, hc, rfl, rfl⟩)
    have beside : ∀ x, x < 140 → cont (ct_c c) x → sm (jP (ct_c c)) (sdO (ct_c c) x) (sdI (nx (ct_c c) x)) := fun x hx cx => by
      obtain ⟨a1, a2⟩ := nx_dm (co := ct_c c) (x := x)
      have r4 := rw_lt (co := ct_c c) (x := x)
      have e2 : sdI (nx (ct_c c) x) = 4 * bx_nb (x / 4) (rw_ (ct_c c) x) + bx_opp (rw_ (ct_c c) x) := by unfold sdI; rw [a1, a2]
      rw [e2]
      have hb := bx_lt (q := x / 4) (w := rw_ (ct_c c) x) (by omega) r4
      have back := nb_back (x / 4) (by omega) (rw_ (ct_c c) x) r4 cx.2
      by_cases h12 : rw_ (ct_c c) x = 1 ∨ rw_ (ct_c c) x = 2
      · exact J _ _ (Or.inl ⟨x / 4, rw_ (ct_c c) x, by omega, h12, cx.2, rfl, rfl⟩)
      · have o12 : ∀ v, v < 4 → ¬ (v = 1 ∨ v = 2) → bx_opp v = 1 ∨ bx_opp v = 2 := by decide
        have := J (4 * bx_nb (x / 4) (rw_ (ct_c c) x) + bx_opp (rw_ (ct_c c) x)) (4 * (x / 4) + rw_ (ct_c c) x) (Or.inl ⟨bx_nb (x / 4) (rw_ (ct_c c) x), bx_opp (rw_ (ct_c c) x), by have := cx.2; omega, o12 _ r4 h12, by rw [back]; omega, rfl, by rw [back, opp_opp _ r4]⟩)
        exact this.symm
    have along : ∀ i, i ≤ L → sm (jP (ct_c c)) (ps p) (sdI (itr (ct_c c) (pe p) i)) := by
      intro i
      induction i with
      | zero =>
        intro _
        obtain ⟨b1, b2⟩ := pe_dm hp
        show sm _ (ps p) (sdI (pe p))
        unfold sdI
        rw [b1, b2]
        rfl
      | succ i ih =>
        intro hi
        have cx := P.1 i (by omega)
        have hx := lt i (by omega)
        exact (ih (by omega)).trans ((within _ hx cx.1).trans (beside _ hx cx))
    refine ⟨he24, (along L (Nat.le_refl _)).trans ?_⟩
    have : ps e = sdO (ct_c c) (itr (ct_c c) (pe p) L) := by
      show 4 * bx_cell e + bx_opp (bx_dir e) = _
      rw [q1, q2, opp_opp _ rw_lt]
      rfl
    rw [this]
    exact within _ hL h99
/-- no ray leaves where it came in -/
theorem refl_no : ∀ w, w < 4 → bx_opp (bx_refl 46 w) ≠ w ∧ bx_opp (bx_refl 47 w) ≠ w ∧ bx_opp (bx_refl 92 w) ≠ w := by decide +kernel
theorem ray_other {c : CT} {n p : Nat} (w : co_w c n) (hp : p < 24) : (ct_ry c p).1 ≠ some (.inr p) := fun h => by
  have hk := co_cok w
  obtain ⟨L, P, lt, he⟩ := ray_path w hp
  rw [h] at he
  by_cases h99 : ct_c c (itr (ct_c c) (pe p) L / 4) = 99
  · rw [if_pos h99] at he
    cases he
  · rw [if_neg h99] at he
    have el : p = bx_port (itr (ct_c c) (pe p) L / 4) (rw_ (ct_c c) (itr (ct_c c) (pe p) L)) := Sum.inr.inj (Option.some.inj he)
    have hL := lt L (Nat.le_refl _)
    have hn : bx_nb (itr (ct_c c) (pe p) L / 4) (rw_ (ct_c c) (itr (ct_c c) (pe p) L)) = 35 := Classical.byContradiction (fun hn => P.2 ⟨h99, hn⟩)
    obtain ⟨q1, q2⟩ := port_in _ (show itr (ct_c c) (pe p) L / 4 < 35 by omega) _ rw_lt hn
    rw [← el] at q1 q2
    have ebk : pe p = bk (ct_c c) (itr (ct_c c) (pe p) L) := by
      have : pe p = 4 * bx_cell p + bx_dir p := rfl
      rw [q1, q2] at this
      exact this
    have clear : ∀ i, i ≤ L → ct_c c (itr (ct_c c) (pe p) i / 4) ≠ 99 := fun i hi => by
      by_cases e : i = L
      · rw [e]; exact h99
      · exact (P.1 i (by omega)).1
    have steps : ∀ j, j ≤ L → itr (ct_c c) (pe p) j = bk (ct_c c) (itr (ct_c c) (pe p) (L - j)) := by
      intro j
      induction j with
      | zero => intro _; exact ebk
      | succ j ih =>
        intro hj
        have i1 := ih (by omega)
        have en : itr (ct_c c) (pe p) (L - j) = nx (ct_c c) (itr (ct_c c) (pe p) (L - (j + 1))) := by
          rw [show L - j = (L - (j + 1)) + 1 by omega]
          rfl
        have cx := P.1 (L - (j + 1)) (by omega)
        obtain ⟨k1, k2⟩ := bk_nx hk (lt (L - (j + 1)) (by omega)) cx (by rw [← en]; exact clear (L - j) (by omega))
        rw [← en] at k1 k2
        show nx (ct_c c) (itr (ct_c c) (pe p) j) = _
        rw [i1]
        exact k2
    rcases Nat.mod_two_eq_zero_or_one L with hm | hm
    · have s := steps (L / 2) (by omega)
      rw [show L - L / 2 = L / 2 by omega] at s
      obtain ⟨d1, d2⟩ := bk_dm (co := ct_c c) (x := itr (ct_c c) (pe p) (L / 2))
      rw [← s] at d2
      have hx := lt (L / 2) (by omega)
      obtain ⟨a1, a2, a3⟩ := refl_no (itr (ct_c c) (pe p) (L / 2) % 4) (by omega)
      unfold rw_ at d2
      rcases hk (itr (ct_c c) (pe p) (L / 2) / 4) (by omega) with e | e | e | e
      · rw [e] at d2; exact a1 d2.symm
      · rw [e] at d2; exact a2 d2.symm
      · rw [e] at d2; exact a3 d2.symm
      · exact clear (L / 2) (by omega) e
    · have s := steps (L / 2) (by omega)
      rw [show L - L / 2 = L / 2 + 1 by omega] at s
      obtain ⟨d1, d2⟩ := bk_dm (co := ct_c c) (x := itr (ct_c c) (pe p) (L / 2 + 1))
      rw [← s] at d1
      have hx := lt (L / 2) (by omega)
      obtain ⟨a1, a2⟩ := nx_dm (co := ct_c c) (x := itr (ct_c c) (pe p) (L / 2))
      have d1 : itr (ct_c c) (pe p) (L / 2) / 4 = nx (ct_c c) (itr (ct_c c) (pe p) (L / 2)) / 4 := d1
      rw [a1] at d1
      exact nb_ne (itr (ct_c c) (pe p) (L / 2) / 4) (by omega) _ rw_lt d1.symm
theorem agR_of {c : CT} {n : Nat} (w : co_w c n) (h7 : n ≤ 7) : ag_R c := fun p hp => by
  have hk := co_cok w
  have re := R_end_of w
  have U := jP_UF (co := ct_c c)
  obtain ⟨L, P, lt, he⟩ := ray_path w hp
  have R0 : Rs (ct_c c) p L (ps p) := by
    obtain ⟨b1, b2⟩ := pe_dm hp
    refine ⟨0, by omega, Or.inl ?_⟩
    show ps p = sdI (pe p)
    unfold sdI
    rw [b1, b2]
    rfl
  have only : ∀ o, o < 24 → o ≠ p → rt (jP (ct_c c)) 140 (ps o) = rt (jP (ct_c c)) 140 (ps p) → (ct_ry c p).1 = some (.inr o) := fun o ho hne hr => by
    refine Rs_port w hp ho hne P lt he ?_
    have u := U.1.2 (Rs (ct_c c) p L) (Rs_ok hk hp P lt)
    have h1 := (u (ps p) (ps_lt hp)).mp R0
    rw [← hr] at h1
    exact (u (ps o) (ps_lt ho)).mpr h1
  cases hc : (ct_ry c p).1 with
  | none => exact absurd hc (re p hp)
  | some z =>
    cases z with
    | inl q =>
      have none24 : jo (ct_c c) p = 24 := mm_find_no (fun o ho => by
        by_cases hne : o = p
        · rw [decide_eq_false (fun t => t hne)]
          rfl
        · have : ¬ rt (jP (ct_c c)) 140 (ps o) = rt (jP (ct_c c)) 140 (ps p) := fun hr => by
            have := only o ho hne hr
            rw [hc] at this
            cases this
          rw [decide_eq_false this, Bool.and_false])
      rw [none24]
      exact ⟨rfl, fun h => absurd rfl h⟩
    | inr e =>
      obtain ⟨he24, hsm⟩ := Rs_same w hp hc
      obtain ⟨_, hback⟩ := ray_back w hp hc
      have hne : e ≠ p := fun t => by
        rw [t] at hc
        exact ray_other w hp hc
      have f : jo (ct_c c) p = e := mm_find_at he24 (by rw [decide_eq_true hne, decide_eq_true (show rt (jP (ct_c c)) 140 (ps e) = rt (jP (ct_c c)) 140 (ps p) from hsm.symm)]; rfl) (fun o ho => by
        by_cases hop : o = p
        · rw [decide_eq_false (fun t => t hop)]
          rfl
        · have : ¬ rt (jP (ct_c c)) 140 (ps o) = rt (jP (ct_c c)) 140 (ps p) := fun hr => by
            have h1 := only o (by omega) hop hr
            rw [hc] at h1
            have := Sum.inr.inj (Option.some.inj h1)
            omega
          rw [decide_eq_false this, Bool.and_false])
      rw [f, ii_o, if_pos he24]
      exact ⟨rfl, fun _ => ⟨e, he24, rfl, by rw [hback]; rfl⟩⟩
