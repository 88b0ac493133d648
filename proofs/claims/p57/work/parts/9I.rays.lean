/-! RAYS: they end; they come back; joining finds the same ends -/
/-- the content lets light through in one of the three ways -/
def cok (co : Nat → Int32) : Prop := ∀ q, q < 35 → co q = 46 ∨ co q = 47 ∨ co q = 92 ∨ co q = 99
theorem co_cok {c : CT} {n : Nat} (w : co_w c n) : cok (ct_c c) := fun q hq => (w q hq).1
/-- where light goes on to -/
def rw_ (co : Nat → Int32) (x : Nat) : Nat := bx_refl (co (x / 4)) (x % 4)
def nx (co : Nat → Int32) (x : Nat) : Nat := 4 * bx_nb (x / 4) (rw_ co x) + rw_ co x
def cont (co : Nat → Int32) (x : Nat) : Prop := co (x / 4) ≠ 99 ∧ bx_nb (x / 4) (rw_ co x) ≠ 35
theorem rw_lt {co : Nat → Int32} {x : Nat} : rw_ co x < 4 := bx_refl_lt (by omega)
theorem refl2 : ∀ w, w < 4 → bx_refl 46 (bx_refl 46 w) = w ∧ bx_refl 47 (bx_refl 47 w) = w ∧ bx_refl 92 (bx_refl 92 w) = w := by decide +kernel
theorem refl_inv {k : Int32} {w : Nat} (hk : k = 46 ∨ k = 47 ∨ k = 92 ∨ k = 99) (h : k ≠ 99) (hw : w < 4) : bx_refl k (bx_refl k w) = w := by
  obtain ⟨a, b, c⟩ := refl2 w hw
  rcases hk with rfl | rfl | rfl | rfl
  · exact a
  · exact b
  · exact c
  · exact absurd rfl h
/-- turned round: light that comes back over the same content -/
theorem refl_opp1 : ∀ w, w < 4 → bx_refl 46 (bx_opp (bx_refl 46 w)) = bx_opp w ∧ bx_refl 47 (bx_opp (bx_refl 47 w)) = bx_opp w ∧ bx_refl 92 (bx_opp (bx_refl 92 w)) = bx_opp w := by decide +kernel
theorem refl_opp {k : Int32} {w : Nat} (hk : k = 46 ∨ k = 47 ∨ k = 92 ∨ k = 99) (h : k ≠ 99) (hw : w < 4) : bx_refl k (bx_opp (bx_refl k w)) = bx_opp w := by
  obtain ⟨a, b, c⟩ := refl_opp1 w hw
  rcases hk with rfl | rfl | rfl | rfl
  · exact a
  · exact b
  · exact c
  · exact absurd rfl h
theorem nx_lt {co : Nat → Int32} {x : Nat} (hx : x < 140) (h : cont co x) : nx co x < 140 := by
  have h1 := bx_lt (q := x / 4) (w := rw_ co x) (by omega) rw_lt
  have h2 := rw_lt (co := co) (x := x)
  have h3 := h.2
  unfold nx
  omega
theorem nx_dm {co : Nat → Int32} {x : Nat} : nx co x / 4 = bx_nb (x / 4) (rw_ co x) ∧ nx co x % 4 = rw_ co x := by
  have h2 := rw_lt (co := co) (x := x)
  unfold nx
  omega
theorem nx_inj {co : Nat → Int32} {x y : Nat} (hc : cok co) (hx : x < 140) (hy : y < 140) (cx : cont co x) (cy : cont co y) (e : nx co x = nx co y) : x = y := by
  obtain ⟨a1, a2⟩ := nx_dm (co := co) (x := x)
  obtain ⟨b1, b2⟩ := nx_dm (co := co) (x := y)
  have ew : rw_ co x = rw_ co y := by rw [← a2, ← b2, e]
  have eq1 := nb_back (x / 4) (by omega) (rw_ co x) rw_lt cx.2
  have eq2 := nb_back (y / 4) (by omega) (rw_ co y) rw_lt cy.2
  rw [← a1] at eq1
  rw [← b1, ← e, ← ew] at eq2
  have eq : x / 4 = y / 4 := by rw [← eq1, ← eq2]
  have m1 := refl_inv (hc (x / 4) (by omega)) cx.1 (show x % 4 < 4 by omega)
  have m2 := refl_inv (hc (y / 4) (by omega)) cy.1 (show y % 4 < 4 by omega)
  have e3 : bx_refl (co (x / 4)) (x % 4) = bx_refl (co (y / 4)) (y % 4) := ew
  have e4 : x % 4 = y % 4 := by rw [← m1, ← m2, e3, eq]
  omega
def itr (co : Nat → Int32) (x : Nat) : Nat → Nat
  | 0 => x
  | i + 1 => nx co (itr co x i)
theorem itr_s {co : Nat → Int32} {x : Nat} : ∀ i, itr co (nx co x) i = itr co x (i + 1)
  | 0 => rfl
  | i + 1 => by
    show nx co (itr co (nx co x) i) = nx co (itr co x (i + 1))
    rw [itr_s i]
theorem ry_cont {co : Nat → Int32} : ∀ (m x len b : Nat), x < 140 → (ry co m (x / 4) (x % 4) len b).1 = none → ∀ i, i < m → cont co (itr co x i)
  | 0, x, len, b, _, _, i, hi => absurd hi (by omega)
  | m + 1, x, len, b, hx, h, i, hi => by
    unfold ry at h
    by_cases h99 : co (x / 4) = 99
    · rw [if_pos h99] at h
      cases h
    · rw [if_neg h99] at h
      by_cases hn : bx_nb (x / 4) (bx_refl (co (x / 4)) (x % 4)) = 35
      · rw [if_pos hn] at h
        cases h
      · rw [if_neg hn] at h
        have cx : cont co x := ⟨h99, hn⟩
        cases i with
        | zero => exact cx
        | succ i =>
          rw [← itr_s]
          obtain ⟨a1, a2⟩ := nx_dm (co := co) (x := x)
          refine ry_cont m (nx co x) (len + 1) (if co (x / 4) = 46 then b else b + 1) (nx_lt hx cx) ?_ i (by omega)
          rw [a1, a2]
          exact h
theorem itr_lt {co : Nat → Int32} {x : Nat} (hx : x < 140) : ∀ i, (∀ j, j < i → cont co (itr co x j)) → itr co x i < 140
  | 0, _ => hx
  | i + 1, h => nx_lt (itr_lt hx i (fun j hj => h j (by omega))) (h i (by omega))
theorem port_out : ∀ p, p < 24 → bx_nb (bx_cell p) (bx_opp (bx_dir p)) = 35 := by decide +kernel
theorem pe_dm {p : Nat} (hp : p < 24) : pe p / 4 = bx_cell p ∧ pe p % 4 = bx_dir p := by
  obtain ⟨h1, h2⟩ := bx_facts p hp
  unfold pe
  omega
/-- no entry of a port lies behind another one -/
theorem pe_first {co : Nat → Int32} {p z : Nat} (hp : p < 24) (hz : z < 140) (cz : cont co z) : nx co z ≠ pe p := fun e => by
  obtain ⟨a1, a2⟩ := nx_dm (co := co) (x := z)
  obtain ⟨b1, b2⟩ := pe_dm hp
  have eq1 := nb_back (z / 4) (by omega) (rw_ co z) rw_lt cz.2
  rw [← a1, ← a2, e, b1, b2, port_out p hp] at eq1
  omega
theorem R_end_of {c : CT} {n : Nat} (w : co_w c n) : R_end c := fun p hp h => by
  have hc := co_cok w
  have hpe := pe_lt hp
  obtain ⟨b1, b2⟩ := pe_dm hp
  have cc : ∀ i, i < 140 → cont (ct_c c) (itr (ct_c c) (pe p) i) := ry_cont 140 (pe p) 0 0 hpe (by rw [b1, b2]; exact h)
  have lt : ∀ i, i ≤ 140 → itr (ct_c c) (pe p) i < 140 := fun i hi => itr_lt hpe i (fun j hj => cc j (by omega))
  have ne : ∀ i k, i + (k + 1) ≤ 140 → itr (ct_c c) (pe p) i ≠ itr (ct_c c) (pe p) (i + (k + 1)) := by
    intro i
    induction i with
    | zero =>
      intro k hk e
      rw [Nat.zero_add] at e hk
      exact pe_first hp (lt k (by omega)) (cc k (by omega)) e.symm
    | succ i ih =>
      intro k hk e
      rw [show i + 1 + (k + 1) = (i + (k + 1)) + 1 by omega] at e
      exact ih k (by omega) (nx_inj hc (lt i (by omega)) (lt _ (by omega)) (cc i (by omega)) (cc _ (by omega)) e)
  have := pigeon 140 141 (itr (ct_c c) (pe p)) (fun k hk => lt k (by omega)) (fun j hj k hk e => by
    rcases Nat.lt_trichotomy j k with h | h | h
    · exact absurd (by rw [show j + (k - j - 1 + 1) = k by omega]; exact e) (ne j (k - j - 1) (by omega))
    · exact h
    · exact absurd (by rw [show k + (j - k - 1 + 1) = j by omega]; exact e.symm) (ne k (j - k - 1) (by omega)))
  omega
/-! the sides that a ray touches -/
def sdI (x : Nat) : Nat := 4 * (x / 4) + bx_opp (x % 4)
def sdO (co : Nat → Int32) (x : Nat) : Nat := 4 * (x / 4) + rw_ co x
/-- the entries of a ray of L steps, and how it ends -/
def path (co : Nat → Int32) (p L : Nat) : Prop := (∀ i, i < L → cont co (itr co (pe p) i)) ∧ ¬ cont co (itr co (pe p) L)
theorem ry_end {co : Nat → Int32} : ∀ (m x len b : Nat), x < 140 → (ry co m (x / 4) (x % 4) len b).1 ≠ none → ∃ L, L < m ∧ (∀ i, i < L → cont co (itr co x i)) ∧ ¬ cont co (itr co x L) ∧ (ry co m (x / 4) (x % 4) len b).1 = (if co (itr co x L / 4) = 99 then some (.inl (itr co x L / 4)) else some (.inr (bx_port (itr co x L / 4) (rw_ co (itr co x L)))))
  | 0, x, len, b, _, h => absurd rfl h
  | m + 1, x, len, b, hx, h => by
    unfold ry at h ⊢
    by_cases h99 : co (x / 4) = 99
    · rw [if_pos h99]
      exact ⟨0, by omega, fun i hi => absurd hi (by omega), fun c => c.1 h99, by rw [show itr co x 0 = x from rfl, if_pos h99]⟩
    · rw [if_neg h99] at h ⊢
      by_cases hn : bx_nb (x / 4) (bx_refl (co (x / 4)) (x % 4)) = 35
      · rw [if_pos hn]
        exact ⟨0, by omega, fun i hi => absurd hi (by omega), fun c => c.2 hn, by rw [show itr co x 0 = x from rfl, if_neg h99]; rfl⟩
      · rw [if_neg hn] at h ⊢
        have cx : cont co x := ⟨h99, hn⟩
        obtain ⟨a1, a2⟩ := nx_dm (co := co) (x := x)
        have e1 : bx_nb (x / 4) (bx_refl (co (x / 4)) (x % 4)) = nx co x / 4 := a1.symm
        have e2 : bx_refl (co (x / 4)) (x % 4) = nx co x % 4 := a2.symm
        rw [e1, e2] at h ⊢
        obtain ⟨L, l1, l2, l3, l4⟩ := ry_end m (nx co x) _ _ (nx_lt hx cx) h
        refine ⟨L + 1, by omega, fun i hi => ?_, by rw [← itr_s]; exact l3, by rw [← itr_s]; exact l4⟩
        cases i with
        | zero => exact cx
        | succ i =>
          rw [← itr_s]
          exact l2 i (by omega)
/-- a ray, told by its path -/
theorem ray_path {c : CT} {n p : Nat} (w : co_w c n) (hp : p < 24) : ∃ L, path (ct_c c) p L ∧ (∀ i, i ≤ L → itr (ct_c c) (pe p) i < 140) ∧ (ct_ry c p).1 = (if ct_c c (itr (ct_c c) (pe p) L / 4) = 99 then some (.inl (itr (ct_c c) (pe p) L / 4)) else some (.inr (bx_port (itr (ct_c c) (pe p) L / 4) (rw_ (ct_c c) (itr (ct_c c) (pe p) L))))) := by
  obtain ⟨b1, b2⟩ := pe_dm hp
  have hpe := pe_lt hp
  have h := R_end_of w p hp
  unfold ct_ry at h ⊢
  rw [← b1, ← b2] at h ⊢
  obtain ⟨L, l1, l2, l3, l4⟩ := ry_end 140 (pe p) 0 0 hpe h
  exact ⟨L, ⟨l2, l3⟩, fun i hi => itr_lt hpe i (fun j hj => l2 j (by omega)), l4⟩
/-! the way back -/
/-- the entry, turned round -/
def bk (co : Nat → Int32) (x : Nat) : Nat := 4 * (x / 4) + bx_opp (rw_ co x)
theorem bk_dm {co : Nat → Int32} {x : Nat} : bk co x / 4 = x / 4 ∧ bk co x % 4 = bx_opp (rw_ co x) := by
  have := bx_opp_lt (rw_lt (co := co) (x := x))
  unfold bk
  omega
theorem bk_rw {co : Nat → Int32} {x : Nat} (hc : cok co) (hx : x < 140) (h : co (x / 4) ≠ 99) : rw_ co (bk co x) = bx_opp (x % 4) := by
  obtain ⟨a1, a2⟩ := bk_dm (co := co) (x := x)
  unfold rw_ at a2 ⊢
  rw [a1, a2]
  exact refl_opp (hc (x / 4) (by omega)) h (by omega)
/-- one step back -/
theorem bk_nx {co : Nat → Int32} {x : Nat} (hc : cok co) (hx : x < 140) (cx : cont co x) (h99 : co (nx co x / 4) ≠ 99) : cont co (bk co (nx co x)) ∧ nx co (bk co (nx co x)) = bk co x := by
  obtain ⟨a1, a2⟩ := nx_dm (co := co) (x := x)
  obtain ⟨b1, b2⟩ := bk_dm (co := co) (x := nx co x)
  have hn := nx_lt hx cx
  have r := bk_rw hc hn h99
  have back := nb_back (x / 4) (by omega) (rw_ co x) rw_lt cx.2
  have e : bx_nb (bk co (nx co x) / 4) (rw_ co (bk co (nx co x))) = x / 4 := by rw [b1, r, a2, a1]; exact back
  refine ⟨⟨by rw [b1]; exact h99, by rw [e]; omega⟩, ?_⟩
  show 4 * bx_nb (bk co (nx co x) / 4) (rw_ co (bk co (nx co x))) + rw_ co (bk co (nx co x)) = bk co x
  rw [e, r, a2]
  rfl
theorem port_in : ∀ q, q < 35 → ∀ w, w < 4 → bx_nb q w = 35 → bx_cell (bx_port q w) = q ∧ bx_dir (bx_port q w) = bx_opp w := by decide +kernel
/-- a ray that leaves the box comes back -/
theorem ray_back {c : CT} {n p e : Nat} (w : co_w c n) (hp : p < 24) (h : (ct_ry c p).1 = some (.inr e)) : e < 24 ∧ (ct_ry c e).1 = some (.inr p) := by
  have hc := co_cok w
  obtain ⟨L, ⟨l1, l2⟩, l3, l4⟩ := ray_path w hp
  rw [h] at l4
  have hL := l3 L (Nat.le_refl _)
  by_cases h99 : ct_c c (itr (ct_c c) (pe p) L / 4) = 99
  · rw [if_pos h99] at l4
    cases l4
  · rw [if_neg h99] at l4
    have el : e = bx_port (itr (ct_c c) (pe p) L / 4) (rw_ (ct_c c) (itr (ct_c c) (pe p) L)) := Sum.inr.inj (Option.some.inj l4)
    have hn : bx_nb (itr (ct_c c) (pe p) L / 4) (rw_ (ct_c c) (itr (ct_c c) (pe p) L)) = 35 := by
      refine Classical.byContradiction (fun hn => l2 ⟨h99, hn⟩)
    have he : e < 24 := by rw [el]; exact bx_port_lt _ (by omega) _ rw_lt
    obtain ⟨q1, q2⟩ := port_in _ (show itr (ct_c c) (pe p) L / 4 < 35 by omega) _ rw_lt hn
    rw [← el] at q1 q2
    have ebk : pe e = bk (ct_c c) (itr (ct_c c) (pe p) L) := by
      show 4 * bx_cell e + bx_dir e = _
      rw [q1, q2]
      rfl
    -- all cells on the way are clear
    have clear : ∀ i, i ≤ L → ct_c c (itr (ct_c c) (pe p) i / 4) ≠ 99 := fun i hi => by
      by_cases e : i = L
      · rw [e]; exact h99
      · exact (l1 i (by omega)).1
    have steps : ∀ j, j ≤ L → itr (ct_c c) (pe e) j = bk (ct_c c) (itr (ct_c c) (pe p) (L - j)) ∧ ∀ i, i < j → cont (ct_c c) (itr (ct_c c) (pe e) i) := by
      intro j
      induction j with
      | zero => intro _; exact ⟨ebk, fun i hi => absurd hi (by omega)⟩
      | succ j ih =>
        intro hj
        obtain ⟨i1, i2⟩ := ih (by omega)
        have en : itr (ct_c c) (pe p) (L - j) = nx (ct_c c) (itr (ct_c c) (pe p) (L - (j + 1))) := by
          rw [show L - j = (L - (j + 1)) + 1 by omega]
          rfl
        have cx := l1 (L - (j + 1)) (by omega)
        obtain ⟨k1, k2⟩ := bk_nx hc (l3 (L - (j + 1)) (by omega)) cx (by rw [← en]; exact clear (L - j) (by omega))
        rw [← en] at k1 k2
        refine ⟨?_, fun i hi => ?_⟩
        · show nx (ct_c c) (itr (ct_c c) (pe e) j) = _
          rw [i1]
          exact k2
        · by_cases e : i = j
          · rw [e, i1]; exact k1
          · exact i2 i (by omega)
    obtain ⟨s1, s2⟩ := steps L (Nat.le_refl _)
    rw [Nat.sub_self] at s1
    have s1 : itr (ct_c c) (pe e) L = bk (ct_c c) (pe p) := s1
    obtain ⟨d1, d2⟩ := bk_dm (co := ct_c c) (x := pe p)
    obtain ⟨b1, b2⟩ := pe_dm hp
    have hpe := pe_lt hp
    have c0 : ct_c c (pe p / 4) ≠ 99 := clear 0 (by omega)
    have r0 := bk_rw hc hpe c0
    rw [b2] at r0
    have out : bx_nb (bk (ct_c c) (pe p) / 4) (rw_ (ct_c c) (bk (ct_c c) (pe p))) = 35 := by rw [d1, b1, r0]; exact port_out p hp
    -- the ray of e has this path
    obtain ⟨L', ⟨m1, m2⟩, m3, m4⟩ := ray_path w he
    have hLL : L' = L := by
      rcases Nat.lt_trichotomy L' L with h | h | h
      · exact absurd (s2 L' h) m2
      · exact h
      · exact absurd (m1 L h) (by rw [s1]; exact fun c => c.2 out)
    rw [hLL, s1, d1, r0, if_neg c0, b1] at m4
    have pp : ∀ p, p < 24 → bx_port (bx_cell p) (bx_opp (bx_dir p)) = p := by decide +kernel
    rw [pp p hp] at m4
    exact ⟨he, m4⟩
