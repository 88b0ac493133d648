/-! RAYS BACK: as long, with as many bounces; an effort is 0 just where the ray itself ends -/
theorem sumN_front (f : Nat → Nat) : ∀ n, sumN f (n + 1) = f 0 + sumN (fun i => f (i + 1)) n
  | 0 => by show 0 + f 0 = f 0 + 0; omega
  | n + 1 => by
    have h := sumN_front f n
    show sumN f (n + 1) + f (n + 1) = f 0 + (sumN (fun i => f (i + 1)) n + f (n + 1))
    omega
theorem sumN_eq {f f' : Nat → Nat} : ∀ n, (∀ k, k < n → f k = f' k) → sumN f n = sumN f' n
  | 0, _ => rfl
  | n + 1, h => by
    show sumN f n + f n = sumN f' n + f' n
    rw [sumN_eq n (fun k hk => h k (by omega)), h n (by omega)]
theorem sumN_rev (f : Nat → Nat) : ∀ n, sumN (fun i => f (n - i)) (n + 1) = sumN f (n + 1)
  | 0 => rfl
  | n + 1 => by
    rw [sumN_front (fun i => f (n + 1 - i)) (n + 1)]
    have e : sumN (fun i => f (n + 1 - (i + 1))) (n + 1) = sumN (fun i => f (n - i)) (n + 1) := sumN_eq _ (fun k _ => by rw [show n + 1 - (k + 1) = n - k by omega])
    rw [e, sumN_rev f n]
    show f (n + 1 - 0) + sumN f (n + 1) = sumN f (n + 1) + f (n + 1)
    rw [show n + 1 - 0 = n + 1 by omega]
    omega
/-- a bounce in the cell of an entry -/
def bz (co : Nat → Int32) (x : Nat) : Nat := if co (x / 4) = 99 then 0 else if co (x / 4) = 46 then 0 else 1
theorem ry_ln {co : Nat → Int32} : ∀ (m x len b L : Nat), x < 140 → L < m → (∀ i, i < L → cont co (itr co x i)) → ¬ cont co (itr co x L) → (ry co m (x / 4) (x % 4) len b).2 = (len + L + 1, b + sumN (fun i => bz co (itr co x i)) (L + 1))
  | 0, x, len, b, L, _, hL, _, _ => absurd hL (by omega)
  | m + 1, x, len, b, L, hx, hL, h1, h2 => by
    unfold ry
    by_cases h99 : co (x / 4) = 99
    · have e : L = 0 := Classical.byContradiction (fun hz => (h1 0 (by omega)).1 h99)
      subst e
      have e0 : bz co (itr co x 0) = 0 := by
        show bz co x = 0
        unfold bz
        rw [if_pos h99]
      rw [if_pos h99]
      show (len + 1, b) = (len + 0 + 1, b + (0 + bz co (itr co x 0)))
      rw [e0]
      rfl
    · rw [if_neg h99]
      have e0 : b + bz co x = (if co (x / 4) = 46 then b else b + 1) := by
        unfold bz
        rw [if_neg h99]
        split <;> omega
      by_cases hn : bx_nb (x / 4) (bx_refl (co (x / 4)) (x % 4)) = 35
      · have e : L = 0 := Classical.byContradiction (fun hz => (h1 0 (by omega)).2 hn)
        subst e
        rw [if_pos hn]
        show (len + 1, _) = (len + 0 + 1, b + (0 + bz co x))
        rw [Nat.zero_add, e0]
      · rw [if_neg hn]
        have cx : cont co x := ⟨h99, hn⟩
        obtain ⟨L, rfl⟩ : ∃ k, L = k + 1 := by
          cases L with
          | zero => exact absurd cx h2
          | succ k => exact ⟨k, rfl⟩
        obtain ⟨a1, a2⟩ := nx_dm (co := co) (x := x)
        have e1 : bx_nb (x / 4) (bx_refl (co (x / 4)) (x % 4)) = nx co x / 4 := a1.symm
        have e2 : bx_refl (co (x / 4)) (x % 4) = nx co x % 4 := a2.symm
        have key := ry_ln m (nx co x) (len + 1) (if co (x / 4) = 46 then b else b + 1) L (nx_lt hx cx) (by omega) (fun i hi => by rw [itr_s]; exact h1 (i + 1) (by omega)) (by rw [itr_s]; exact h2)
        rw [e1, e2, key, sumN_front (fun i => bz co (itr co x i)) (L + 1), ← e0]
        have e3 : sumN (fun i => bz co (itr co (nx co x) i)) (L + 1) = sumN (fun i => bz co (itr co x (i + 1))) (L + 1) := sumN_eq _ (fun k _ => by rw [itr_s])
        rw [e3]
        exact Prod.ext (by show len + 1 + L + 1 = len + (L + 1) + 1; omega) (by show b + bz co x + _ = b + (bz co x + _); omega)
theorem bk_bz {co : Nat → Int32} {x : Nat} : bz co (bk co x) = bz co x := by
  obtain ⟨a1, _⟩ := bk_dm (co := co) (x := x)
  unfold bz
  rw [a1]
/-- a ray, told by its path, with its length -/
theorem ray_path2 {c : CT} {n p : Nat} (w : co_w c n) (hp : p < 24) : ∃ L, L < 140 ∧ path (ct_c c) p L ∧ (∀ i, i ≤ L → itr (ct_c c) (pe p) i < 140) ∧ (ct_ry c p).1 = (if ct_c c (itr (ct_c c) (pe p) L / 4) = 99 then some (.inl (itr (ct_c c) (pe p) L / 4)) else some (.inr (bx_port (itr (ct_c c) (pe p) L / 4) (rw_ (ct_c c) (itr (ct_c c) (pe p) L))))) ∧ (ct_ry c p).2 = (L + 1, sumN (fun i => bz (ct_c c) (itr (ct_c c) (pe p) i)) (L + 1)) := by
  obtain ⟨b1, b2⟩ := pe_dm hp
  have hpe := pe_lt hp
  have h := R_end_of w p hp
  unfold ct_ry at h ⊢
  rw [← b1, ← b2] at h ⊢
  obtain ⟨L, l1, l2, l3, l4⟩ := ry_end 140 (pe p) 0 0 hpe h
  have l5 := ry_ln 140 (pe p) 0 0 L hpe l1 l2 l3
  refine ⟨L, l1, ⟨l2, l3⟩, fun i hi => itr_lt hpe i (fun j hj => l2 j (by omega)), l4, ?_⟩
  rw [l5, Nat.zero_add, Nat.zero_add]
theorem path_one {co : Nat → Int32} {p L L' : Nat} (a : path co p L) (b : path co p L') : L = L' := by
  rcases Nat.lt_trichotomy L L' with h | h | h
  · exact absurd (b.1 L h) a.2
  · exact h
  · exact absurd (a.1 L' h) b.2
/-- a ray that leaves the box comes back, as long, with as many bounces -/
theorem ray_back2 {c : CT} {n p e : Nat} (w : co_w c n) (hp : p < 24) (h : (ct_ry c p).1 = some (.inr e)) : e < 24 ∧ (ct_ry c e).1 = some (.inr p) ∧ (ct_ry c e).2 = (ct_ry c p).2 := by
  have hc := co_cok w
  obtain ⟨he, hb⟩ := ray_back w hp h
  refine ⟨he, hb, ?_⟩
  obtain ⟨L, l0, ⟨l1, l2⟩, l3, l4, l5⟩ := ray_path2 w hp
  rw [h] at l4
  have hL := l3 L (Nat.le_refl _)
  by_cases h99 : ct_c c (itr (ct_c c) (pe p) L / 4) = 99
  · rw [if_pos h99] at l4
    cases l4
  · rw [if_neg h99] at l4
    have el : e = bx_port (itr (ct_c c) (pe p) L / 4) (rw_ (ct_c c) (itr (ct_c c) (pe p) L)) := Sum.inr.inj (Option.some.inj l4)
    have hn : bx_nb (itr (ct_c c) (pe p) L / 4) (rw_ (ct_c c) (itr (ct_c c) (pe p) L)) = 35 := by
      refine Classical.byContradiction (fun hn => l2 ⟨h99, hn⟩)
    obtain ⟨q1, q2⟩ := port_in _ (show itr (ct_c c) (pe p) L / 4 < 35 by omega) _ rw_lt hn
    rw [← el] at q1 q2
    have ebk : pe e = bk (ct_c c) (itr (ct_c c) (pe p) L) := by
      show 4 * bx_cell e + bx_dir e = _
      rw [q1, q2]
      rfl
    have clear : ∀ i, i ≤ L → ct_c c (itr (ct_c c) (pe p) i / 4) ≠ 99 := fun i hi => by
      by_cases e : i = L
      · rw [e]; exact h99
      · exact (l1 i (by omega)).1
    have steps : ∀ j, j ≤ L → itr (ct_c c) (pe e) j = bk (ct_c c) (itr (ct_c c) (pe p) (L - j)) ∧ ∀ i, i < j → cont (ct_c c) (itr (ct_c c) (pe e) i) := by
      intro j
      induction j with
      | zero => intro _; exact ⟨ebk, fun i hi => absurd hi (by omega)⟩
      | succ j ih =>
        intro hj
        obtain ⟨i1, i2⟩ := ih (by omega)
        have en : itr (ct_c c) (pe p) (L - j) = nx (ct_c c) (itr (ct_c c) (pe p) (L - (j + 1))) := by
          rw [show L - j = (L - (j + 1)) + 1 by omega]
          rfl
        have cx := l1 (L - (j + 1)) (by omega)
        obtain ⟨k1, k2⟩ := bk_nx hc (l3 (L - (j + 1)) (by omega)) cx (by rw [← en]; exact clear (L - j) (by omega))
        rw [← en] at k1 k2
        refine ⟨?_, fun i hi => ?_⟩
        · show nx (ct_c c) (itr (ct_c c) (pe e) j) = _
          rw [i1]
          exact k2
        · by_cases e : i = j
          · rw [e, i1]; exact k1
          · exact i2 i (by omega)
    obtain ⟨s1, s2⟩ := steps L (Nat.le_refl _)
    rw [Nat.sub_self] at s1
    have s1 : itr (ct_c c) (pe e) L = bk (ct_c c) (pe p) := s1
    obtain ⟨d1, d2⟩ := bk_dm (co := ct_c c) (x := pe p)
    obtain ⟨b1, b2⟩ := pe_dm hp
    have hpe := pe_lt hp
    have c0 : ct_c c (pe p / 4) ≠ 99 := clear 0 (by omega)
    have r0 := bk_rw hc hpe c0
    rw [b2] at r0
    have out : bx_nb (bk (ct_c c) (pe p) / 4) (rw_ (ct_c c) (bk (ct_c c) (pe p))) = 35 := by rw [d1, b1, r0]; exact port_out p hp
    obtain ⟨L', m0, m1, m3, m4, m5⟩ := ray_path2 w he
    have hLL : L' = L := path_one m1 ⟨s2, by rw [s1]; exact fun c => c.2 out⟩
    subst hLL
    rw [m5, l5]
    have e1 : sumN (fun i => bz (ct_c c) (itr (ct_c c) (pe e) i)) (L' + 1) = sumN (fun i => bz (ct_c c) (itr (ct_c c) (pe p) (L' - i))) (L' + 1) := sumN_eq _ (fun k hk => by rw [(steps k (by omega)).1, bk_bz])
    rw [e1, sumN_rev (fun i => bz (ct_c c) (itr (ct_c c) (pe p) i)) L']
/-! efforts -/
theorem ef0 {E : Nat → Nat} {q : Nat} : ef E q = 0 ↔ ∃ w, w < 4 ∧ E (4 * q + w) = 0 := by
  unfold ef
  simp only [ei]
  constructor
  · intro h
    repeat' split at h
    all_goals first
      | exact ⟨3, by omega, by omega⟩
      | exact ⟨2, by omega, by omega⟩
      | exact ⟨1, by omega, by omega⟩
      | exact ⟨0, by omega, by omega⟩
      | omega
  · rintro ⟨w, hw, e⟩
    have : w = 0 ∨ w = 1 ∨ w = 2 ∨ w = 3 := by omega
    rcases this with rfl | rfl | rfl | rfl
    all_goals
      simp only [Nat.zero_add, Nat.add_zero, Nat.reduceAdd] at e ⊢
      repeat' split
      all_goals omega
theorem refl_ne : ∀ w, w < 4 → bx_refl 46 w ≠ bx_opp w ∧ bx_refl 47 w ≠ bx_opp w ∧ bx_refl 92 w ≠ bx_opp w := by decide +kernel
theorem refl_neo {k : Int32} {w : Nat} (hk : k = 46 ∨ k = 47 ∨ k = 92 ∨ k = 99) (h : k ≠ 99) (hw : w < 4) : bx_refl k w ≠ bx_opp w := by
  obtain ⟨a, b, c⟩ := refl_ne w hw
  rcases hk with rfl | rfl | rfl | rfl
  · exact a
  · exact b
  · exact c
  · exact absurd rfl h
/-- 0 on the ray, 1 beside it -/
noncomputable def onR (co : Nat → Int32) (p L z : Nat) : Nat := @ite Nat (∃ i, i ≤ L ∧ itr co (pe p) i = z) (Classical.propDecidable _) 0 1
theorem onR_y {co : Nat → Int32} {p L z : Nat} (h : ∃ i, i ≤ L ∧ itr co (pe p) i = z) : onR co p L z = 0 := if_pos h
theorem onR_n {co : Nat → Int32} {p L z : Nat} (h : ¬ ∃ i, i ≤ L ∧ itr co (pe p) i = z) : onR co p L z = 1 := if_neg h
theorem onR_le {co : Nat → Int32} {p L z : Nat} : onR co p L z ≤ 1 := by
  by_cases h : ∃ i, i ≤ L ∧ itr co (pe p) i = z
  · rw [onR_y h]; omega
  · rw [onR_n h]; exact Nat.le_refl _
/-- efforts of 0 lie on the ray -/
theorem sq_zero {c : CT} {n p L : Nat} (w : co_w c n) (hp : p < 24) (P : path (ct_c c) p L) (lt : ∀ i, i ≤ L → itr (ct_c c) (pe p) i < 140) {y : Nat} (hy : y < 140) : (sq (ct_c c) 512 (E0 p, [pe p])).1 y = 0 ↔ ∃ i, i ≤ L ∧ itr (ct_c c) (pe p) i = y := by
  have hc := co_cok w
  obtain ⟨d1, d2⟩ := sq_ok (co := ct_c c) hp
  constructor
  · intro h
    have hF : CL (ct_c c) p 1000 (onR (ct_c c) p L) := by
      refine ⟨?_, fun x hx => ?_, fun x hx t ht ok => ?_⟩
      · exact onR_y ⟨0, Nat.zero_le _, rfl⟩
      · exact Nat.le_trans onR_le (by omega)
      · by_cases hon : ∃ i, i ≤ L ∧ itr (ct_c c) (pe p) i = x
        · rw [onR_y hon]
          obtain ⟨i, hi, e⟩ := hon
          by_cases htr : t = bx_refl (ct_c c (x / 4)) (x % 4)
          · have cx : cont (ct_c c) x := ⟨ok.1, by show bx_nb (x / 4) (bx_refl (ct_c c (x / 4)) (x % 4)) ≠ 35; rw [← htr]; exact ok.2.2⟩
            have hiL : i < L := by
              rcases Nat.lt_or_ge i L with h9 | h9
              · exact h9
              · have : i = L := by omega
                subst this
                exact absurd (by rw [e]; exact cx) P.2
            have e2 : itr (ct_c c) (pe p) (i + 1) = ny x t := by
              show nx (ct_c c) (itr (ct_c c) (pe p) i) = _
              rw [e]
              show 4 * bx_nb (x / 4) (bx_refl (ct_c c (x / 4)) (x % 4)) + bx_refl (ct_c c (x / 4)) (x % 4) = 4 * bx_nb (x / 4) t + t
              rw [← htr]
            rw [onR_y ⟨i + 1, by omega, e2⟩]
            exact Nat.zero_le _
          · have : wt (ct_c c) x t = 1 := by unfold wt; rw [if_neg htr]
            rw [this]
            have := onR_le (co := ct_c c) (p := p) (L := L) (z := ny x t)
            omega
        · rw [onR_n hon]
          have := onR_le (co := ct_c c) (p := p) (L := L) (z := ny x t)
          omega
    have h2 := d2 _ hF y hy
    rw [h] at h2
    refine Classical.byContradiction (fun hn => ?_)
    rw [onR_n hn] at h2
    omega
  · rintro ⟨i, hi, rfl⟩
    have key : ∀ i, i ≤ L → (sq (ct_c c) 512 (E0 p, [pe p])).1 (itr (ct_c c) (pe p) i) = 0 := by
      intro i
      induction i with
      | zero => intro _; exact d1.1
      | succ i ih =>
        intro hi
        have h0 := ih (by omega)
        have cx := P.1 i (by omega)
        have hx := lt i (by omega)
        have e := d1.2.2 (itr (ct_c c) (pe p) i) hx (rw_ (ct_c c) (itr (ct_c c) (pe p) i)) rw_lt ⟨cx.1, refl_neo (hc _ (by omega)) cx.1 (by omega), cx.2⟩
        have e2 : wt (ct_c c) (itr (ct_c c) (pe p) i) (rw_ (ct_c c) (itr (ct_c c) (pe p) i)) = 0 := by
          exact if_pos rfl
        rw [e2, h0] at e
        have e3 : itr (ct_c c) (pe p) (i + 1) = ny (itr (ct_c c) (pe p) i) (rw_ (ct_c c) (itr (ct_c c) (pe p) i)) := rfl
        rw [e3]
        omega
    exact key i hi
/-- the cat of a cell -/
theorem cat_at {c : CT} {n B k : Nat} (w : cw c n B) (hk : k < n) : ct_cat c n ((ct_ce c).getD k 0) = k := by
  refine mm_find_at hk (by simp) (fun j hj => ?_)
  cases hb : ((ct_ce c).getD j 0 == (ct_ce c).getD k 0) with
  | false => rfl
  | true =>
    have e : (ct_ce c).getD j 0 = (ct_ce c).getD k 0 := by simpa using hb
    have := w.2.2.2.1 j (by omega) k hk e
    omega
theorem cell_q {c : CT} {n B k : Nat} (w : cw c n B) (hk : k < n) : ce_q c k < 35 ∧ (ct_ce c).getD k 0 = Int32.ofNat (ce_q c k) := by
  obtain ⟨q, hq, e⟩ := w.1.2.2.2.1 k hk
  unfold ce_q
  rw [e, ii_cn (by omega)]
  exact ⟨hq, rfl⟩
theorem cell_99 {c : CT} {n B k : Nat} (w : cw c n B) (hk : k < n) : ct_c c (ce_q c k) = 99 := by
  obtain ⟨h1, h2⟩ := cell_q w hk
  refine (w.2.2.1 (ce_q c k) h1).2.mpr ?_
  rw [← h2, cat_at w hk]
  exact hk
/-- an effort is 0 just where the ray itself ends -/
theorem eff_0 {c : CT} {n B p k : Nat} (w : cw c n B) (hp : p < 24) (hk : k < n) : ef_Q c p k = 0 ↔ ry_cat c n (ct_ry c p).1 = Int32.ofNat k := by
  have h7 := w.1.2.1
  obtain ⟨L, l0, P, l3, l4, l5⟩ := ray_path2 w.2.2.1 hp
  obtain ⟨q1, q2⟩ := cell_q w hk
  have q3 := cell_99 w hk
  have hL := l3 L (Nat.le_refl _)
  unfold ef_Q
  rw [ef0]
  constructor
  · rintro ⟨v, hv, e⟩
    obtain ⟨i, hi, ei⟩ := (sq_zero w.2.2.1 hp P l3 (by omega)).mp e
    have hq : itr (ct_c c) (pe p) i / 4 = ce_q c k := by rw [ei]; omega
    have hiL : i = L := by
      rcases Nat.lt_or_ge i L with h9 | h9
      · exact absurd (by rw [hq]; exact q3) (P.1 i h9).1
      · omega
    subst hiL
    rw [hq, if_pos q3] at l4
    rw [l4]
    show ii_o (ct_cat c n (Int32.ofNat (ce_q c k))) n = Int32.ofNat k
    rw [← q2, cat_at w hk]
    unfold ii_o
    rw [if_pos hk]
  · intro h
    by_cases h99 : ct_c c (itr (ct_c c) (pe p) L / 4) = 99
    · rw [if_pos h99] at l4
      rw [l4] at h
      have h : ii_o (ct_cat c n (Int32.ofNat (itr (ct_c c) (pe p) L / 4))) n = Int32.ofNat k := h
      unfold ii_o at h
      split at h
      · rename_i hlt
        have e := (ii_eq (by omega) (by omega)).mp h
        have e2 := (mm_find_spec (fun k => (ct_ce c).getD k 0 == Int32.ofNat (itr (ct_c c) (pe p) L / 4)) n).1 hlt
        have e2 : ((ct_ce c).getD (ct_cat c n (Int32.ofNat (itr (ct_c c) (pe p) L / 4))) 0 == Int32.ofNat (itr (ct_c c) (pe p) L / 4)) = true := e2
        rw [e, q2] at e2
        have e3 : Int32.ofNat (ce_q c k) = Int32.ofNat (itr (ct_c c) (pe p) L / 4) := by simpa using e2
        have e4 := (ii_eq (by omega) (by omega)).mp e3
        refine ⟨itr (ct_c c) (pe p) L % 4, by omega, ?_⟩
        rw [e4, show 4 * (itr (ct_c c) (pe p) L / 4) + itr (ct_c c) (pe p) L % 4 = itr (ct_c c) (pe p) L by omega]
        exact (sq_zero w.2.2.1 hp P l3 hL).mpr ⟨L, Nat.le_refl _, rfl⟩
      · exact absurd h.symm (ii_ne1 (by omega))
    · rw [if_neg h99] at l4
      rw [l4] at h
      exact absurd h.symm (ii_ne1 (by omega))
/-! strengths -/
theorem cl_bit : ∀ y, y < 4 → ∀ m, m < 16 → ∀ r, r < 16 → ∀ b, b < 4 → (cl y m r).testBit b = (m.testBit b || (m.testBit y && r.testBit b)) := by decide +kernel
theorem fst_up {L : Nat → Nat} (hL : ∀ a, a < 4 → L a < 16) {y a b : Nat} (hy : y < 4) (ha : a < 4) (hb : b < 4) (h : (L a).testBit b = true) : (fst4 y L a).testBit b = true := by
  unfold fst4
  rw [cl_bit y hy (L a) (hL a ha) (L y) (hL y hy) b hb, h, Bool.true_or]
theorem fst_no {L : Nat → Nat} (hL : ∀ a, a < 4 → L a < 16) {y b : Nat} (hy : y < 4) (hb : b < 4) (h : ∀ a, a < 4 → (L a).testBit b = false) : ∀ a, a < 4 → (fst4 y L a).testBit b = false := fun a ha => by
  unfold fst4
  rw [cl_bit y hy (L a) (hL a ha) (L y) (hL y hy) b hb, h a ha, h y hy, Bool.and_false, Bool.or_false]
theorem fst_lt {L : Nat → Nat} (hL : ∀ a, a < 4 → L a < 16) {y : Nat} (hy : y < 4) : ∀ a, a < 4 → fst4 y L a < 16 := fun a ha => cl_lt y hy (L a) (hL a ha) (L y) (hL y hy)
theorem fL_up {L : Nat → Nat} (hL : ∀ a, a < 4 → L a < 16) {a b : Nat} (ha : a < 4) (hb : b < 4) (h : (L a).testBit b = true) : (fL L a).testBit b = true := by
  have h1 := fst_lt hL (y := 0) (by omega)
  have h2 := fst_lt h1 (y := 1) (by omega)
  have h3 := fst_lt h2 (y := 2) (by omega)
  exact fst_up h3 (by omega) ha hb (fst_up h2 (by omega) ha hb (fst_up h1 (by omega) ha hb (fst_up hL (by omega) ha hb h)))
theorem fL_no {L : Nat → Nat} (hL : ∀ a, a < 4 → L a < 16) {b : Nat} (hb : b < 4) (h : ∀ a, a < 4 → (L a).testBit b = false) : ∀ a, a < 4 → (fL L a).testBit b = false := by
  have h1 := fst_lt hL (y := 0) (by omega)
  have h2 := fst_lt h1 (y := 1) (by omega)
  have h3 := fst_lt h2 (y := 2) (by omega)
  exact fst_no h3 (by omega) hb (fst_no h2 (by omega) hb (fst_no h1 (by omega) hb (fst_no hL (by omega) hb h)))
/-- a victory is not above the strength -/
theorem st_ge {c : CT} {n a b : Nat} (h7 : n ≤ 7) (ha : a < 4) (hb : b < 4) (h : ct_lk c n b a < ct_lk c n a b) : ct_lk c n a b ≤ tI (ct_st c n) a b := by
  obtain ⟨x, hx, ex⟩ := lk_nat (c := c) (n := n) (a := a) (b := b)
  obtain ⟨y, hy, ey⟩ := lk_nat (c := c) (n := n) (a := b) (b := a)
  rw [ex, ey] at h
  have hyx := (ii_lt (by omega) (by omega)).mp h
  obtain ⟨L, hR, -⟩ := vb_graph (c := c) (t := x) h7 (by omega) (by omega)
  have hv : ct_vb c n (Int32.ofNat x) a b = true := by
    refine decide_eq_true ?_
    unfold ct_vi
    rw [ex, ey, if_pos h]
    exact Int32.le_refl _
  have e := st_thr hR ha hb
  rw [fL_up hR.1 ha hb (by rw [← hR.2 a ha b hb]; exact hv)] at e
  rw [ex]
  exact of_decide_eq_true e
/-- where one is beaten by nobody, nobody has strength against it -/
theorem st_none {c : CT} {n b : Nat} (h7 : n ≤ 7) (hb : b < 4) (h : ∀ a, a < 4 → ¬ ct_lk c n b a < ct_lk c n a b) : ∀ a, a < 4 → tI (ct_st c n) a b ≤ 0 := fun a ha => by
  obtain ⟨L, hR, -⟩ := vb_graph (c := c) (t := 1) h7 (by omega) (by omega)
  have hno : ∀ z, z < 4 → (L z).testBit b = false := fun z hz => by
    rw [← hR.2 z hz b hb]
    refine decide_eq_false ?_
    unfold ct_vi
    rw [if_neg (h z hz)]
    decide
  have e := st_thr hR ha hb
  rw [fL_no hR.1 hb hno a ha] at e
  have e := of_decide_eq_false e
  obtain ⟨k, hk, ek⟩ := (st_nat (c := c) (n := n)).2 a ha b hb
  rw [ek] at e ⊢
  have : ¬ 1 ≤ k := fun q => e ((ii_le (a := 1) (by omega) (by omega)).mpr q)
  have : k = 0 := by omega
  subst this
  exact Int32.le_refl _
/-- a dominant option wins by strengths -/
theorem dom_win {c : CT} {n a : Nat} (h7 : n ≤ 7) (ha : a < 4) (h : ∀ b, b < 4 → b ≠ a → ct_lk c n b a < ct_lk c n a b) : ct_bySt c n = a := by
  have hno : ∀ z, z < 4 → ¬ ct_lk c n a z < ct_lk c n z a := fun z hz => by
    by_cases e : z = a
    · subst e
      exact Int32.lt_irrefl
    · exact fun q => Int32.lt_irrefl (Int32.lt_trans q (h z hz e))
  have h0 := st_none h7 ha hno
  have hpos : ∀ b, b < 4 → b ≠ a → tI (ct_st c n) b a < tI (ct_st c n) a b := fun b hb e => by
    have g1 := h b hb e
    have g2 := st_ge h7 ha hb g1
    have g3 := h0 b hb
    obtain ⟨y, hy, ey⟩ := lk_nat (c := c) (n := n) (a := b) (b := a)
    have g4 : (0 : Int32) ≤ ct_lk c n b a := by rw [ey]; exact ii_nn (by omega)
    exact Int32.lt_of_le_of_lt g3 (Int32.lt_of_le_of_lt g4 (Int32.lt_of_lt_of_le g1 g2))
  have wk_a : st_wk (ct_st c n) a = 4 := mm_find_no (fun b hb => by
    refine decide_eq_false ?_
    by_cases e : b = a
    · subst e
      exact Int32.lt_irrefl
    · exact fun q => Int32.lt_irrefl (Int32.lt_trans q (hpos b hb e)))
  have wk_o : ∀ o, o < 4 → o ≠ a → st_wk (ct_st c n) o < 4 := fun o ho e => by
    refine Classical.byContradiction (fun hn => ?_)
    have hle := mm_find_le (fun b => decide (tI (ct_st c n) o b < tI (ct_st c n) b o)) 4
    have e4 : mm_find (fun b => decide (tI (ct_st c n) o b < tI (ct_st c n) b o)) 4 = 4 := by
      have hn : ¬ mm_find (fun b => decide (tI (ct_st c n) o b < tI (ct_st c n) b o)) 4 < 4 := hn
      omega
    have := (mm_find_spec (fun b => decide (tI (ct_st c n) o b < tI (ct_st c n) b o)) 4).2 a (by omega)
    exact of_decide_eq_false this (hpos o ho e)
  unfold ct_bySt
  by_cases e3 : a = 3
  · subst e3
    exact mm_find_no (fun o ho => decide_eq_false (fun q => q (wk_o o (by omega) (by omega))))
  · exact mm_find_at (by omega) (decide_eq_true (by omega)) (fun o ho => decide_eq_false (fun q => q (wk_o o (by omega) (by omega))))
/-! places -/
theorem pl_lt3 {c : CT} {k : Nat} {x : Int32} : ct_pl c k x ≤ 3 := mm_find_le _ _
theorem pl_ne {c : CT} {n k a b : Nat} (hP : ct_perm c n) (hk : k < n) (ha : a < 4) (hb : b < 4) (hab : a ≠ b) : ct_pl c k (Int32.ofNat a) ≠ ct_pl c k (Int32.ofNat b) := fun e => by
  have h1 := pl_opt hP hk ha
  have h2 := pl_opt hP hk hb
  rw [e, h2] at h1
  exact hab ((ii_eq (by omega) (by omega)).mp h1).symm
/-- who prefers the one, and who the other, are all -/
theorem lk_sum {c : CT} {n a b : Nat} (hP : ct_perm c n) (h7 : n ≤ 7) (ha : a < 4) (hb : b < 4) (hab : a ≠ b) : ct_lk c n a b + ct_lk c n b a = Int32.ofNat n := by
  have key : ∀ m, m ≤ n → ct_lk c m a b + ct_lk c m b a = Int32.ofNat m := by
    intro m
    induction m with
    | zero => intro _; rfl
    | succ m ih =>
      intro hm
      have h0 := ih (by omega)
      have hne := pl_ne hP (show m < n by omega) ha hb hab
      show (ct_lk c m a b + (if ct_pl c m (Int32.ofNat a) < ct_pl c m (Int32.ofNat b) then 1 else 0)) + (ct_lk c m b a + (if ct_pl c m (Int32.ofNat b) < ct_pl c m (Int32.ofNat a) then 1 else 0)) = Int32.ofNat (m + 1)
      rw [← ii_s, ← h0]
      by_cases hlt : ct_pl c m (Int32.ofNat a) < ct_pl c m (Int32.ofNat b)
      · rw [if_pos hlt, if_neg (by omega), Int32.add_zero, Int32.add_assoc, Int32.add_comm 1, ← Int32.add_assoc]
      · rw [if_neg hlt, if_pos (by omega), Int32.add_zero, ← Int32.add_assoc]
  exact key n (Nat.le_refl _)
/-- the place of the option in a place -/
theorem opt_pl {c : CT} {n k p : Nat} (hP : ct_perm c n) (hk : k < n) (hp : p < 4) : ct_pl c k (ct_opt c k p) = p := by
  obtain ⟨r, hr, h⟩ := hP k hk
  have hlt := PERMS_lt r hr p hp
  have e1 := pl_opt hP hk hlt
  have h3 : ct_pl c k (Int32.ofNat (r.getD p 0)) < 4 := by
    have := pl_lt3 (c := c) (k := k) (x := Int32.ofNat (r.getD p 0))
    omega
  rw [h p hp]
  rw [h _ h3] at e1
  have l1 := PERMS_lt r hr _ h3
  exact perm_inj r hr _ h3 p hp ((ii_eq (by omega) (by omega)).mp e1)
