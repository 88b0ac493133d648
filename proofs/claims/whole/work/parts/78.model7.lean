/-! THE MODEL: the most points -/
section
variable {g : tr_g} {d : Nat} {h h' : ev_AH} {c : CT} {n : Nat}
theorem sp_byPtsM (hL : hh_L h) (q : mQ h c n) : tr_L g (d + 3) m_X9_byPoints 0 [some (.ref 1099), none, none] [] h (.inl (some (.int (Int32.ofNat (ct_byPts c n)))), h) := by
  have loop : ∀ (m k : Nat), k + m = 3 → tr_L g (d + 3) m_X9_byPoints 4 [some (.ref 1099), some (.int (Int32.ofNat (mm_best (fun o => ct_pts c n (Int32.ofNat o)) k))), some (.int (Int32.ofNat (k + 1)))] [] h (.inl (some (.int (Int32.ofNat (ct_byPts c n)))), h) := by
    intro m
    induction m with
    | zero =>
      intro k hk
      have : k = 3 := by omega
      subst this
      exact sg_X9_byPoints_4 hL (fun _ => sg_X9_byPoints_34 hL rfl) (fun t => absurd t (by decide))
    | succ m ih =>
      intro k hk
      have hb := mm_best_le (fun o => ct_pts c n (Int32.ofNat o)) k
      have r1 := sp_ptsM (g := g) (d := d) (o := k + 1) hL q (by omega)
      have r2 := sp_ptsM (g := g) (d := d) (o := mm_best (fun o => ct_pts c n (Int32.ofNat o)) k) hL q (by omega)
      have z := ih (k + 1) (by omega)
      rw [mm_best] at z
      refine sg_X9_byPoints_4 hL (fun t => absurd ((ii_le (a := 4) (by omega) (by omega)).mp t) (by omega)) (fun _ => sg_X9_byPoints_9 hL (d := d + 2) r1 r2 (fun t => ?_) (fun t => ?_))
      · rw [if_neg (Int32.not_lt.mpr t)] at z
        exact sg_X9_byPoints_26 hL (by rw [ii_s]; exact z)
      · rw [if_pos t] at z
        exact sg_X9_byPoints_22 hL (by rw [ii_s]; exact z)
  exact sg_X9_byPoints_0 hL (loop 3 0 (by omega))
/-- whether an option is liked by more than half, against each other one -/
theorem sp_domM {o : Nat} (hL : hh_L h) (q : mQ h c n) (ho : o < 4) : tr_L g (d + 3) m_X9_dominates 0 [some (.ref 1099), some (.int (Int32.ofNat o)), none, none] [] h (.inl (some (.int (if ct_nd c n o < 4 then 0 else 1))), h) := by
  have e1 := m_n q
  have sp := mm_find_spec (fun b => decide (b ≠ o) && decide (2 * ct_lk c n o b ≤ Int32.ofNat n)) 4
  have loop : ∀ (m k : Nat) (v : Int32), k + m = 4 → ((v = 1 ∧ ∀ b, b < k → (decide (b ≠ o) && decide (2 * ct_lk c n o b ≤ Int32.ofNat n)) = false) ∨ (v = 0 ∧ ∃ b, b < k ∧ (decide (b ≠ o) && decide (2 * ct_lk c n o b ≤ Int32.ofNat n)) = true)) → tr_L g (d + 3) m_X9_dominates 4 [some (.ref 1099), some (.int (Int32.ofNat o)), some (.int v), some (.int (Int32.ofNat k))] [] h (.inl (some (.int (if ct_nd c n o < 4 then 0 else 1))), h) := by
    intro m
    induction m with
    | zero =>
      intro k v hk hv
      have : k = 4 := by omega
      subst this
      rcases hv with ⟨rfl, hv⟩ | ⟨rfl, b, hb, hv⟩
      · have : ct_nd c n o = 4 := mm_find_no hv
        rw [if_neg (by omega)]
        exact sg_X9_dominates_4 hL (fun _ => sg_X9_dominates_45 hL (Or.inr rfl) rfl) (fun t => absurd t (by decide))
      · have : ct_nd c n o < 4 := by
          rcases Nat.lt_or_ge (ct_nd c n o) 4 with h | h
          · exact h
          · have := sp.2 b (Nat.lt_of_lt_of_le hb h)
            rw [hv] at this
            cases this
        rw [if_pos this]
        exact sg_X9_dominates_4 hL (fun _ => sg_X9_dominates_45 hL (Or.inl rfl) rfl) (fun t => absurd t (by decide))
    | succ m ih =>
      intro k v hk hv
      have yes : (decide (k ≠ o) && decide (2 * ct_lk c n o k ≤ Int32.ofNat n)) = false → tr_L g (d + 3) m_X9_dominates 32 [some (.ref 1099), some (.int (Int32.ofNat o)), some (.int v), some (.int (Int32.ofNat k))] [.int v] h (.inl (some (.int (if ct_nd c n o < 4 then 0 else 1))), h) := fun hf => by
        refine sg_X9_dominates_32 hL ?_
        rw [ii_s]
        refine ih (k + 1) _ (by omega) ?_
        rcases hv with ⟨rfl, hv⟩ | ⟨rfl, b, hb, hv⟩
        · refine Or.inl ⟨by decide, fun b hb => ?_⟩
          by_cases hbk : b = k
          · rw [hbk]; exact hf
          · exact hv b (by omega)
        · exact Or.inr ⟨by decide, b, by omega, hv⟩
      refine sg_X9_dominates_4 hL (fun t => absurd ((ii_le (a := 4) (by omega) (by omega)).mp t) (by omega)) (fun _ => sg_X9_dominates_9 hL (fun t => yes ?_) (fun t => ?_))
      · have := (ii_eq (by omega) (by omega)).mp t
        simp [this]
      · have hne : k ≠ o := fun e => t (by rw [e])
        have r1 := sp_likes (g := g) (d := d) (a := o) (b := k) hL q ho (by omega)
        refine sg_X9_dominates_15 hL (d := d + 2) (j0 := 1) r1 rfl (by omega) (fun t2 => ?_) (fun t2 => yes ?_)
        · rw [e1] at t2
          refine sg_X9_dominates_36 hL ?_
          rw [ii_s]
          refine ih (k + 1) _ (by omega) (Or.inr ⟨?_, k, by omega, by simp [hne, t2]⟩)
          rcases hv with ⟨rfl, _⟩ | ⟨rfl, _⟩ <;> decide
        · rw [e1] at t2
          simp [Int32.not_le.mpr t2]
  exact sg_X9_dominates_0 hL (loop 4 0 1 (by omega) (Or.inl ⟨rfl, fun b hb => absurd hb (by omega)⟩))
end
