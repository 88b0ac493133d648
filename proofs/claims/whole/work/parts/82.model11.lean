/-! THE MODEL: who leaves -/
section
variable {g : tr_g} {d : Nat} {h h' : ev_AH} {c : CT} {n : Nat}
theorem sp_leaves {m : Nat} (hL : hh_L h) (q : mQ h c n) (hm : m < 16) (h0 : m ≠ 0) : tr_L g (d + 2) m_X9_leaves 0 [some (.ref 1099), some (.int (Int32.ofNat m)), none, none, none] [] h (.inl (some (.int (oo_i (ct_few c n m)))), h) := by
  have loop : ∀ (j k : Nat) (w : Option Value), k + j = 4 → tr_L g (d + 2) m_X9_leaves 4 [some (.ref 1099), some (.int (Int32.ofNat m)), some (.int (oo_i (mm_few (ct_vo c n m) m k))), some (.int (Int32.ofNat k)), w] [] h (.inl (some (.int (oo_i (ct_few c n m)))), h) := by
    intro j
    induction j with
    | zero =>
      intro k w hk
      have : k = 4 := by omega
      subst this
      exact sg_X9_leaves_4 hL (fun _ => sg_X9_leaves_57 hL rfl) (fun t => absurd t (by decide))
    | succ j ih =>
      intro k w hk
      have hk4 : k < 4 := by omega
      have nx := fun w => ih (k + 1) w (by omega)
      simp only [mm_few] at nx
      refine sg_X9_leaves_4 hL (fun t => absurd ((ii_le (a := 4) (by omega) (by omega)).mp t) (by omega)) (fun _ => sg_X9_leaves_9 hL (fun t => ?_) (fun t => ?_))
      · rw [vo_bit m hm k hk4] at t
        have hbf : ¬ m.testBit k = true := fun hbb => by rw [hbb] at t; exact absurd rfl t
        refine sg_X9_leaves_22 hL (fun _ => sg_X9_leaves_51 hL ?_) (fun t => absurd rfl t)
        have y := nx (some (.int 0))
        rw [if_neg (fun t => hbf t.1)] at y
        rw [ii_s]
        exact y
      · rw [vo_bit m hm k hk4] at t
        have hbt : m.testBit k = true := by
          cases hbb : m.testBit k with
          | true => rfl
          | false => rw [hbb] at t; exact absurd t (by decide)
        refine sg_X9_leaves_18 hL (fun t => absurd t (by decide)) (fun _ => ?_)
        cases hf : mm_few (ct_vo c n m) m k with
        | none =>
          have y := nx (some (.int 1))
          rw [if_pos ⟨hbt, fun f h => by rw [hf] at h; cases h⟩] at y
          refine sg_X9_leaves_30 hL (fun _ => sg_X9_leaves_49 hL ?_) (fun t => absurd t (by decide))
          rw [ii_s]
          exact y
        | some f =>
          obtain ⟨hf4, _⟩ := mm_few_lt _ _ _ _ hf
          have r1 := sp_votesM (g := g) (d := d) (o := k) (m := m) hL q hk4 hm h0
          have r2 := sp_votesM (g := g) (d := d) (o := f) (m := m) hL q (by omega) hm h0
          refine sg_X9_leaves_30 hL (fun t => absurd t (Int32.not_lt.mpr (ii_nn (by omega)))) (fun _ => sg_X9_leaves_34 hL (d := d + 1) r1 r2 (fun t => ?_) (fun t => ?_))
          · have y := nx (some (.int 1))
            rw [if_neg (fun t2 => absurd t (Int32.not_lt.mpr (t2.2 f hf))), hf] at y
            refine sg_X9_leaves_51 hL ?_
            rw [ii_s]
            exact y
          · have y := nx (some (.int 1))
            rw [if_pos ⟨hbt, fun f' h => by rw [hf] at h; cases h; exact t⟩] at y
            refine sg_X9_leaves_49 hL ?_
            rw [ii_s]
            exact y
  exact sg_X9_leaves_0 hL (loop 4 0 none (by omega))
end
