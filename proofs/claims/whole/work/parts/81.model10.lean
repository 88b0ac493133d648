/-! THE MODEL: who has more than half -/
theorem mm_sum_0 : ∀ n, mm_sum (fun _ => 0) n = 0
  | 0 => rfl
  | n + 1 => by rw [mm_sum, mm_sum_0 n]; rfl
theorem vo_zero {c : CT} {n m o : Nat} (hP : ct_perm c n) (hm : m < 16) (h0 : m ≠ 0) (ho : o < 4) (hb : m.testBit o = false) : ct_vo c n m o = 0 := by
  rw [← mm_sum_0 n]
  refine mm_sum_congr (fun k hk => if_neg (fun e => ?_))
  obtain ⟨_, z, hz, ez, hbz⟩ := ct_fp_lt hP hk hm h0
  rw [ez] at e
  have := (ii_eq (by omega) (by omega)).mp e
  rw [this, hb] at hbz
  cases hbz
section
variable {g : tr_g} {d : Nat} {h h' : ev_AH} {c : CT} {n : Nat}
theorem sp_major {m : Nat} (hL : hh_L h) (q : mQ h c n) (hm : m < 16) (h0 : m ≠ 0) : tr_L g (d + 2) m_X9_major 0 [some (.ref 1099), some (.int (Int32.ofNat m)), none] [] h (.inl (some (.int (ii_o (ct_wr c n m) 4))), h) := by
  have h7 := q.2.2.1
  have e1 := m_n q
  have hP := q.2.2.2.2.2
  have loop : ∀ (j k : Nat), k + j = 4 → (∀ b, b < k → decide (Int32.ofNat n < 2 * ct_vo c n m b) = false) → tr_L g (d + 2) m_X9_major 2 [some (.ref 1099), some (.int (Int32.ofNat m)), some (.int (Int32.ofNat k))] [] h (.inl (some (.int (ii_o (ct_wr c n m) 4))), h) := by
    intro j
    induction j with
    | zero =>
      intro k hk hb
      have : k = 4 := by omega
      subst this
      have ew : ct_wr c n m = 4 := mm_find_no hb
      rw [ew]
      exact sg_X9_major_2 hL (fun _ => sg_X9_major_41 hL rfl) (fun t => absurd t (by decide))
    | succ j ih =>
      intro k hk hb
      have hk4 : k < 4 := by omega
      have nx : decide (Int32.ofNat n < 2 * ct_vo c n m k) = false → tr_L g (d + 2) m_X9_major 35 [some (.ref 1099), some (.int (Int32.ofNat m)), some (.int (Int32.ofNat k))] [] h (.inl (some (.int (ii_o (ct_wr c n m) 4))), h) := fun hf => by
        refine sg_X9_major_35 hL ?_
        rw [ii_s]
        refine ih (k + 1) (by omega) (fun b hb' => ?_)
        by_cases hbk : b = k
        · rw [hbk]; exact hf
        · exact hb b (by omega)
      refine sg_X9_major_2 hL (fun t => absurd ((ii_le (a := 4) (by omega) (by omega)).mp t) (by omega)) (fun _ => sg_X9_major_7 hL (fun t => nx ?_) (fun t => ?_))
      · rw [vo_bit m hm k hk4] at t
        have hbf : m.testBit k = false := by
          cases hbb : m.testBit k with
          | false => rfl
          | true => rw [hbb] at t; exact absurd rfl t
        rw [vo_zero hP hm h0 hk4 hbf]
        exact decide_eq_false (Int32.not_lt.mpr (ii_nn (by omega)))
      · have r1 := sp_votesM (g := g) (d := d) (o := k) (m := m) hL q hk4 hm h0
        refine sg_X9_major_16 hL (d := d + 1) (j0 := 1) r1 rfl (by omega) (fun t2 => nx ?_) (fun t2 => sg_X9_major_33 hL ?_)
        · rw [e1] at t2
          exact decide_eq_false (Int32.not_lt.mpr t2)
        · rw [e1] at t2
          have ew : ct_wr c n m = k := mm_find_at hk4 (decide_eq_true t2) hb
          rw [ew, ii_o, if_pos hk4]
  exact sg_X9_major_0 hL (loop 4 0 (by omega) (fun b hb => absurd hb (by omega)))
end
