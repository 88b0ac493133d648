/-! THE MODEL: votes of a round -/
theorem vo_bit : ∀ m, m < 16 → ∀ o, o < 4 → ((Int32.ofNat m >>> (Int32.ofNat o &&& 31)) &&& 1) = if m.testBit o then 1 else 0 := by decide +kernel
section
variable {g : tr_g} {d : Nat} {h h' : ev_AH} {c : CT} {n : Nat}
theorem sp_votesM {o m : Nat} (hL : hh_L h) (q : mQ h c n) (ho : o < 4) (hm : m < 16) (h0 : m ≠ 0) : tr_L g (d + 1) m_X9_votes 0 [some (.ref 1099), some (.int (Int32.ofNat o)), some (.int (Int32.ofNat m)), none, none, none] [] h (.inl (some (.int (ct_vo c n m o))), h) := by
  have h7 := q.2.2.1
  have e1 := m_n q
  have hP := q.2.2.2.2.2
  have loop : ∀ (j k : Nat) (w : Option Value), k + j = n → tr_L g (d + 1) m_X9_votes 5 [some (.ref 1099), some (.int (Int32.ofNat o)), some (.int (Int32.ofNat m)), some (.int (mm_sum (fun k => if ct_opt c k (ct_fp c k m) = Int32.ofNat o then 1 else 0) k)), some (.int (Int32.ofNat k)), w] [] h (.inl (some (.int (ct_vo c n m o))), h) := by
    intro j
    induction j with
    | zero =>
      intro k w hk
      have : k = n := by omega
      subst this
      exact sg_X9_votes_5 hL (j0 := 1) rfl (by omega) (fun _ => sg_X9_votes_70 hL rfl) (fun t => by rw [e1] at t; exact absurd ((ii_lt (by omega) (by omega)).mp t) (by omega))
    | succ j ih =>
      intro k w hk
      have hkn : k < n := by omega
      obtain ⟨f1, z, hz, ez, hbz⟩ := ct_fp_lt hP hkn hm h0
      have sp := mm_find_spec (fun p => ct_has m (ct_opt c k p)) 4
      have cell : ∀ p, p < 4 → tr_L g d m_X9_of 0 [some (.ref 1099), some (.int (Int32.ofNat k)), some (.int (2 + Int32.ofNat p))] [] h (.inl (some (.int (ct_opt c k p))), h) := fun p hp => by
        have r := sp_of (g := g) (d := d) (k := k) (w := 2 + p) hL (by omega) (by omega)
        rw [show 54 + 10 * k + (2 + p) = 54 + 10 * k + 2 + p by omega, ((q.1.2.2.2.2 k hkn).2.2 p hp).1] at r
        rw [show (2 : Int32) = Int32.ofNat 2 from rfl, ii_a]
        exact r
      have nx := fun w => ih (k + 1) w (by omega)
      simp only [mm_sum] at nx
      have inner : ∀ (i p : Nat), p + i = ct_fp c k m → tr_L g (d + 1) m_X9_votes 19 [some (.ref 1099), some (.int (Int32.ofNat o)), some (.int (Int32.ofNat m)), some (.int (mm_sum (fun k => if ct_opt c k (ct_fp c k m) = Int32.ofNat o then 1 else 0) k)), some (.int (Int32.ofNat k)), some (.int (Int32.ofNat p))] [] h (.inl (some (.int (ct_vo c n m o))), h) := by
        intro i
        induction i with
        | zero =>
          intro p hp
          have : p = ct_fp c k m := by omega
          subst this
          have r1 := cell (ct_fp c k m) f1
          refine sg_X9_votes_19 hL r1 (fun _ => sg_X9_votes_42 hL r1 (fun t => ?_) (fun t => ?_)) (fun t => ?_)
          · have y := nx (some (.int (Int32.ofNat (ct_fp c k m))))
            rw [if_neg t] at y
            exact sg_X9_votes_61 hL (by rw [ii_s]; exact y)
          · have y := nx (some (.int (Int32.ofNat (ct_fp c k m))))
            rw [if_pos t] at y
            exact sg_X9_votes_57 hL (by rw [ii_s]; exact y)
          · rw [ez, vo_bit m hm z hz, if_pos hbz] at t
            exact absurd t (by decide)
        | succ i ihi =>
          intro p hp
          have r1 := cell p (by omega)
          obtain ⟨z', hz', ez'⟩ := ct_perm_lt hP hkn (show p < 4 by omega)
          have hb : m.testBit z' = false := by
            have := sp.2 p (show p < ct_fp c k m by omega)
            rw [ez', ct_has_o hz'] at this
            exact this
          refine sg_X9_votes_19 hL r1 (fun t => ?_) (fun _ => sg_X9_votes_36 hL (by rw [ii_s]; exact ihi (p + 1) (by omega)))
          rw [ez', vo_bit m hm z' hz', hb] at t
          exact absurd rfl t
      exact sg_X9_votes_5 hL (j0 := 1) rfl (by omega) (fun t => by rw [e1] at t; exact absurd ((ii_le (by omega) (by omega)).mp t) (by omega)) (fun _ => sg_X9_votes_16 hL (inner (ct_fp c k m) 0 (by omega)))
  exact sg_X9_votes_0 hL (loop n 0 none (by omega))
end
