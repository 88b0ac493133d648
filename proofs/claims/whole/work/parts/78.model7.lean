/-! THE MODEL: the most points -/
section
variable {g : tr_g} {d : Nat} {h h' : ev_AH} {c : CT} {n : Nat}
theorem sp_byPtsM (hL : hh_L h) (q : mQ h c n) : tr_L g (d + 3) m_X9_byPoints 0 [some (.ref 1099), none, none] [] h (.inl (some (.int (Int32.ofNat (ct_byPts c n)))), h) := by
  have loop : ∀ (m k : Nat), k + m = 3 → tr_L g (d + 3) m_X9_byPoints 4 [some (.ref 1099), some (.int (Int32.ofNat (mm_best (fun o => ct_pts c n (Int32.ofNat o)) k))), some (.int (Int32.ofNat (k + 1)))] [] h (.inl (some (.int (Int32.ofNat (ct_byPts c n)))), h) := by
    intro m
    induction m with
    | zero =>
      intro k hk
      have : k = 3 := by omega
      subst this
      exact sg_X9_byPoints_4 hL (fun _ => sg_X9_byPoints_34 hL rfl) (fun t => absurd t (by decide))
    | succ m ih =>
      intro k hk
      have hb := mm_best_le (fun o => ct_pts c n (Int32.ofNat o)) k
      have r1 := sp_ptsM (g := g) (d := d) (o := k + 1) hL q (by omega)
      have r2 := sp_ptsM (g := g) (d := d) (o := mm_best (fun o => ct_pts c n (Int32.ofNat o)) k) hL q (by omega)
      have z := ih (k + 1) (by omega)
      rw [mm_best] at z
      refine sg_X9_byPoints_4 hL (fun t => absurd ((ii_le (a := 4) (by omega) (by omega)).mp t) (by omega)) (fun _ => sg_X9_byPoints_9 hL (d := d + 2) r1 r2 (fun t => ?_) (fun t => ?_))
      · rw [if_neg (Int32.not_lt.mpr t)] at z
        exact sg_X9_byPoints_26 hL (by rw [ii_s]; exact z)
      · rw [if_pos t] at z
        exact sg_X9_byPoints_22 hL (by rw [ii_s]; exact z)
  exact sg_X9_byPoints_0 hL (loop 3 0 (by omega))
end
