/-! THE MODEL: the rounds -/
def pc4 (m : Nat) : Nat := (if m.testBit 0 then 1 else 0) + (if m.testBit 1 then 1 else 0) + (if m.testBit 2 then 1 else 0) + (if m.testBit 3 then 1 else 0)
theorem pc4_less : ∀ m, m < 16 → ∀ e, e < 4 → m.testBit e = true → pc4 (m - 2 ^ e) + 1 = pc4 m := by decide +kernel
theorem pc4_pos : ∀ m, m < 16 → m ≠ 0 → 1 ≤ pc4 m := by decide +kernel
theorem cl_bit : ∀ m, m < 16 → ∀ e, e < 4 → m.testBit e = true → (Int32.ofNat m &&& ((1 <<< (Int32.ofNat e &&& 31)) ^^^ (-1))) = Int32.ofNat (m - 2 ^ e) := by decide +kernel
/-- the model's number of rounds may change, no other -/
def mB (h h' : ev_AH) : Prop := hh_F [99] h h' ∧ ∀ sl, sl ≠ 19 → hh_i h' 99 sl = hh_i h 99 sl
theorem mB_tr {h1 h2 h3 : ev_AH} (a : mB h1 h2) (b : mB h2 h3) : mB h1 h3 := ⟨hh_F_tr a.1 b.1, fun sl hs => (b.2 sl hs).trans (a.2 sl hs)⟩
theorem mB_set {h : ev_AH} {x : Int32} (hL : hh_L h) : mB h (hh_si h 99 8 19 x) := ⟨hh_F_si (by decide), fun sl hs => by rw [hh_i_sis hL ht99 (by decide), if_neg (fun e => hs e.symm)]⟩
section
variable {g : tr_g} {d : Nat} {h h' : ev_AH} {c : CT} {n : Nat}
theorem sp_byRounds (hL : hh_L h) (q : mQ h c n) (h1 : 1 ≤ n) : ∃ h', tr_L g (d + 3) m_X9_byRounds 0 [some (.ref 1099), none] [] h (.inl (some (.int (Int32.ofNat (ct_vr c n 4 15 1).1))), h') ∧ mB h h' ∧ hh_i h' 99 19 = Int32.ofNat (ct_vr c n 4 15 1).2 := by
  have h7 := q.2.2.1
  have hP := q.2.2.2.2.2
  have key : ∀ (f m r : Nat) (h : ev_AH), m < 16 → m ≠ 0 → pc4 m ≤ f → hh_L h → mQ h c n → hh_i h 99 19 = Int32.ofNat r → ∃ h', tr_L g (d + 3) m_X9_byRounds 8 [some (.ref 1099), some (.int (Int32.ofNat m))] [] h (.inl (some (.int (Int32.ofNat (ct_vr c n f m r).1))), h') ∧ mB h h' ∧ hh_i h' 99 19 = Int32.ofNat (ct_vr c n f m r).2 := by
    intro f
    induction f with
    | zero =>
      intro m r h hm h0 hpc
      have := pc4_pos m hm h0
      omega
    | succ f ih =>
      intro m r h hm h0 hpc hL q hr
      have r1 := sp_major (g := g) (d := d) (m := m) hL q hm h0
      unfold ct_vr
      by_cases hw : ct_wr c n m < 4
      · rw [if_pos hw]
        rw [ii_o, if_pos hw] at r1
        exact ⟨h, sg_X9_byRounds_8 hL (d := d + 2) r1 (fun _ => sg_X9_byRounds_41 hL (d := d + 2) r1 rfl) (fun t => absurd t (Int32.not_lt.mpr (ii_nn (by omega)))), ⟨hh_F_rf, fun _ _ => rfl⟩, hr⟩
      · rw [if_neg hw]
        rw [ii_o, if_neg hw] at r1
        obtain ⟨e, he⟩ := ct_few_some (c := c) (n := n) hm h0
        obtain ⟨a1, a2, a3, a4⟩ := ct_vr_left h1 h7 hP hm h0 hw he
        have r2 := sp_leaves (g := g) (d := d) (m := m) hL q hm h0
        rw [he] at r2
        simp only [he]
        have L2 := ht99_7 (sl := 19) (x := Int32.ofNat (r + 1)) hL (by omega)
        have B2 := mB_set (x := Int32.ofNat (r + 1)) hL
        obtain ⟨h3, r3, B3, i3⟩ := ih (m - 2 ^ e) (r + 1) _ a1 a2 (by have := pc4_less m hm e a3 a4; omega) L2 (mQ_F B2.1 (by decide) q) (by rw [hh_i_sis hL ht99 (by decide), if_pos rfl])
        refine ⟨h3, sg_X9_byRounds_8 hL (d := d + 2) r1 (fun t => absurd t (by decide)) (fun _ => sg_X9_byRounds_16 hL (d := d + 2) r2 ?_), mB_tr B2 B3, i3⟩
        show tr_L g (d + 3) m_X9_byRounds 8 [some (.ref 1099), some (.int (Int32.ofNat m &&& ((1 <<< (Int32.ofNat e &&& 31)) ^^^ (-1))))] [] (hh_si h 99 8 19 (hh_i h 99 19 + 1)) _
        rw [cl_bit m hm e a3 a4, hr, ii_s]
        exact r3
  have L1 := ht99_7 (sl := 19) (x := 1) hL (by omega)
  have B1 := mB_set (x := 1) hL
  obtain ⟨h3, r3, B3, i3⟩ := key 4 15 1 _ (by omega) (by omega) (by decide) L1 (mQ_F B1.1 (by decide) q) (by rw [hh_i_sis hL ht99 (by decide), if_pos rfl]; rfl)
  exact ⟨h3, sg_X9_byRounds_0 hL r3, mB_tr B1 B3, i3⟩
end
