/-! THE MODEL: copies of its row; keeps, ends -/
def sl (s : List Int32) (o : Nat) : List Int32 := (s.drop o).take 124
theorem sl_get {s : List Int32} {o z : Nat} : (sl s o)[z]? = if z < 124 then s[o + z]? else none := by
  unfold sl
  rw [List.getElem?_take]
  split
  · rw [List.getElem?_drop]
  · rfl
theorem sl_self {s : List Int32} (h : s.length = 124) : sl s 0 = s := by
  unfold sl
  rw [List.drop_zero, List.take_of_length_le (by omega)]
theorem sl_len {s : List Int32} {o : Nat} (h : o + 124 ≤ s.length) : (sl s o).length = 124 := by
  unfold sl
  rw [List.length_take, List.length_drop]
  omega
theorem sl_ext {s s' : List Int32} {o o' : Nat} (h : ∀ z, z < 124 → s[o + z]? = s'[o' + z]?) : sl s o = sl s' o' := by
  apply List.ext_getElem?
  intro z
  rw [sl_get, sl_get]
  split
  · rename_i hz
    exact h z hz
  · rfl
theorem hh_sa_a {h : ev_AH} {a t : Nat} {l : List Int32} (e : hh_sa h a t (hh_a h a) = h) (hl : l = hh_a h a) : hh_sa h a t l = h := by rw [hl]; exact e
section
variable {g : tr_g} {d : Nat} {h h' : ev_AH} {c : CT} {n : Nat}
theorem sp_copies {a b i j na nb : Nat} (hL : hh_L h) (ha : hh_t[a]? = some (.inl (0, na))) (hb : hh_t[b]? = some (.inl (0, nb))) (hna : na < 1000000) (hnb : nb < 1000000) (hi : i + 124 ≤ na) (hj : j + 124 ≤ nb) (hd : a ≠ b ∨ j + 124 ≤ i) : ∃ l', l'.length = nb ∧ tr_L g d m_X9_copies 0 [some (.ref (a + 1000)), some (.int (Int32.ofNat i)), some (.ref (b + 1000)), some (.int (Int32.ofNat j)), none] [] h (.inl none, hh_sa h b 0 l') ∧ sl l' j = sl (hh_a h a) i ∧ ∀ o, (o + 124 ≤ j ∨ j + 124 ≤ o) → sl l' o = sl (hh_a h b) o := by
  obtain ⟨A1, A2⟩ := hh_arr hL ha
  obtain ⟨B1, B2⟩ := hh_arr hL hb
  have hb111 : b < h.1.length := (List.getElem?_eq_some_iff.mp B1).1
  have key : ∀ m k, k + m = 124 → ∀ l1 : List Int32, l1.length = nb → (∀ z, j ≤ z → z < j + k → l1[z]? = (hh_a h a)[i + (z - j)]?) → (∀ z, (z < j ∨ j + k ≤ z) → l1[z]? = (hh_a h b)[z]?) → ∃ l', l'.length = nb ∧ tr_L g d m_X9_copies 3 [some (.ref (a + 1000)), some (.int (Int32.ofNat i)), some (.ref (b + 1000)), some (.int (Int32.ofNat j)), some (.int (Int32.ofNat k))] [] (hh_sa h b 0 l1) (.inl none, hh_sa h b 0 l') ∧ (∀ z, j ≤ z → z < j + 124 → l'[z]? = (hh_a h a)[i + (z - j)]?) ∧ (∀ z, (z < j ∨ j + 124 ≤ z) → l'[z]? = (hh_a h b)[z]?) := by
    intro m
    induction m with
    | zero =>
      intro k hk l1 hl h1 h2
      have : k = 124 := by omega
      subst this
      have L1 := hh_L_sa hL hb hl
      exact ⟨l1, hl, sg_X9_copies_3 L1 (fun _ => sg_X9_copies_28 L1 rfl) (fun t => lp_end t), h1, h2⟩
    | succ m ih =>
      intro k hk l1 hl h1 h2
      have L1 := hh_L_sa hL hb hl
      have hk4 : k < 124 := by omega
      -- what is read
      have rd : ∃ l0, (hh_sa h b 0 l1).1[a]? = some (.inl (0, l0)) ∧ l0.length = na ∧ l0[i + k]? = (hh_a h a)[i + k]? := by
        by_cases e : a = b
        · subst e
          have hnab : na = nb := by
            rw [ha] at hb
            have := Option.some.inj hb
            have := Sum.inl.inj this
            exact (Prod.mk.inj this).2
          refine ⟨l1, by simp [hh_sa, hb111], by omega, h2 _ (Or.inr ?_)⟩
          rcases hd with hd | hd
          · exact absurd rfl hd
          · omega
        · exact ⟨hh_a h a, by simp [hh_sa, (show b ≠ a from fun x => e x.symm), A1], A2, rfl⟩
      obtain ⟨l0, d1, d2, d3⟩ := rd
      have ev : l0.getD (i + k) 0 = (hh_a h a).getD (i + k) 0 := by simp [List.getD, d3]
      obtain ⟨l', s1, s2, s3, s4⟩ := ih (k + 1) (by omega) (l1.set (j + k) (l0.getD (i + k) 0)) (by rw [List.length_set]; exact hl) (fun z hz1 hz2 => by
        by_cases e : z = j + k
        · subst e
          rw [List.getElem?_set_self (by omega), ev, show j + k - j = k by omega]
          simp [List.getD, show i + k < (hh_a h a).length by omega]
        · rw [List.getElem?_set_ne (by omega)]
          exact h1 z hz1 (by omega)) (fun z hz => by
        rw [List.getElem?_set_ne (by omega)]
        exact h2 z (by omega))
      refine ⟨l', s1, sg_X9_copies_3 L1 (fun t => lp_no hk4 (by omega) t) (fun _ => sg_X9_copies_10 L1 (j0 := i + k) (j1 := j + k) (l0 := l0) (l1 := l1) (ii_a _ _) d1 (by omega) (by omega) (ii_a _ _) (by simp [hh_sa, hb111]) (by omega) (by omega) ?_), s3, s4⟩
      have ew : ev_wr (hh_sa h b 0 l1) (b + 1000) (.inl (0, l1.set (j + k) (l0.getD (i + k) 0))) = hh_sa h b 0 (l1.set (j + k) (l0.getD (i + k) 0)) := by
        simp only [ev_wr, Nat.add_sub_cancel]
        simp [hh_sa, List.set_set]
      rw [ew, ii_s]
      exact s2
  obtain ⟨l', s1, s2, s3, s4⟩ := key 124 0 (by omega) (hh_a h b) B2 (fun z h1 h2 => absurd h2 (by omega)) (fun z _ => rfl)
  rw [hh_sa_id B1] at s2
  refine ⟨l', s1, sg_X9_copies_0 hL s2, sl_ext (fun z hz => ?_), fun o ho => sl_ext (fun z hz => s4 _ (by omega))⟩
  rw [s3 (j + z) (by omega) (by omega), show j + z - j = z by omega]
theorem ht101 : hh_t[101]? = some (.inl (0, 124)) := rfl
theorem ht102 : hh_t[102]? = some (.inl (0, 124)) := rfl
theorem ht103 : hh_t[103]? = some (.inl (0, 992)) := rfl
theorem hh_a100 (hL : hh_L h) : (hh_a h 100).length = 124 := (hh_arr hL ht100).2
theorem hh_a103 (hL : hh_L h) : (hh_a h 103).length = 992 := (hh_arr hL ht103).2
/-- the model's row is copied aside -/
theorem sp_keeps (hL : hh_L h) : ∃ h', tr_L g (d + 1) m_X9_keeps 0 [some (.ref 1099)] [] h (.inl none, h') ∧ hh_F [99, 101] h h' ∧ hh_a h' 101 = hh_a h 100 ∧ hh_i h' 99 7 = 0 ∧ hh_i h' 99 12 = 0 ∧ ∀ sl, sl ≠ 7 → sl ≠ 12 → hh_i h' 99 sl = hh_i h 99 sl := by
  obtain ⟨l', s1, s2, s3, _⟩ := sp_copies (g := g) (d := d) (a := 100) (b := 101) (i := 0) (j := 0) hL ht100 ht101 (by omega) (by omega) (by omega) (by omega) (Or.inl (by decide))
  rw [sl_self s1, sl_self (hh_a100 hL)] at s3
  subst s3
  have L1 := s2.2
  have L2 := ht99_7 (sl := 7) (x := 0) L1 (by omega)
  have i2 : ∀ sl, hh_i (hh_si (hh_sa h 101 0 (hh_a h 100)) 99 8 7 0) 99 sl = if 7 = sl then 0 else hh_i (hh_sa h 101 0 (hh_a h 100)) 99 sl := fun sl => hh_i_sis L1 ht99 (by decide)
  have i3 : ∀ sl, hh_i (hh_si (hh_si (hh_sa h 101 0 (hh_a h 100)) 99 8 7 0) 99 8 12 0) 99 sl = if 12 = sl then 0 else hh_i (hh_si (hh_sa h 101 0 (hh_a h 100)) 99 8 7 0) 99 sl := fun sl => hh_i_sis L2 ht99 (by decide)
  refine ⟨_, sg_X9_keeps_0 hL s2 rfl, hh_F_tr (hh_F_sa (by decide)) (hh_F_tr (hh_F_si (by decide)) (hh_F_si (by decide))), ?_, ?_, ?_, fun sl h1 h2 => ?_⟩
  · rw [hh_a_si (by decide), hh_a_si (by decide), hh_a_sa (hh_L_lt hL (by decide)), if_pos rfl]
  · rw [i3, if_neg (by decide), i2, if_pos rfl]
  · rw [i3, if_pos rfl]
  · rw [i3, if_neg (fun e => h2 e.symm), i2, if_neg (fun e => h1 e.symm), hh_i_sa (by decide)]
end
/-! the model's whole, told by courts -/
abbrev mRc (s : List Int32) (c : CT) : Prop := mR s c (cn c)
def MP (h : ev_AH) (P : List CT) : Prop := P.length ≤ 8 ∧ hh_i h 99 6 = Int32.ofNat P.length ∧ ∀ (i : Nat) (e : CT), P[i]? = some e → mRc (sl (hh_a h 103) (124 * i)) e
def MI (h : ev_AH) (c : CT) (P : List CT) (S : Option CT) (y : YS) (l t : List Int32) : Prop := mRc (hh_a h 100) c ∧ MP h P ∧ (hh_i h 99 20 = bI S.isSome ∧ ∀ e, S = some e → mRc (hh_a h 102) e) ∧ (hh_i h 99 9 = y.1 ∧ hh_i h 99 10 = y.2.1 ∧ (y.1 = 6 → hh_i h 99 11 = y.2.2.1) ∧ hh_i h 99 8 = y.2.2.2) ∧ (hh_i h 99 22 = Int32.ofNat l.length ∧ l.length ≤ 30 ∧ ∀ k, k < l.length → (hh_a h 106).getD k 0 = l.getD k 0) ∧ hh_i h 99 25 = Int32.ofNat t.length ∧ ∀ k, k < t.length → (hh_a h 107).getD k 0 = t.getD k 0
theorem MP_of {h h' : ev_AH} {P : List CT} (e1 : hh_i h' 99 6 = hh_i h 99 6) (e2 : hh_a h' 103 = hh_a h 103) (m : MP h P) : MP h' P := ⟨m.1, by rw [e1]; exact m.2.1, fun i e hi => by rw [e2]; exact m.2.2 i e hi⟩
/-- what calls may leave: all but thrown, the numbers of a rejection in the making, of answer, ray, rounds, commands read; the row kept aside, the tables -/
theorem MI_of {h h' : ev_AH} {c : CT} {P : List CT} {S : Option CT} {y : YS} {l t : List Int32} (F : hh_F [99, 101, 104, 105, 108] h h') (e : ∀ sl, sl ≠ 7 → (sl < 12 ∨ (19 < sl ∧ sl < 26)) → hh_i h' 99 sl = hh_i h 99 sl) (m : MI h c P S y l t) : MI h' c P S y l t := by
  obtain ⟨m1, m2, m3, m4, m5, m6, m7⟩ := m
  refine ⟨?_, MP_of (e 6 (by omega) (by omega)) (hh_F_a F (by decide)) m2, ?_, ?_, ?_, ?_, ?_⟩
  · rw [hh_F_a F (by decide)]; exact m1
  · rw [hh_F_a F (by decide), e 20 (by omega) (by omega)]; exact m3
  · rw [e 9 (by omega) (by omega), e 10 (by omega) (by omega), e 11 (by omega) (by omega), e 8 (by omega) (by omega)]; exact m4
  · rw [hh_F_a F (by decide), e 22 (by omega) (by omega)]; exact m5
  · rw [e 25 (by omega) (by omega)]; exact m6
  · rw [hh_F_a F (by decide)]; exact m7
/-- a change in the making: its code (0: none was thrown), reason and detail of a rejection (reason 0: none), the court behind it -/
def mO (h h' : ev_AH) (o : Int32 × Int32 × Int32 × CT) : Prop := hh_F [99, 100, 104, 105] h h' ∧ (∀ sl, sl ≠ 7 → (sl < 12 ∨ 19 < sl) → hh_i h' 99 sl = hh_i h 99 sl) ∧ hh_i h' 99 7 = o.1 ∧ hh_i h' 99 12 = o.2.1 ∧ (o.2.1 ≠ 0 → hh_i h' 99 13 = o.2.2.1) ∧ (o.1 ≠ 0 → hh_a h' 100 = hh_a h 100) ∧ mRc (hh_a h' 100) o.2.2.2
/-- what is told of a rejection behind a call -/
def yO (y : YS) (o : Int32 × Int32 × Int32 × CT) : YS := if o.1 ≠ 0 ∧ o.2.1 ≠ 0 then (o.2.1, o.2.2.1, y.2.2) else y
def pO (P : List CT) (c : CT) (o : Int32 × Int32 × Int32 × CT) : List CT := if o.1 = 0 then hi_push P c else P
section
variable {g : tr_g} {d : Nat} {h h' : ev_AH} {c : CT} {n : Nat} {P : List CT} {S : Option CT} {y : YS} {l t : List Int32}
theorem MI_n (w : MI h c P S y l t) (p : pQ c n) : mQ h c n := by
  have h7 := p.2.1
  have : cn c = n := by unfold cn; rw [p.1, ii_cn (by omega)]
  have e := w.1
  unfold mRc at e
  rw [this] at e
  exact ⟨e, p⟩
theorem drop1_get {P : List CT} {i : Nat} : (P.drop 1)[i]? = P[i + 1]? := by rw [List.getElem?_drop, Nat.add_comm]
/-- a change is kept, if nothing was thrown -/
theorem sp_push {v : Int32} (hL : hh_L h) (hP : MP h P) (hw : mRc (hh_a h 101) c) (h0 : hh_i h 99 7 = 0) : ∃ h', tr_L g (d + 1) m_X9_ends 0 [some (.ref 1099), some (.int v), none] [] h (.inl (some (.int v)), h') ∧ hh_F [99, 103] h h' ∧ MP h' (hi_push P c) ∧ ∀ sl, sl ≠ 6 → hh_i h' 99 sl = hh_i h 99 sl := by
  obtain ⟨p1, p2, p3⟩ := hP
  -- the last step
  have last : ∀ (h : ev_AH) (Q : List CT), hh_L h → Q.length < 8 → hh_i h 99 6 = Int32.ofNat Q.length → (∀ (i : Nat) (e : CT), Q[i]? = some e → mRc (sl (hh_a h 103) (124 * i)) e) → mRc (hh_a h 101) c → ∃ h', (∀ w : Option Value, tr_L g (d + 1) m_X9_ends 91 [some (.ref 1099), some (.int v), w] [] h (.inl (some (.int v)), h')) ∧ hh_F [99, 103] h h' ∧ MP h' (Q ++ [c]) ∧ ∀ sl, sl ≠ 6 → hh_i h' 99 sl = hh_i h 99 sl := by
    intro h Q hL h8 q2 q3 hw
    obtain ⟨l', s1, s2, s3, s4⟩ := sp_copies (g := g) (d := d) (a := 101) (b := 103) (i := 0) (j := 124 * Q.length) hL ht101 ht103 (by omega) (by omega) (by omega) (by omega) (Or.inl (by decide))
    rw [sl_self (hh_arr hL ht101).2] at s3
    have L1 := s2.2
    have e6 : hh_i (hh_sa h 103 0 l') 99 6 = Int32.ofNat Q.length := by rw [hh_i_sa (by decide)]; exact q2
    have j : ∀ sl, hh_i (hh_si (hh_sa h 103 0 l') 99 8 6 (Int32.ofNat (Q.length + 1))) 99 sl = if 6 = sl then Int32.ofNat (Q.length + 1) else hh_i (hh_sa h 103 0 l') 99 sl := fun sl => hh_i_sis L1 ht99 (by decide)
    have ea : hh_a (hh_si (hh_sa h 103 0 l') 99 8 6 (Int32.ofNat (Q.length + 1))) 103 = l' := by rw [hh_a_si (by decide), hh_a_sa (hh_L_lt hL (by decide)), if_pos rfl]
    refine ⟨hh_si (hh_sa h 103 0 l') 99 8 6 (Int32.ofNat (Q.length + 1)), fun w => sg_X9_ends_91 hL (d := d) (h1 := hh_sa h 103 0 l') ?_ (by rw [e6, ii_s]), hh_F_tr (hh_F_sa (by decide)) (hh_F_si (by decide)), ⟨?_, ?_, fun i e hi => ?_⟩, fun sl hs => ?_⟩
    · rw [q2, show (124 : Int32) = Int32.ofNat 124 from rfl, ii_m]
      exact s2
    · simp; omega
    · rw [j, if_pos rfl]; simp
    · rw [ea]
      by_cases hiq : i < Q.length
      · rw [List.getElem?_append_left hiq] at hi
        rw [s4 _ (Or.inl (by omega))]
        exact q3 i e hi
      · by_cases hie : i = Q.length
        · subst hie
          rw [List.getElem?_append_right (Nat.le_refl _), Nat.sub_self] at hi
          have hi : c = e := by simpa using hi
          rw [s3, ← hi]
          exact hw
        · rw [List.getElem?_eq_none (by simp; omega)] at hi
          cases hi
    · rw [j, if_neg (fun e => hs e.symm), hh_i_sa (by decide)]
  by_cases h8 : P.length = 8
  · have e6 : hh_i h 99 6 = 8 := by rw [p2, h8]; rfl
    -- the loop
    have loop : ∀ m k, k + m = 8 → 1 ≤ k → ∀ (h2 : ev_AH), hh_L h2 → hh_F [103] h h2 → (∀ (i : Nat), i + 1 < k → sl (hh_a h2 103) (124 * i) = sl (hh_a h 103) (124 * (i + 1))) → (∀ (i : Nat), k ≤ i + 1 → sl (hh_a h2 103) (124 * i) = sl (hh_a h 103) (124 * i)) → ∃ h3, hh_L h3 ∧ hh_F [103] h h3 ∧ (∀ (i : Nat), i < 7 → sl (hh_a h3 103) (124 * i) = sl (hh_a h 103) (124 * (i + 1))) ∧ ∀ r, (∀ w, tr_L g (d + 1) m_X9_ends 81 [some (.ref 1099), some (.int v), w] [] h3 r) → tr_L g (d + 1) m_X9_ends 48 [some (.ref 1099), some (.int v), some (.int (Int32.ofNat k))] [] h2 r := by
      intro m
      induction m with
      | zero =>
        intro k hk h1k h2 L2 F2 a1 a2
        have : k = 8 := by omega
        subst this
        exact ⟨h2, L2, F2, fun i hi => a1 i (by omega), fun r kk => sg_X9_ends_48 L2 (fun _ => kk _) (fun t => lp_end t)⟩
      | succ m ih =>
        intro k hk h1k h2 L2 F2 a1 a2
        have hk8 : k < 8 := by omega
        obtain ⟨l', s1, s2, s3, s4⟩ := sp_copies (g := g) (d := d) (a := 103) (b := 103) (i := 124 * k) (j := 124 * (k - 1)) L2 ht103 ht103 (by omega) (by omega) (by omega) (by omega) (Or.inr (by omega))
        have ea : hh_a (hh_sa h2 103 0 l') 103 = l' := by rw [hh_a_sa (hh_L_lt L2 (by decide)), if_pos rfl]
        obtain ⟨h3, t1, t2, t3, t4⟩ := ih (k + 1) (by omega) (by omega) _ s2.2 (hh_F_tr F2 (hh_F_sa (by decide))) (fun i hi => by
          rw [ea]
          by_cases e : i = k - 1
          · subst e
            rw [s3, a2 k (by omega), show k - 1 + 1 = k by omega]
          · rw [s4 _ (Or.inl (by omega))]
            exact a1 i (by omega)) (fun i hi => by
          rw [ea, s4 _ (Or.inr (by omega))]
          exact a2 i (by omega))
        refine ⟨h3, t1, t2, t3, fun r kk => sg_X9_ends_48 L2 (fun t => lp_no hk8 (by omega) t) (fun _ => sg_X9_ends_54 L2 (d := d) (h1 := hh_sa h2 103 0 l') ?_ (by rw [ii_s]; exact t4 r kk))⟩
        rw [show (124 : Int32) = Int32.ofNat 124 from rfl, ii_m, show (1 : Int32) = Int32.ofNat 1 from rfl, ii_u _ _ h1k, ii_m]
        exact s2
    obtain ⟨h3, t1, t2, t3, t4⟩ := loop 7 1 (by omega) (by omega) h hL hh_F_rf (fun i hi => absurd hi (by omega)) (fun i _ => rfl)
    have L4 := ht99_7 (sl := 6) (x := Int32.ofNat 7) t1 (by omega)
    have e63 : hh_i h3 99 6 = 8 := by rw [hh_F_i t2 (by decide)]; exact e6
    have j : ∀ sl, hh_i (hh_si h3 99 8 6 (Int32.ofNat 7)) 99 sl = if 6 = sl then Int32.ofNat 7 else hh_i h3 99 sl := fun sl => hh_i_sis t1 ht99 (by decide)
    obtain ⟨h5, u1, u2, u3, u4⟩ := last (hh_si h3 99 8 6 (Int32.ofNat 7)) (P.drop 1) L4 (by simp; omega) (by rw [j, if_pos rfl]; simp [h8]) (fun i e hi => by
      rw [hh_a_si (by decide)]
      have hi7 : i < 7 := by
        rw [drop1_get] at hi
        have := (List.getElem?_eq_some_iff.mp hi).1
        omega
      rw [t3 i hi7]
      rw [drop1_get] at hi
      exact p3 (i + 1) e hi) (by rw [hh_a_si (by decide), hh_F_a t2 (by decide)]; exact hw)
    refine ⟨h5, sg_X9_ends_0 hL (fun _ => sg_X9_ends_37 hL (fun t => absurd e6 t) (fun _ => sg_X9_ends_46 hL (t4 _ (fun w => sg_X9_ends_81 t1 ?_)))) (fun t => absurd h0 t), hh_F_tr (hh_F_w t2 (by decide)) (hh_F_tr (hh_F_si (by decide)) u2), ?_, fun sl hs => ?_⟩
    · rw [e63]
      exact u1 _
    · unfold hi_push
      rw [if_neg (by omega)]
      exact u3
    · rw [u4 sl hs, j, if_neg (fun e => hs e.symm), hh_F_i t2 (by decide)]
  · obtain ⟨h5, u1, u2, u3, u4⟩ := last h P hL (by omega) p2 p3 hw
    refine ⟨h5, sg_X9_ends_0 hL (fun _ => sg_X9_ends_37 hL (fun _ => u1 _) (fun t => ?_)) (fun t => absurd h0 t), u2, ?_, u4⟩
    · rw [p2] at t
      exact absurd ((ii_eq (b := 8) (by omega) (by omega)).mp t) h8
    · unfold hi_push
      rw [if_pos (by omega)]
      exact u3
abbrev kM : List Nat := [99, 100, 101, 102, 103, 104, 105, 106, 107, 108]
/-- the end of a change -/
theorem mo_wrap {h1 h2 : ev_AH} {v : Int32} {o : Int32 × Int32 × Int32 × CT} (L2 : hh_L h2) (w : MI h c P S y l t) (kF : hh_F [99, 101] h h1) (kA : hh_a h1 101 = hh_a h 100) (kE : ∀ sl, sl ≠ 7 → sl ≠ 12 → hh_i h1 99 sl = hh_i h 99 sl) (m : mO h1 h2 o) (hy : o.2.1 = 0 ∨ (0 < o.2.1 ∧ o.2.1 ≠ 6)) : ∃ h', tr_L g (d + 1) m_X9_ends 0 [some (.ref 1099), some (.int v), none] [] h2 (.inl (some (.int (if o.1 = 0 then v else 0))), h') ∧ hh_F kM h h' ∧ hh_i h' 99 7 = o.1 ∧ MI h' o.2.2.2 (pO P c o) S (yO y o) l t := by
  obtain ⟨w1, w2, w3, w4, w5, w6, w7⟩ := w
  obtain ⟨mF, mE, m7, m12, m13, m100, mR2⟩ := m
  have E : ∀ sl, sl ≠ 7 → (sl < 12 ∨ 19 < sl) → hh_i h2 99 sl = hh_i h 99 sl := fun sl a b => (mE sl a b).trans (kE sl a (by omega))
  have F2 : hh_F kM h h2 := hh_F_tr (hh_F_w kF (by decide)) (hh_F_w mF (by decide))
  have A : ∀ k, k ∈ [102, 103, 106, 107] → hh_a h2 k = hh_a h k := fun k hk => by
    simp only [List.mem_cons, List.not_mem_nil, or_false] at hk
    rw [hh_F_a mF (by simp; omega), hh_F_a kF (by simp; omega)]
  have A101 : hh_a h2 101 = hh_a h 100 := by rw [hh_F_a mF (by decide)]; exact kA
  have MP2 : MP h2 P := MP_of (E 6 (by omega) (by omega)) (A 103 (by decide)) w2
  unfold pO yO
  by_cases h0 : o.1 = 0
  · obtain ⟨h3, r3, F3, P3, e3⟩ := sp_push (g := g) (d := d) (v := v) L2 MP2 (by rw [A101]; exact w1) (by rw [m7]; exact h0)
    rw [if_pos h0, if_pos h0, if_neg (fun t => t.1 h0)]
    have E3 : ∀ sl, sl ≠ 6 → sl ≠ 7 → (sl < 12 ∨ 19 < sl) → hh_i h3 99 sl = hh_i h 99 sl := fun sl a b c => (e3 sl a).trans (E sl b c)
    have A3 : ∀ k, k ∈ [102, 106, 107] → hh_a h3 k = hh_a h k := fun k hk => by
      simp only [List.mem_cons, List.not_mem_nil, or_false] at hk
      rw [hh_F_a F3 (by simp; omega), A k (by simp; omega)]
    refine ⟨h3, r3, hh_F_tr F2 (hh_F_w F3 (by decide)), by rw [e3 7 (by omega), m7], ?_, P3, ?_, ?_, ?_, ?_, ?_⟩
    · rw [hh_F_a F3 (by decide)]; exact mR2
    · rw [E3 20 (by omega) (by omega) (by omega), A3 102 (by decide)]; exact w3
    · rw [E3 9 (by omega) (by omega) (by omega), E3 10 (by omega) (by omega) (by omega), E3 11 (by omega) (by omega) (by omega), E3 8 (by omega) (by omega) (by omega)]; exact w4
    · rw [E3 22 (by omega) (by omega) (by omega), A3 106 (by decide)]; exact w5
    · rw [E3 25 (by omega) (by omega) (by omega)]; exact w6
    · rw [A3 107 (by decide)]; exact w7
  · rw [if_neg h0, if_neg h0]
    have f7 : hh_i h2 99 7 ≠ 0 := by rw [m7]; exact h0
    rcases hy with hy | ⟨hy1, hy2⟩
    · rw [if_neg (fun t => t.2 hy)]
      have f12 : hh_i h2 99 12 ≤ 0 := by rw [m12, hy]; exact Int32.le_refl _
      refine ⟨h2, sg_X9_ends_0 L2 (fun t => absurd t f7) (fun _ => sg_X9_ends_7 L2 (fun _ => sg_X9_ends_35 L2 rfl) (fun t => absurd f12 (Int32.not_le.mpr t))), F2, m7, mR2, MP2, ?_, ?_, ?_, ?_, ?_⟩
      · rw [E 20 (by omega) (by omega), A 102 (by decide)]; exact w3
      · rw [E 9 (by omega) (by omega), E 10 (by omega) (by omega), E 11 (by omega) (by omega), E 8 (by omega) (by omega)]; exact w4
      · rw [E 22 (by omega) (by omega), A 106 (by decide)]; exact w5
      · rw [E 25 (by omega) (by omega)]; exact w6
      · rw [A 107 (by decide)]; exact w7
    · have hn0 : o.2.1 ≠ 0 := fun e => by rw [e] at hy1; exact absurd hy1 Int32.lt_irrefl
      rw [if_pos ⟨h0, hn0⟩]
      have L3 := ht99_7 (sl := 9) (x := hh_i h2 99 12) L2 (by omega)
      have j3 : ∀ sl, hh_i (hh_si h2 99 8 9 (hh_i h2 99 12)) 99 sl = if 9 = sl then hh_i h2 99 12 else hh_i h2 99 sl := fun sl => hh_i_sis L2 ht99 (by decide)
      have L4 := ht99_7 (sl := 10) (x := hh_i (hh_si h2 99 8 9 (hh_i h2 99 12)) 99 13) L3 (by omega)
      have j4 : ∀ sl x, hh_i (hh_si (hh_si h2 99 8 9 (hh_i h2 99 12)) 99 8 10 x) 99 sl = if 10 = sl then x else hh_i (hh_si h2 99 8 9 (hh_i h2 99 12)) 99 sl := fun sl x => hh_i_sis L3 ht99 (by decide)
      have j5 : ∀ sl, hh_i (hh_si (hh_si (hh_si h2 99 8 9 (hh_i h2 99 12)) 99 8 10 (hh_i (hh_si h2 99 8 9 (hh_i h2 99 12)) 99 13)) 99 8 11 0) 99 sl = if 11 = sl then 0 else hh_i (hh_si (hh_si h2 99 8 9 (hh_i h2 99 12)) 99 8 10 (hh_i (hh_si h2 99 8 9 (hh_i h2 99 12)) 99 13)) 99 sl := fun sl => hh_i_sis L4 ht99 (by decide)
      have F5 : hh_F [99] h2 (hh_si (hh_si (hh_si h2 99 8 9 (hh_i h2 99 12)) 99 8 10 (hh_i (hh_si h2 99 8 9 (hh_i h2 99 12)) 99 13)) 99 8 11 0) := hh_F_tr (hh_F_si (by decide)) (hh_F_tr (hh_F_si (by decide)) (hh_F_si (by decide)))
      have E5 : ∀ sl, sl ≠ 9 → sl ≠ 10 → sl ≠ 11 → hh_i (hh_si (hh_si (hh_si h2 99 8 9 (hh_i h2 99 12)) 99 8 10 (hh_i (hh_si h2 99 8 9 (hh_i h2 99 12)) 99 13)) 99 8 11 0) 99 sl = hh_i h2 99 sl := fun sl a b c => by
        rw [j5, if_neg (fun e => c e.symm), j4, if_neg (fun e => b e.symm), j3, if_neg (fun e => a e.symm)]
      refine ⟨_, sg_X9_ends_0 L2 (fun t => absurd t f7) (fun _ => sg_X9_ends_7 L2 (fun t => absurd t (Int32.not_le.mpr (by rw [m12]; exact hy1))) (fun _ => sg_X9_ends_14 L2 rfl)), hh_F_tr F2 (hh_F_w F5 (by decide)), by rw [E5 7 (by omega) (by omega) (by omega)]; exact m7, ?_, MP_of (E5 6 (by omega) (by omega) (by omega)) (hh_F_a F5 (by decide)) MP2, ?_, ⟨?_, ?_, fun e => absurd e hy2, ?_⟩, ?_, ?_, ?_⟩
      · rw [hh_F_a F5 (by decide)]; exact mR2
      · rw [E5 20 (by omega) (by omega) (by omega), hh_F_a F5 (by decide), E 20 (by omega) (by omega), A 102 (by decide)]; exact w3
      · rw [j5, if_neg (by decide), j4, if_neg (by decide), j3, if_pos rfl, m12]
      · rw [j5, if_neg (by decide), j4, if_pos rfl, j3, if_neg (by decide), m13 hn0]
      · rw [E5 8 (by omega) (by omega) (by omega), E 8 (by omega) (by omega)]; exact w4.2.2.2
      · rw [E5 22 (by omega) (by omega) (by omega), hh_F_a F5 (by decide), E 22 (by omega) (by omega), A 106 (by decide)]; exact w5
      · rw [E5 25 (by omega) (by omega) (by omega), E 25 (by omega) (by omega)]; exact w6
      · rw [hh_F_a F5 (by decide), A 107 (by decide)]; exact w7
end
