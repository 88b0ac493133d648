/-! TEXTS: what a StringBuilder holds, and its methods; words of the constant pool -/
/-- a character of seven bits -/
def sb_c (x : Int32) : Prop := ∃ k : Nat, k < 128 ∧ x = Int32.ofNat k
/-- the StringBuilder of cell k holds l -/
def sb (h : ev_AH) (k : Nat) (l : List Int32) : Prop := hh_i h k 1 = 0 ∧ hh_i h k 3 = Int32.ofNat l.length ∧ ∃ (a : Nat) (b : List Int32), (hh_v h k)[0]? = some (.ref (a + 1000)) ∧ h.1[a]? = some (.inl (2, b)) ∧ ((a = k + 1 ∧ b.length = 16) ∨ 111 ≤ a) ∧ l.length ≤ b.length ∧ b.length < 1000 ∧ (b.length = 16 ∨ b.length = 34 ∨ b.length = 70) ∧ b.take l.length = l ∧ ∀ x ∈ b, sb_c x
/-- frames where something may have been made too -/
def hh_G (ks : List Nat) (m n : Nat) (h h' : ev_AH) : Prop := h.1.length ≤ h'.1.length ∧ h'.2.1 ≤ h.2.1 + m ∧ h'.2.2 ≤ h.2.2 + n ∧ ∀ k : Nat, k < 111 → k ∉ ks → h'.1[k]? = h.1[k]?
theorem hh_G_of {ks : List Nat} {h h' : ev_AH} (a : hh_F ks h h') : hh_G ks 0 0 h h' := ⟨by rw [a.1]; exact Nat.le_refl _, by rw [a.2.1]; exact Nat.le_refl _, by rw [a.2.1]; exact Nat.le_refl _, fun k _ hk => a.2.2 k hk⟩
theorem hh_G_tr {ks : List Nat} {m n m' n' : Nat} {h1 h2 h3 : ev_AH} (a : hh_G ks m n h1 h2) (b : hh_G ks m' n' h2 h3) : hh_G ks (m + m') (n + n') h1 h3 := ⟨Nat.le_trans a.1 b.1, by have := a.2.1; have := b.2.1; omega, by have := a.2.2.1; have := b.2.2.1; omega, fun k h1 hk => (b.2.2.2 k h1 hk).trans (a.2.2.2 k h1 hk)⟩
theorem hh_G_w {ks js : List Nat} {m n m' n' : Nat} {h1 h2 : ev_AH} (a : hh_G ks m n h1 h2) (hs : ∀ k ∈ ks, k ∈ js) (hm : m ≤ m') (hn : n ≤ n') : hh_G js m' n' h1 h2 := ⟨a.1, Nat.le_trans a.2.1 (by omega), Nat.le_trans a.2.2.1 (by omega), fun k h1 hk => a.2.2.2 k h1 (fun h => hk (hs k h))⟩
theorem hh_G_x {ks : List Nat} {h : ev_AH} : hh_G ks 1 6 h (hh_x h) := ⟨Nat.le_refl _, Nat.le_refl _, Nat.le_refl _, fun _ _ _ => rfl⟩
theorem hh_G_a {ks : List Nat} {m n : Nat} {h h' : ev_AH} (a : hh_G ks m n h h') {k : Nat} (hk : k ∉ ks) (h1 : k < 111) : hh_a h' k = hh_a h k := by
  simp only [hh_a, a.2.2.2 k h1 hk]
theorem hh_G_v {ks : List Nat} {m n : Nat} {h h' : ev_AH} (a : hh_G ks m n h h') {k : Nat} (hk : k ∉ ks) (h1 : k < 111) : hh_v h' k = hh_v h k := by
  simp only [hh_v, a.2.2.2 k h1 hk]
theorem hh_G_i {ks : List Nat} {m n : Nat} {h h' : ev_AH} (a : hh_G ks m n h h') {k sl : Nat} (hk : k ∉ ks) (h1 : k < 111) : hh_i h' k sl = hh_i h k sl := by
  simp only [hh_i, hh_G_v a hk h1]
theorem sb_F {ks : List Nat} {h h' : ev_AH} {k : Nat} {l : List Int32} (a : hh_F ks h h') (h1 : k ∉ ks) (h2 : k + 1 ∉ ks) (h3 : ∀ j ∈ ks, j < 111) (s : sb h k l) : sb h' k l := by
  obtain ⟨s1, s2, c, b, s3, s4, s5, s6⟩ := s
  refine ⟨by rw [hh_F_i a h1]; exact s1, by rw [hh_F_i a h1]; exact s2, c, b, by rw [hh_F_v a h1]; exact s3, ?_, s5, s6⟩
  rw [a.2.2 c (fun hc => ?_)]
  · exact s4
  · rcases s5 with ⟨e, _⟩ | e
    · exact h2 (e ▸ hc)
    · exact absurd (h3 c hc) (by omega)
theorem sb_iv {h h' : ev_AH} {k sl : Nat} (e : hh_v h k = hh_v h' k) : hh_i h k sl = hh_i h' k sl := by
  simp only [hh_i, e]
theorem sb_x {h : ev_AH} {k : Nat} {l : List Int32} (s : sb h k l) : sb (hh_x h) k l := s
/-- a cell behind the table may be anything -/
theorem hh_L_hi {h : ev_AH} (hL : hh_L h) {k : Nat} {c : ev_AC} (hk : 111 ≤ k) : hh_L (h.1.set k c, h.2) := fun j t hj => by
  obtain ⟨c', h1, h2⟩ := hL j t hj
  have hlt : j < 111 := by
    have := (List.getElem?_eq_some_iff.mp hj).1
    rw [hh_t_len] at this
    exact this
  have hne : k ≠ j := by omega
  exact ⟨c', by simp only [List.getElem?_set_ne hne]; exact h1, h2⟩
theorem sb_sr (x : Int32) : x >>> ((0 : Int32) &&& 31) = x := by
  rw [show (0 : Int32) &&& 31 = 0 by decide]
  simp
theorem sb_sl (x : Int32) : x <<< ((0 : Int32) &&& 31) = x := by
  rw [show (0 : Int32) &&& 31 = 0 by decide]
  simp
theorem ii_su {m n : Nat} (hm : m < 1000000) (hn : n < 1000000) : (Int32.ofNat m - Int32.ofNat n).toInt = (m : Int) - n := by
  rw [Int32.toInt_sub, ii_ti (by omega), ii_ti (by omega)]
  exact Int.bmod_eq_of_le (by omega) (by omega)
theorem sb_and : ∀ k, k < 128 → (((Int32.ofNat k) &&& 255).toUInt32 % 65536).toInt32 = Int32.ofNat k := by decide +kernel
theorem sb_b8 : ∀ k, k < 128 → (Int32.ofNat k).toInt8.toInt32 = Int32.ofNat k := by decide +kernel
theorem sb_nar : ∀ k, k < 128 → vp_nar .byte (Int32.ofNat k) = Int32.ofNat k := by decide +kernel
theorem sb_fit : ∀ k, k < 128 → fits .byte (.int (Int32.ofNat k)) = true := by decide +kernel
theorem sb_ch {x : Int32} (hx : sb_c x) : tr_ch x := by
  obtain ⟨k, hk, rfl⟩ := hx
  exact ⟨ii_nn (by omega), (ii_lt (b := 65536) (by omega) (by omega)).mpr (by omega)⟩
theorem sb_getD {l b : List Int32} {j : Nat} (h : b.take l.length = l) (hj : j < l.length) : b.getD j 0 = l.getD j 0 := by
  rw [List.getD, List.getD]
  conv => rhs; rw [← h]
  rw [List.getElem?_take, if_pos hj]
theorem sb_memD {l : List Int32} (h : ∀ x ∈ l, sb_c x) {j : Nat} (hj : j < l.length) : sb_c (l.getD j 0) := by
  rw [List.getD, List.getElem?_eq_getElem hj]
  exact h _ (List.getElem_mem hj)
section
variable {g : tr_g} {d : Nat} {h : ev_AH}
theorem sp_check {j n : Nat} (hL : hh_L h) (hg : ev_cat1 g.2 = true) (hj : j < n) (hn : n < 2147483648) : tr_L g (d + 1) m_J0_checkIndex_df160 0 [some (.int (Int32.ofNat j)), some (.int (Int32.ofNat n))] [] h (.inl none, h) :=
  sg_J0_checkIndex_df160_0 hL hg (c_0 := sg_J3_checkIndex_8e157_0 hL (fun t => absurd t (Int32.not_lt.mpr (ii_nn (by omega)))) (fun _ => sg_J3_checkIndex_8e157_4 hL (fun _ => sg_J3_checkIndex_8e157_16 hL rfl) (fun t => absurd ((ii_le hn (by omega)).mp t) (by omega)))) (hr := rfl)
theorem sp_canE {x : Int32} (hL : hh_L h) (hx : sb_c x) : tr_L g d m_J1_canEncode_fc78d 0 [some (.int x)] [] h (.inl (some (.int 1)), h) := by
  obtain ⟨k, hk, rfl⟩ := hx
  exact sg_J1_canEncode_fc78d_0 hL (fun t => absurd ((ii_lt (a := 255) (by omega) (by omega)).mp t) (by omega)) (fun _ => sg_J1_canEncode_fc78d_7 hL rfl)
/-- the length that a grown array gets -/
theorem sp_newLen {m n : Nat} (hL : hh_L h) (h1 : n ≤ m) (h2 : m ≤ 2 * n + 2) (h3 : n < 1000) : tr_L g d m_J8_newLength_cabcc 0 [some (.int (Int32.ofNat n)), some (.int (Int32.ofNat m - Int32.ofNat n)), some (.int (Int32.ofNat n + 2)), none] [] h (.inl (some (.int (Int32.ofNat (2 * n + 2)))), h) := by
  have e : (if Int32.ofNat m - Int32.ofNat n < Int32.ofNat n + 2 then Int32.ofNat n + 2 else Int32.ofNat m - Int32.ofNat n) = Int32.ofNat (n + 2) := by
    rw [show (2 : Int32) = Int32.ofNat 2 from rfl, ii_a, ii_u _ _ h1]
    by_cases hlt : m - n < n + 2
    · rw [if_pos ((ii_lt (by omega) (by omega)).mpr hlt)]
    · rw [if_neg (fun c => hlt ((ii_lt (by omega) (by omega)).mp c))]
      congr 1
      omega
  refine sg_J8_newLength_cabcc_0 hL (fun t => ?_) (fun _ => ?_)
  · rw [e, ii_a] at t
    exact absurd ((ii_le (b := 0) (by omega) (by omega)).mp t) (by omega)
  · rw [e, ii_a]
    refine sg_J8_newLength_cabcc_13 hL (fun t => absurd ((ii_lt (a := 2147483639) (by omega) (by omega)).mp t) (by omega)) (fun _ => sg_J8_newLength_cabcc_19 hL ?_)
    rw [show n + (n + 2) = 2 * n + 2 by omega]
theorem ht94 : hh_t[94]? = some (.inr (9, [1, 0, 0, 0])) := rfl
theorem sb_len_t {l : List Int32} (hL : hh_L h) (s : sb h 94 l) : tr_L g (d + 1) m_J4_length_8abf5 0 [some (.ref 1094)] [] h (.inl (some (.int (Int32.ofNat l.length))), h) :=
  sg_J4_length_8abf5_t_0 hL (c_0 := sg_J5_length_8abf5_t_0 hL rfl) (hr := by rw [s.2.1])
theorem sb_lat_t {l : List Int32} (hL : hh_L h) (s : hh_i h 94 1 = 0) : tr_L g d m_J5_isLatin1_aae02 0 [some (.ref 1094)] [] h (.inl (some (.int 1)), h) :=
  sg_J5_isLatin1_aae02_t_0 hL (fun t => absurd t (by decide)) (fun _ => sg_J5_isLatin1_aae02_t_6 hL (fun t => absurd s t) (fun _ => sg_J5_isLatin1_aae02_t_13 hL rfl))
theorem sb_at_t {l : List Int32} {j : Nat} (hL : hh_L h) (hg : ev_cat1 g.2 = true) (s : sb h 94 l) (hj : j < l.length) : tr_L g (d + 3) m_J4_charAt_5068e 0 [some (.ref 1094), some (.int (Int32.ofNat j))] [] h (.inl (some (.int (l.getD j 0))), h) := by
  obtain ⟨s1, s2, c, b, s3, s4, s5, s6, s7, s8, s9, s10⟩ := s
  have hv := sb_memD s10 (j := j) (by omega)
  have hz : b.length < 2147483648 := by omega
  have ee : (if ((Int32.ofNat b.length) >>> ((hh_i h 94 1) &&& 31)) < (hh_i h 94 3) then ((Int32.ofNat b.length) >>> ((hh_i h 94 1) &&& 31)) else (hh_i h 94 3)) = Int32.ofNat l.length := by
    rw [s1, s2, sb_sr]
    exact if_neg (fun c => absurd ((ii_lt (by omega) (by omega)).mp c) (by omega))
  have ec : (((b.getD j 0) &&& 255).toUInt32 % 65536).toInt32 = l.getD j 0 := by
    obtain ⟨k, hk, e⟩ := hv
    rw [← sb_getD s9 hj, e, sb_and k hk]
  refine sg_J4_charAt_5068e_t_0 hL (v0 := l.getD j 0) (c_0 := ?_) (hc0 := ?_) (hr := rfl)
  · refine sg_J5_charAt_5068e_t_0 hL s3 s4 hz (h1 := h) (by rw [ee]; exact sp_check hL hg hj (by omega)) (fun t => absurd s1 t) (fun _ => ?_)
    refine sg_J5_charAt_5068e_t_33 hL (e0 := rfl) (m0 := s4) (z0 := hz) (b0 := by omega) (hc0 := ?_) (hr := by rw [ec])
    rw [ec, ← sb_getD s9 hj]
    exact sb_ch hv
  · rw [← sb_getD s9 hj]
    exact sb_ch hv
theorem sb_ens_t {m a : Nat} {b : List Int32} (hL : hh_L h) (s1 : hh_i h 94 1 = 0) (s3 : (hh_v h 94)[0]? = some (.ref (a + 1000))) (s4 : h.1[a]? = some (.inl (2, b))) (hb : b.length < 1000) (hm : m ≤ b.length) : tr_L g d m_J5_ensureCapacityInternal_d00df 0 [some (.ref 1094), some (.int (Int32.ofNat m)), none] [] h (.inl none, h) := by
  refine sg_J5_ensureCapacityInternal_d00df_t_0 hL s3 s4 (by omega) (fun _ => sg_J5_ensureCapacityInternal_d00df_t_38 hL rfl) (fun t => ?_)
  rw [s1, sb_sr, Int32.lt_iff_toInt_lt, ii_su (by omega) (by omega)] at t
  have e0 : (0 : Int32).toInt = 0 := by decide
  rw [e0] at t
  omega
theorem sb_clr_t {l : List Int32} (hL : hh_L h) (s : sb h 94 l) : ∃ h', tr_L g (d + 2) m_J4_setLength_d00df 0 [some (.ref 1094), some (.int 0)] [] h (.inl none, h') ∧ hh_F [94] h h' ∧ sb h' 94 [] := by
  obtain ⟨s1, s2, c, b, s3, s4, s5, s6, s7, s8, s9, s10⟩ := s
  have r1 := sb_ens_t (g := g) (d := d) (m := 0) hL s1 s3 s4 s7 (by omega)
  have hk := ht94
  have key : ∀ h1 : ev_AH, hh_L h1 → hh_F [94] h h1 → hh_i h1 94 1 = 0 → (hh_v h1 94)[0]? = some (.ref (c + 1000)) → hh_F [94] h (hh_si h1 94 9 3 0) ∧ sb (hh_si h1 94 9 3 0) 94 [] := by
    intro h1 hL1 F e1 e2
    refine ⟨hh_F_tr F (hh_F_si (by decide)), ?_, ?_, c, b, ?_, ?_, s5, by simp, s7, s8, rfl, s10⟩
    · rw [hh_i_sis hL1 hk (by decide), if_neg (by decide)]; exact e1
    · rw [hh_i_sis hL1 hk (by decide), if_pos rfl]; rfl
    · rw [hh_v_si (hh_L_lt hL1 (by decide)), if_pos rfl, List.getElem?_set_ne (by decide)]; exact e2
    · have hne : 94 ≠ c := by
        rcases s5 with ⟨e, _⟩ | e <;> omega
      have : (hh_si h1 94 9 3 0).1[c]? = h1.1[c]? := by simp [hh_si, hne]
      rw [this, F.2.2 c (by simp; omega)]
      exact s4
  by_cases hz : l.length = 0
  · have := key h hL hh_F_rf s1 s3
    refine ⟨hh_si h 94 9 3 0, sg_J4_setLength_d00df_t_0 hL (c_0 := sg_J5_setLength_d00df_t_0 hL (fun _ => sg_J5_setLength_d00df_t_13 hL r1 (fun _ => sg_J5_setLength_d00df_t_63 hL (fun _ => sg_J5_setLength_d00df_t_76 hL rfl) (fun t => ?_)) (fun t => ?_)) (fun t => absurd t (by decide))) (hr := rfl), this.1, this.2⟩
    · rw [s2, hz] at t
      exact absurd t (by decide)
    · rw [s2, hz] at t
      exact absurd t (by decide)
  · have hL1 := hh_L_si (sl := 2) (x := 1) hL hk rfl
    have := key (hh_si h 94 9 2 1) hL1 (hh_F_si (by decide)) (by rw [hh_i_sis hL hk (by decide), if_neg (by decide)]; exact s1) (by rw [hh_v_si (hh_L_lt hL (by decide)), if_pos rfl, List.getElem?_set_ne (by decide)]; exact s3)
    refine ⟨hh_si (hh_si h 94 9 2 1) 94 9 3 0, sg_J4_setLength_d00df_t_0 hL (c_0 := sg_J5_setLength_d00df_t_0 hL (fun _ => sg_J5_setLength_d00df_t_13 hL r1 (fun _ => sg_J5_setLength_d00df_t_63 hL (fun t => ?_) (fun _ => sg_J5_setLength_d00df_t_71 hL (sg_J5_setLength_d00df_t_76 hL1 rfl))) (fun t => ?_)) (fun t => absurd t (by decide))) (hr := rfl), this.1, this.2⟩
    · rw [s2] at t
      exact absurd ((ii_le (b := 0) (by omega) (by omega)).mp t) (by omega)
    · rw [s2] at t
      exact absurd ((ii_lt (b := 0) (by omega) (by omega)).mp t) (by omega)
/-- a character put behind the others, where there is room -/
theorem sb_put_t {l b : List Int32} {x : Int32} {c : Nat} (hL : hh_L h) (hx : sb_c x) (s1 : hh_i h 94 1 = 0) (s2 : hh_i h 94 3 = Int32.ofNat l.length) (s3 : (hh_v h 94)[0]? = some (.ref (c + 1000))) (s4 : h.1[c]? = some (.inl (2, b))) (s5 : (c = 94 + 1 ∧ b.length = 16) ∨ 111 ≤ c) (s7 : b.length < 1000) (s8 : b.length = 16 ∨ b.length = 34 ∨ b.length = 70) (s9 : b.take l.length = l) (s10 : ∀ x ∈ b, sb_c x) (hlt : l.length < b.length) : ∃ h', tr_L g (d + 1) m_J5_append_3fe6f 24 [some (.ref 1094), some (.int x)] [] h (.inl (some (.ref 1094)), h') ∧ hh_F [94, c] h h' ∧ sb h' 94 (l ++ [x]) := by
  have hk := ht94
  obtain ⟨k, hk8, rfl⟩ := hx
  have hL1 := hh_L_si (sl := 3) (x := hh_i h 94 3 + 1) hL hk rfl
  have hne : 94 ≠ c := by
    rcases s5 with ⟨e, _⟩ | e <;> omega
  have m0 : (hh_si h 94 9 3 (hh_i h 94 3 + 1)).1[c]? = some (.inl (2, b)) := by simp [hh_si, hne]; exact s4
  have hcl : c < h.1.length := (List.getElem?_eq_some_iff.mp s4).1
  have hL2 : hh_L (ev_wr (hh_si h 94 9 3 (hh_i h 94 3 + 1)) (c + 1000) (.inl (2, b.set l.length (Int32.ofNat k).toInt8.toInt32))) := by
    rcases s5 with ⟨e, e2⟩ | e
    · subst e
      exact hh_L_sa (t := 2) (n := 16) hL1 rfl (by rw [List.length_set]; exact e2)
    · exact hh_L_hi hL1 (by omega)
  refine ⟨_, sg_J5_append_3fe6f_t_24 hL (p0 := s3) (e0 := s2) (hb0 := by rw [sb_b8 k hk8, sb_nar k hk8]) (m0 := m0) (z0 := by omega) (b0 := hlt) (hr := rfl) (hLe := hL2), ?_, ?_⟩
  · refine hh_F_tr (h2 := hh_si h 94 9 3 (hh_i h 94 3 + 1)) (hh_F_si (by simp)) ?_
    exact hh_F_sa (by simp)
  · have q : ∀ j, c ≠ j → (ev_wr (hh_si h 94 9 3 (hh_i h 94 3 + 1)) (c + 1000) (.inl (2, b.set l.length (Int32.ofNat k).toInt8.toInt32))).1[j]? = (hh_si h 94 9 3 (hh_i h 94 3 + 1)).1[j]? := fun j hj => by
      simp only [ev_wr, Nat.add_sub_cancel]
      rw [List.getElem?_set_ne hj]
    have qv : hh_v (ev_wr (hh_si h 94 9 3 (hh_i h 94 3 + 1)) (c + 1000) (.inl (2, b.set l.length (Int32.ofNat k).toInt8.toInt32))) 94 = hh_v (hh_si h 94 9 3 (hh_i h 94 3 + 1)) 94 := by
      simp only [hh_v, q 94 (Ne.symm hne)]
    have qi : ∀ sl, hh_i (ev_wr (hh_si h 94 9 3 (hh_i h 94 3 + 1)) (c + 1000) (.inl (2, b.set l.length (Int32.ofNat k).toInt8.toInt32))) 94 sl = hh_i (hh_si h 94 9 3 (hh_i h 94 3 + 1)) 94 sl := fun sl => sb_iv qv
    refine ⟨?_, ?_, c, b.set l.length (Int32.ofNat k), ?_, ?_, ?_, ?_, ?_, ?_, ?_, ?_⟩
    · rw [qi, hh_i_sis hL hk (by decide), if_neg (by decide)]; exact s1
    · rw [qi, hh_i_sis hL hk (by decide), if_pos rfl, s2, ii_s, List.length_append]; rfl
    · rw [qv, hh_v_si (hh_L_lt hL (by decide)), if_pos rfl, List.getElem?_set_ne (by decide)]; exact s3
    · simp only [ev_wr, Nat.add_sub_cancel]
      rw [List.getElem?_set_self (by simp [hh_si]; exact hcl), sb_b8 k hk8]
    · rw [List.length_set]; exact s5
    · simp; omega
    · rw [List.length_set]; exact s7
    · rw [List.length_set]; exact s8
    · rw [List.length_append, List.length_singleton, List.take_succ, List.take_set_of_le (Nat.le_refl _), s9, List.getElem?_set_self hlt]
      rfl
    · intro y hy
      rcases List.mem_or_eq_of_mem_set hy with h' | rfl
      · exact s10 y h'
      · exact ⟨k, hk8, rfl⟩
/-- append, where there is room -/
theorem sb_app_t {l : List Int32} {x : Int32} (hL : hh_L h) (hx : sb_c x) (s : sb h 94 l) (hr : l.length < 16) : ∃ h' c, tr_L g (d + 2) m_J4_append_cf468 0 [some (.ref 1094), some (.int x)] [] h (.inl (some (.ref 1094)), h') ∧ hh_F [94, c] h h' ∧ (c = 94 + 1 ∨ 111 ≤ c) ∧ sb h' 94 (l ++ [x]) := by
  obtain ⟨s1, s2, c, b, s3, s4, s5, s6, s7, s8, s9, s10⟩ := s
  have hlt : l.length < b.length := by omega
  obtain ⟨h', r1, r2, r3⟩ := sb_put_t (g := g) (d := d) hL hx s1 s2 s3 s4 s5 s7 s8 s9 s10 hlt
  have e1 : hh_i h 94 3 + 1 = Int32.ofNat (l.length + 1) := by rw [s2, ii_s]
  refine ⟨h', c, sg_J4_append_cf468_t_0 hL (c_0 := sg_J5_append_3fe6f_t_0 hL (h1 := h) (h2 := h) (v0 := 1) (by rw [e1]; exact sb_ens_t hL s1 s3 s4 s7 (by omega)) (sb_lat_t (l := l) hL s1) (fun t => absurd t (by decide)) (fun _ => sg_J5_append_3fe6f_t_17 hL (sp_canE hL hx) (fun t => absurd t (by decide)) (fun _ => r1))) (hr := rfl), r2, ?_, r3⟩
  rcases s5 with ⟨e, _⟩ | e
  · exact Or.inl e
  · exact Or.inr e
theorem ht96 : hh_t[96]? = some (.inr (9, [1, 0, 0, 0])) := rfl
theorem sb_len_o {l : List Int32} (hL : hh_L h) (s : sb h 96 l) : tr_L g (d + 1) m_J4_length_8abf5 0 [some (.ref 1096)] [] h (.inl (some (.int (Int32.ofNat l.length))), h) :=
  sg_J4_length_8abf5_o_0 hL (c_0 := sg_J5_length_8abf5_o_0 hL rfl) (hr := by rw [s.2.1])
theorem sb_lat_o {l : List Int32} (hL : hh_L h) (s : hh_i h 96 1 = 0) : tr_L g d m_J5_isLatin1_aae02 0 [some (.ref 1096)] [] h (.inl (some (.int 1)), h) :=
  sg_J5_isLatin1_aae02_o_0 hL (fun t => absurd t (by decide)) (fun _ => sg_J5_isLatin1_aae02_o_6 hL (fun t => absurd s t) (fun _ => sg_J5_isLatin1_aae02_o_13 hL rfl))
theorem sb_at_o {l : List Int32} {j : Nat} (hL : hh_L h) (hg : ev_cat1 g.2 = true) (s : sb h 96 l) (hj : j < l.length) : tr_L g (d + 3) m_J4_charAt_5068e 0 [some (.ref 1096), some (.int (Int32.ofNat j))] [] h (.inl (some (.int (l.getD j 0))), h) := by
  obtain ⟨s1, s2, c, b, s3, s4, s5, s6, s7, s8, s9, s10⟩ := s
  have hv := sb_memD s10 (j := j) (by omega)
  have hz : b.length < 2147483648 := by omega
  have ee : (if ((Int32.ofNat b.length) >>> ((hh_i h 96 1) &&& 31)) < (hh_i h 96 3) then ((Int32.ofNat b.length) >>> ((hh_i h 96 1) &&& 31)) else (hh_i h 96 3)) = Int32.ofNat l.length := by
    rw [s1, s2, sb_sr]
    exact if_neg (fun c => absurd ((ii_lt (by omega) (by omega)).mp c) (by omega))
  have ec : (((b.getD j 0) &&& 255).toUInt32 % 65536).toInt32 = l.getD j 0 := by
    obtain ⟨k, hk, e⟩ := hv
    rw [← sb_getD s9 hj, e, sb_and k hk]
  refine sg_J4_charAt_5068e_o_0 hL (v0 := l.getD j 0) (c_0 := ?_) (hc0 := ?_) (hr := rfl)
  · refine sg_J5_charAt_5068e_o_0 hL s3 s4 hz (h1 := h) (by rw [ee]; exact sp_check hL hg hj (by omega)) (fun t => absurd s1 t) (fun _ => ?_)
    refine sg_J5_charAt_5068e_o_33 hL (e0 := rfl) (m0 := s4) (z0 := hz) (b0 := by omega) (hc0 := ?_) (hr := by rw [ec])
    rw [ec, ← sb_getD s9 hj]
    exact sb_ch hv
  · rw [← sb_getD s9 hj]
    exact sb_ch hv
theorem sb_ens_o {m a : Nat} {b : List Int32} (hL : hh_L h) (s1 : hh_i h 96 1 = 0) (s3 : (hh_v h 96)[0]? = some (.ref (a + 1000))) (s4 : h.1[a]? = some (.inl (2, b))) (hb : b.length < 1000) (hm : m ≤ b.length) : tr_L g d m_J5_ensureCapacityInternal_d00df 0 [some (.ref 1096), some (.int (Int32.ofNat m)), none] [] h (.inl none, h) := by
  refine sg_J5_ensureCapacityInternal_d00df_o_0 hL s3 s4 (by omega) (fun _ => sg_J5_ensureCapacityInternal_d00df_o_38 hL rfl) (fun t => ?_)
  rw [s1, sb_sr, Int32.lt_iff_toInt_lt, ii_su (by omega) (by omega)] at t
  have e0 : (0 : Int32).toInt = 0 := by decide
  rw [e0] at t
  omega
theorem sb_clr_o {l : List Int32} (hL : hh_L h) (s : sb h 96 l) : ∃ h', tr_L g (d + 2) m_J4_setLength_d00df 0 [some (.ref 1096), some (.int 0)] [] h (.inl none, h') ∧ hh_F [96] h h' ∧ sb h' 96 [] := by
  obtain ⟨s1, s2, c, b, s3, s4, s5, s6, s7, s8, s9, s10⟩ := s
  have r1 := sb_ens_o (g := g) (d := d) (m := 0) hL s1 s3 s4 s7 (by omega)
  have hk := ht96
  have key : ∀ h1 : ev_AH, hh_L h1 → hh_F [96] h h1 → hh_i h1 96 1 = 0 → (hh_v h1 96)[0]? = some (.ref (c + 1000)) → hh_F [96] h (hh_si h1 96 9 3 0) ∧ sb (hh_si h1 96 9 3 0) 96 [] := by
    intro h1 hL1 F e1 e2
    refine ⟨hh_F_tr F (hh_F_si (by decide)), ?_, ?_, c, b, ?_, ?_, s5, by simp, s7, s8, rfl, s10⟩
    · rw [hh_i_sis hL1 hk (by decide), if_neg (by decide)]; exact e1
    · rw [hh_i_sis hL1 hk (by decide), if_pos rfl]; rfl
    · rw [hh_v_si (hh_L_lt hL1 (by decide)), if_pos rfl, List.getElem?_set_ne (by decide)]; exact e2
    · have hne : 96 ≠ c := by
        rcases s5 with ⟨e, _⟩ | e <;> omega
      have : (hh_si h1 96 9 3 0).1[c]? = h1.1[c]? := by simp [hh_si, hne]
      rw [this, F.2.2 c (by simp; omega)]
      exact s4
  by_cases hz : l.length = 0
  · have := key h hL hh_F_rf s1 s3
    refine ⟨hh_si h 96 9 3 0, sg_J4_setLength_d00df_o_0 hL (c_0 := sg_J5_setLength_d00df_o_0 hL (fun _ => sg_J5_setLength_d00df_o_13 hL r1 (fun _ => sg_J5_setLength_d00df_o_63 hL (fun _ => sg_J5_setLength_d00df_o_76 hL rfl) (fun t => ?_)) (fun t => ?_)) (fun t => absurd t (by decide))) (hr := rfl), this.1, this.2⟩
    · rw [s2, hz] at t
      exact absurd t (by decide)
    · rw [s2, hz] at t
      exact absurd t (by decide)
  · have hL1 := hh_L_si (sl := 2) (x := 1) hL hk rfl
    have := key (hh_si h 96 9 2 1) hL1 (hh_F_si (by decide)) (by rw [hh_i_sis hL hk (by decide), if_neg (by decide)]; exact s1) (by rw [hh_v_si (hh_L_lt hL (by decide)), if_pos rfl, List.getElem?_set_ne (by decide)]; exact s3)
    refine ⟨hh_si (hh_si h 96 9 2 1) 96 9 3 0, sg_J4_setLength_d00df_o_0 hL (c_0 := sg_J5_setLength_d00df_o_0 hL (fun _ => sg_J5_setLength_d00df_o_13 hL r1 (fun _ => sg_J5_setLength_d00df_o_63 hL (fun t => ?_) (fun _ => sg_J5_setLength_d00df_o_71 hL (sg_J5_setLength_d00df_o_76 hL1 rfl))) (fun t => ?_)) (fun t => absurd t (by decide))) (hr := rfl), this.1, this.2⟩
    · rw [s2] at t
      exact absurd ((ii_le (b := 0) (by omega) (by omega)).mp t) (by omega)
    · rw [s2] at t
      exact absurd ((ii_lt (b := 0) (by omega) (by omega)).mp t) (by omega)
/-- a character put behind the others, where there is room -/
theorem sb_put_o {l b : List Int32} {x : Int32} {c : Nat} (hL : hh_L h) (hx : sb_c x) (s1 : hh_i h 96 1 = 0) (s2 : hh_i h 96 3 = Int32.ofNat l.length) (s3 : (hh_v h 96)[0]? = some (.ref (c + 1000))) (s4 : h.1[c]? = some (.inl (2, b))) (s5 : (c = 96 + 1 ∧ b.length = 16) ∨ 111 ≤ c) (s7 : b.length < 1000) (s8 : b.length = 16 ∨ b.length = 34 ∨ b.length = 70) (s9 : b.take l.length = l) (s10 : ∀ x ∈ b, sb_c x) (hlt : l.length < b.length) : ∃ h', tr_L g (d + 1) m_J5_append_3fe6f 24 [some (.ref 1096), some (.int x)] [] h (.inl (some (.ref 1096)), h') ∧ hh_F [96, c] h h' ∧ sb h' 96 (l ++ [x]) := by
  have hk := ht96
  obtain ⟨k, hk8, rfl⟩ := hx
  have hL1 := hh_L_si (sl := 3) (x := hh_i h 96 3 + 1) hL hk rfl
  have hne : 96 ≠ c := by
    rcases s5 with ⟨e, _⟩ | e <;> omega
  have m0 : (hh_si h 96 9 3 (hh_i h 96 3 + 1)).1[c]? = some (.inl (2, b)) := by simp [hh_si, hne]; exact s4
  have hcl : c < h.1.length := (List.getElem?_eq_some_iff.mp s4).1
  have hL2 : hh_L (ev_wr (hh_si h 96 9 3 (hh_i h 96 3 + 1)) (c + 1000) (.inl (2, b.set l.length (Int32.ofNat k).toInt8.toInt32))) := by
    rcases s5 with ⟨e, e2⟩ | e
    · subst e
      exact hh_L_sa (t := 2) (n := 16) hL1 rfl (by rw [List.length_set]; exact e2)
    · exact hh_L_hi hL1 (by omega)
  refine ⟨_, sg_J5_append_3fe6f_o_24 hL (p0 := s3) (e0 := s2) (hb0 := by rw [sb_b8 k hk8, sb_nar k hk8]) (m0 := m0) (z0 := by omega) (b0 := hlt) (hr := rfl) (hLe := hL2), ?_, ?_⟩
  · refine hh_F_tr (h2 := hh_si h 96 9 3 (hh_i h 96 3 + 1)) (hh_F_si (by simp)) ?_
    exact hh_F_sa (by simp)
  · have q : ∀ j, c ≠ j → (ev_wr (hh_si h 96 9 3 (hh_i h 96 3 + 1)) (c + 1000) (.inl (2, b.set l.length (Int32.ofNat k).toInt8.toInt32))).1[j]? = (hh_si h 96 9 3 (hh_i h 96 3 + 1)).1[j]? := fun j hj => by
      simp only [ev_wr, Nat.add_sub_cancel]
      rw [List.getElem?_set_ne hj]
    have qv : hh_v (ev_wr (hh_si h 96 9 3 (hh_i h 96 3 + 1)) (c + 1000) (.inl (2, b.set l.length (Int32.ofNat k).toInt8.toInt32))) 96 = hh_v (hh_si h 96 9 3 (hh_i h 96 3 + 1)) 96 := by
      simp only [hh_v, q 96 (Ne.symm hne)]
    have qi : ∀ sl, hh_i (ev_wr (hh_si h 96 9 3 (hh_i h 96 3 + 1)) (c + 1000) (.inl (2, b.set l.length (Int32.ofNat k).toInt8.toInt32))) 96 sl = hh_i (hh_si h 96 9 3 (hh_i h 96 3 + 1)) 96 sl := fun sl => sb_iv qv
    refine ⟨?_, ?_, c, b.set l.length (Int32.ofNat k), ?_, ?_, ?_, ?_, ?_, ?_, ?_, ?_⟩
    · rw [qi, hh_i_sis hL hk (by decide), if_neg (by decide)]; exact s1
    · rw [qi, hh_i_sis hL hk (by decide), if_pos rfl, s2, ii_s, List.length_append]; rfl
    · rw [qv, hh_v_si (hh_L_lt hL (by decide)), if_pos rfl, List.getElem?_set_ne (by decide)]; exact s3
    · simp only [ev_wr, Nat.add_sub_cancel]
      rw [List.getElem?_set_self (by simp [hh_si]; exact hcl), sb_b8 k hk8]
    · rw [List.length_set]; exact s5
    · simp; omega
    · rw [List.length_set]; exact s7
    · rw [List.length_set]; exact s8
    · rw [List.length_append, List.length_singleton, List.take_succ, List.take_set_of_le (Nat.le_refl _), s9, List.getElem?_set_self hlt]
      rfl
    · intro y hy
      rcases List.mem_or_eq_of_mem_set hy with h' | rfl
      · exact s10 y h'
      · exact ⟨k, hk8, rfl⟩
/-- append, where there is room -/
theorem sb_app_o {l : List Int32} {x : Int32} (hL : hh_L h) (hx : sb_c x) (s : sb h 96 l) (hr : l.length < 16) : ∃ h' c, tr_L g (d + 2) m_J4_append_cf468 0 [some (.ref 1096), some (.int x)] [] h (.inl (some (.ref 1096)), h') ∧ hh_F [96, c] h h' ∧ (c = 96 + 1 ∨ 111 ≤ c) ∧ sb h' 96 (l ++ [x]) := by
  obtain ⟨s1, s2, c, b, s3, s4, s5, s6, s7, s8, s9, s10⟩ := s
  have hlt : l.length < b.length := by omega
  obtain ⟨h', r1, r2, r3⟩ := sb_put_o (g := g) (d := d) hL hx s1 s2 s3 s4 s5 s7 s8 s9 s10 hlt
  have e1 : hh_i h 96 3 + 1 = Int32.ofNat (l.length + 1) := by rw [s2, ii_s]
  refine ⟨h', c, sg_J4_append_cf468_o_0 hL (c_0 := sg_J5_append_3fe6f_o_0 hL (h1 := h) (h2 := h) (v0 := 1) (by rw [e1]; exact sb_ens_o hL s1 s3 s4 s7 (by omega)) (sb_lat_o (l := l) hL s1) (fun t => absurd t (by decide)) (fun _ => sg_J5_append_3fe6f_o_17 hL (sp_canE hL hx) (fun t => absurd t (by decide)) (fun _ => r1))) (hr := rfl), r2, ?_, r3⟩
  rcases s5 with ⟨e, _⟩ | e
  · exact Or.inl e
  · exact Or.inr e
end
