/-! TEXTS: what a StringBuilder holds, and its methods; words of the constant pool -/
/-- a character of seven bits -/
def sb_c (x : Int32) : Prop := ∃ k : Nat, k < 128 ∧ x = Int32.ofNat k
/-- the StringBuilder of cell k holds l -/
def sb (h : ev_AH) (k : Nat) (l : List Int32) : Prop := hh_i h k 1 = 0 ∧ hh_i h k 3 = Int32.ofNat l.length ∧ ∃ (a : Nat) (b : List Int32), (hh_v h k)[0]? = some (.ref (a + 1000)) ∧ h.1[a]? = some (.inl (2, b)) ∧ ((a = k + 1 ∧ b.length = 16) ∨ 99 ≤ a ∧ 30 ≤ b.length) ∧ l.length ≤ b.length ∧ b.length < 1000 ∧ (b.length = 16 ∨ b.length = 34 ∨ b.length = 70) ∧ b.take l.length = l ∧ ∀ x ∈ b, sb_c x
/-- cells behind the table that no call of the class changes: all but long arrays of bytes -/
def hk_ok : ev_AC → Prop
  | .inl (2, l) => l.length < 30
  | _ => True
/-- frames where something may have been made too -/
def hh_G (ks : List Nat) (m n : Nat) (h h' : ev_AH) : Prop := h.1.length ≤ h'.1.length ∧ h'.2.1 ≤ h.2.1 + m ∧ h'.2.2 ≤ h.2.2 + n ∧ (∀ k : Nat, k < 99 → k ∉ ks → h'.1[k]? = h.1[k]?) ∧ ∀ k : Nat, 99 ≤ k → ∀ c, h.1[k]? = some c → hk_ok c → h'.1[k]? = some c
theorem hh_G_of {ks : List Nat} {h h' : ev_AH} (a : hh_F ks h h') (h99 : ∀ k ∈ ks, k < 99) : hh_G ks 0 0 h h' := ⟨by rw [a.1]; exact Nat.le_refl _, by rw [a.2.1]; exact Nat.le_refl _, by rw [a.2.1]; exact Nat.le_refl _, fun k _ hk => a.2.2 k hk, fun k hk c hc _ => by rw [a.2.2 k (fun hm => by have := h99 k hm; omega)]; exact hc⟩
theorem hh_G_tr {ks : List Nat} {m n m' n' : Nat} {h1 h2 h3 : ev_AH} (a : hh_G ks m n h1 h2) (b : hh_G ks m' n' h2 h3) : hh_G ks (m + m') (n + n') h1 h3 := ⟨Nat.le_trans a.1 b.1, by have := a.2.1; have := b.2.1; omega, by have := a.2.2.1; have := b.2.2.1; omega, fun k h1 hk => (b.2.2.2.1 k h1 hk).trans (a.2.2.2.1 k h1 hk), fun k h1 c hc hk => b.2.2.2.2 k h1 c (a.2.2.2.2 k h1 c hc hk) hk⟩
theorem hh_G_w {ks js : List Nat} {m n m' n' : Nat} {h1 h2 : ev_AH} (a : hh_G ks m n h1 h2) (hs : ∀ k ∈ ks, k ∈ js) (hm : m ≤ m') (hn : n ≤ n') : hh_G js m' n' h1 h2 := ⟨a.1, Nat.le_trans a.2.1 (by omega), Nat.le_trans a.2.2.1 (by omega), fun k h1 hk => a.2.2.2.1 k h1 (fun h => hk (hs k h)), a.2.2.2.2⟩
theorem hh_G_x {ks : List Nat} {h : ev_AH} : hh_G ks 1 6 h (hh_x h) := ⟨Nat.le_refl _, Nat.le_refl _, Nat.le_refl _, fun _ _ _ => rfl, fun _ _ _ hc _ => hc⟩
theorem hh_G_a {ks : List Nat} {m n : Nat} {h h' : ev_AH} (a : hh_G ks m n h h') {k : Nat} (hk : k ∉ ks) (h1 : k < 99) : hh_a h' k = hh_a h k := by
  simp only [hh_a, a.2.2.2.1 k h1 hk]
theorem hh_G_v {ks : List Nat} {m n : Nat} {h h' : ev_AH} (a : hh_G ks m n h h') {k : Nat} (hk : k ∉ ks) (h1 : k < 99) : hh_v h' k = hh_v h k := by
  simp only [hh_v, a.2.2.2.1 k h1 hk]
theorem hh_G_i {ks : List Nat} {m n : Nat} {h h' : ev_AH} (a : hh_G ks m n h h') {k sl : Nat} (hk : k ∉ ks) (h1 : k < 99) : hh_i h' k sl = hh_i h k sl := by
  simp only [hh_i, hh_G_v a hk h1]
theorem sb_F {ks : List Nat} {h h' : ev_AH} {k : Nat} {l : List Int32} (a : hh_F ks h h') (h1 : k ∉ ks) (h2 : k + 1 ∉ ks) (h3 : ∀ j ∈ ks, j < 99) (s : sb h k l) : sb h' k l := by
  obtain ⟨s1, s2, c, b, s3, s4, s5, s6⟩ := s
  refine ⟨by rw [hh_F_i a h1]; exact s1, by rw [hh_F_i a h1]; exact s2, c, b, by rw [hh_F_v a h1]; exact s3, ?_, s5, s6⟩
  rw [a.2.2 c (fun hc => ?_)]
  · exact s4
  · rcases s5 with ⟨e, _⟩ | e
    · exact h2 (e ▸ hc)
    · exact absurd (h3 c hc) (by omega)
theorem sb_iv {h h' : ev_AH} {k sl : Nat} (e : hh_v h k = hh_v h' k) : hh_i h k sl = hh_i h' k sl := by
  simp only [hh_i, e]
theorem sb_iv2 {h h' : ev_AH} {k sl : Nat} (e : (hh_v h k)[sl]? = (hh_v h' k)[sl]?) : hh_i h k sl = hh_i h' k sl := by
  simp only [hh_i, e]
theorem sb_w94 {h : ev_AH} {v : Value} (hk : 94 < h.1.length) : hh_v (ev_wr h 1094 (.inr (9, (hh_v h 94).set 0 v))) 94 = (hh_v h 94).set 0 v := by
  have : (ev_wr h 1094 (.inr (9, (hh_v h 94).set 0 v))).1[94]? = some (.inr (9, (hh_v h 94).set 0 v)) := List.getElem?_set_self hk
  simp only [hh_v] at this ⊢
  rw [this]
theorem sb_w94i {h : ev_AH} {v : Value} {sl : Nat} (hk : 94 < h.1.length) (hs : 0 ≠ sl) : hh_i (ev_wr h 1094 (.inr (9, (hh_v h 94).set 0 v))) 94 sl = hh_i h 94 sl := by
  have e := sb_w94 (v := v) hk
  have q : (hh_v (ev_wr h 1094 (.inr (9, (hh_v h 94).set 0 v))) 94)[sl]? = (hh_v h 94)[sl]? := by rw [e, List.getElem?_set_ne hs]
  exact sb_iv2 q
theorem sb_x {h : ev_AH} {k : Nat} {l : List Int32} (s : sb h k l) : sb (hh_x h) k l := s
/-- a cell behind the table may be anything -/
theorem hh_L_hi {h : ev_AH} (hL : hh_L h) {k : Nat} {c : ev_AC} (hk : 99 ≤ k) : hh_L (h.1.set k c, h.2) := fun j t hj => by
  obtain ⟨c', h1, h2⟩ := hL j t hj
  have hlt : j < 99 := by
    have := (List.getElem?_eq_some_iff.mp hj).1
    rw [hh_t_len] at this
    exact this
  have hne : k ≠ j := by omega
  exact ⟨c', by simp only [List.getElem?_set_ne hne]; exact h1, h2⟩
theorem sb_sr (x : Int32) : x >>> ((0 : Int32) &&& 31) = x := by
  rw [show (0 : Int32) &&& 31 = 0 by decide]
  simp
theorem sb_sl (x : Int32) : x <<< ((0 : Int32) &&& 31) = x := by
  rw [show (0 : Int32) &&& 31 = 0 by decide]
  simp
theorem ii_su {m n : Nat} (hm : m < 1000000) (hn : n < 1000000) : (Int32.ofNat m - Int32.ofNat n).toInt = (m : Int) - n := by
  rw [Int32.toInt_sub, ii_ti (by omega), ii_ti (by omega)]
  exact Int.bmod_eq_of_le (by omega) (by omega)
theorem sb_and : ∀ k, k < 128 → (((Int32.ofNat k) &&& 255).toUInt32 % 65536).toInt32 = Int32.ofNat k := by decide +kernel
theorem sb_b8 : ∀ k, k < 128 → (Int32.ofNat k).toInt8.toInt32 = Int32.ofNat k := by decide +kernel
theorem sb_nar : ∀ k, k < 128 → vp_nar .byte (Int32.ofNat k) = Int32.ofNat k := by decide +kernel
theorem sb_fit : ∀ k, k < 128 → fits .byte (.int (Int32.ofNat k)) = true := by decide +kernel
theorem sb_ch {x : Int32} (hx : sb_c x) : tr_ch x := by
  obtain ⟨k, hk, rfl⟩ := hx
  exact ⟨ii_nn (by omega), (ii_lt (b := 65536) (by omega) (by omega)).mpr (by omega)⟩
theorem sb_getD {l b : List Int32} {j : Nat} (h : b.take l.length = l) (hj : j < l.length) : b.getD j 0 = l.getD j 0 := by
  rw [List.getD, List.getD]
  conv => rhs; rw [← h]
  rw [List.getElem?_take, if_pos hj]
theorem sb_memD {l : List Int32} (h : ∀ x ∈ l, sb_c x) {j : Nat} (hj : j < l.length) : sb_c (l.getD j 0) := by
  rw [List.getD, List.getElem?_eq_getElem hj]
  exact h _ (List.getElem_mem hj)
section
variable {g : tr_g} {d : Nat} {h : ev_AH}
theorem sp_check {j n : Nat} (hL : hh_L h) (hg : ev_cat1 g.2 = true) (hj : j < n) (hn : n < 2147483648) : tr_L g (d + 1) m_J0_checkIndex_df160 0 [some (.int (Int32.ofNat j)), some (.int (Int32.ofNat n))] [] h (.inl none, h) :=
  sg_J0_checkIndex_df160_0 hL hg (c_0 := sg_J3_checkIndex_8e157_0 hL (fun t => absurd t (Int32.not_lt.mpr (ii_nn (by omega)))) (fun _ => sg_J3_checkIndex_8e157_4 hL (fun _ => sg_J3_checkIndex_8e157_16 hL rfl) (fun t => absurd ((ii_le hn (by omega)).mp t) (by omega)))) (hr := rfl)
theorem sp_canE {x : Int32} (hL : hh_L h) (hx : sb_c x) : tr_L g d m_J1_canEncode_fc78d 0 [some (.int x)] [] h (.inl (some (.int 1)), h) := by
  obtain ⟨k, hk, rfl⟩ := hx
  exact sg_J1_canEncode_fc78d_0 hL (fun t => absurd ((ii_lt (a := 255) (by omega) (by omega)).mp t) (by omega)) (fun _ => sg_J1_canEncode_fc78d_7 hL rfl)
/-- the length that a grown array gets -/
theorem sp_newLen {m n : Nat} (hL : hh_L h) (h1 : n ≤ m) (h2 : m ≤ 2 * n + 2) (h3 : n < 1000) : tr_L g d m_J8_newLength_cabcc 0 [some (.int (Int32.ofNat n)), some (.int (Int32.ofNat m - Int32.ofNat n)), some (.int (Int32.ofNat n + 2)), none] [] h (.inl (some (.int (Int32.ofNat (2 * n + 2)))), h) := by
  have e : (if Int32.ofNat m - Int32.ofNat n < Int32.ofNat n + 2 then Int32.ofNat n + 2 else Int32.ofNat m - Int32.ofNat n) = Int32.ofNat (n + 2) := by
    rw [show (2 : Int32) = Int32.ofNat 2 from rfl, ii_a, ii_u _ _ h1]
    by_cases hlt : m - n < n + 2
    · rw [if_pos ((ii_lt (by omega) (by omega)).mpr hlt)]
    · rw [if_neg (fun c => hlt ((ii_lt (by omega) (by omega)).mp c))]
      congr 1
      omega
  refine sg_J8_newLength_cabcc_0 hL (fun t => ?_) (fun _ => ?_)
  · rw [e, ii_a] at t
    exact absurd ((ii_le (b := 0) (by omega) (by omega)).mp t) (by omega)
  · rw [e, ii_a]
    refine sg_J8_newLength_cabcc_13 hL (fun t => absurd ((ii_lt (a := 2147483639) (by omega) (by omega)).mp t) (by omega)) (fun _ => sg_J8_newLength_cabcc_19 hL ?_)
    rw [show n + (n + 2) = 2 * n + 2 by omega]
theorem ht94 : hh_t[94]? = some (.inr (9, [1, 0, 0, 0])) := rfl
theorem sb_len_t {l : List Int32} (hL : hh_L h) (s : sb h 94 l) : tr_L g (d + 1) m_J4_length_8abf5 0 [some (.ref 1094)] [] h (.inl (some (.int (Int32.ofNat l.length))), h) :=
  sg_J4_length_8abf5_t_0 hL (c_0 := sg_J5_length_8abf5_t_0 hL rfl) (hr := by rw [s.2.1])
theorem sb_lat_t {l : List Int32} (hL : hh_L h) (s : hh_i h 94 1 = 0) : tr_L g d m_J5_isLatin1_aae02 0 [some (.ref 1094)] [] h (.inl (some (.int 1)), h) :=
  sg_J5_isLatin1_aae02_t_0 hL (fun t => absurd t (by decide)) (fun _ => sg_J5_isLatin1_aae02_t_6 hL (fun t => absurd s t) (fun _ => sg_J5_isLatin1_aae02_t_13 hL rfl))
theorem sb_at_t {l : List Int32} {j : Nat} (hL : hh_L h) (hg : ev_cat1 g.2 = true) (s : sb h 94 l) (hj : j < l.length) : tr_L g (d + 3) m_J4_charAt_5068e 0 [some (.ref 1094), some (.int (Int32.ofNat j))] [] h (.inl (some (.int (l.getD j 0))), h) := by
  obtain ⟨s1, s2, c, b, s3, s4, s5, s6, s7, s8, s9, s10⟩ := s
  have hv := sb_memD s10 (j := j) (by omega)
  have hz : b.length < 2147483648 := by omega
  have ee : (if ((Int32.ofNat b.length) >>> ((hh_i h 94 1) &&& 31)) < (hh_i h 94 3) then ((Int32.ofNat b.length) >>> ((hh_i h 94 1) &&& 31)) else (hh_i h 94 3)) = Int32.ofNat l.length := by
    rw [s1, s2, sb_sr]
    exact if_neg (fun c => absurd ((ii_lt (by omega) (by omega)).mp c) (by omega))
  have ec : (((b.getD j 0) &&& 255).toUInt32 % 65536).toInt32 = l.getD j 0 := by
    obtain ⟨k, hk, e⟩ := hv
    rw [← sb_getD s9 hj, e, sb_and k hk]
  refine sg_J4_charAt_5068e_t_0 hL (v0 := l.getD j 0) (c_0 := ?_) (hc0 := ?_) (hr := rfl)
  · refine sg_J5_charAt_5068e_t_0 hL s3 s4 hz (h1 := h) (by rw [ee]; exact sp_check hL hg hj (by omega)) (fun t => absurd s1 t) (fun _ => ?_)
    refine sg_J5_charAt_5068e_t_33 hL (e0 := rfl) (m0 := s4) (z0 := hz) (b0 := by omega) (hc0 := ?_) (hr := by rw [ec])
    rw [ec, ← sb_getD s9 hj]
    exact sb_ch hv
  · rw [← sb_getD s9 hj]
    exact sb_ch hv
theorem sb_ens_t {m a : Nat} {b : List Int32} (hL : hh_L h) (s1 : hh_i h 94 1 = 0) (s3 : (hh_v h 94)[0]? = some (.ref (a + 1000))) (s4 : h.1[a]? = some (.inl (2, b))) (hb : b.length < 1000) (hm : m ≤ b.length) : tr_L g d m_J5_ensureCapacityInternal_d00df 0 [some (.ref 1094), some (.int (Int32.ofNat m)), none] [] h (.inl none, h) := by
  refine sg_J5_ensureCapacityInternal_d00df_t_0 hL s3 s4 (by omega) (fun _ => sg_J5_ensureCapacityInternal_d00df_t_38 hL rfl) (fun t => ?_)
  rw [s1, sb_sr, Int32.lt_iff_toInt_lt, ii_su (by omega) (by omega)] at t
  have e0 : (0 : Int32).toInt = 0 := by decide
  rw [e0] at t
  omega
theorem sb_clr_t {l : List Int32} (hL : hh_L h) (s : sb h 94 l) : ∃ h', tr_L g (d + 2) m_J4_setLength_d00df 0 [some (.ref 1094), some (.int 0)] [] h (.inl none, h') ∧ hh_F [94] h h' ∧ sb h' 94 [] ∧ (hh_v h' 94)[0]? = (hh_v h 94)[0]? := by
  obtain ⟨s1, s2, c, b, s3, s4, s5, s6, s7, s8, s9, s10⟩ := s
  have r1 := sb_ens_t (g := g) (d := d) (m := 0) hL s1 s3 s4 s7 (by omega)
  have hk := ht94
  have key : ∀ h1 : ev_AH, hh_L h1 → hh_F [94] h h1 → hh_i h1 94 1 = 0 → (hh_v h1 94)[0]? = some (.ref (c + 1000)) → hh_F [94] h (hh_si h1 94 9 3 0) ∧ sb (hh_si h1 94 9 3 0) 94 [] ∧ (hh_v (hh_si h1 94 9 3 0) 94)[0]? = (hh_v h 94)[0]? := by
    intro h1 hL1 F e1 e2
    refine ⟨hh_F_tr F (hh_F_si (by decide)), ⟨?_, ?_, c, b, ?_, ?_, s5, by simp, s7, s8, rfl, s10⟩, by rw [hh_v_si (hh_L_lt hL1 (by decide)), if_pos rfl, List.getElem?_set_ne (by decide), e2, s3]⟩
    · rw [hh_i_sis hL1 hk (by decide), if_neg (by decide)]; exact e1
    · rw [hh_i_sis hL1 hk (by decide), if_pos rfl]; rfl
    · rw [hh_v_si (hh_L_lt hL1 (by decide)), if_pos rfl, List.getElem?_set_ne (by decide)]; exact e2
    · have hne : 94 ≠ c := by
        rcases s5 with ⟨e, _⟩ | e <;> omega
      have : (hh_si h1 94 9 3 0).1[c]? = h1.1[c]? := by simp [hh_si, hne]
      rw [this, F.2.2 c (by simp; omega)]
      exact s4
  by_cases hz : l.length = 0
  · have := key h hL hh_F_rf s1 s3
    refine ⟨hh_si h 94 9 3 0, sg_J4_setLength_d00df_t_0 hL (c_0 := sg_J5_setLength_d00df_t_0 hL (fun _ => sg_J5_setLength_d00df_t_13 hL r1 (fun _ => sg_J5_setLength_d00df_t_63 hL (fun _ => sg_J5_setLength_d00df_t_76 hL rfl) (fun t => ?_)) (fun t => ?_)) (fun t => absurd t (by decide))) (hr := rfl), this.1, this.2.1, this.2.2⟩
    · rw [s2, hz] at t
      exact absurd t (by decide)
    · rw [s2, hz] at t
      exact absurd t (by decide)
  · have hL1 := hh_L_si (sl := 2) (x := 1) hL hk rfl
    have := key (hh_si h 94 9 2 1) hL1 (hh_F_si (by decide)) (by rw [hh_i_sis hL hk (by decide), if_neg (by decide)]; exact s1) (by rw [hh_v_si (hh_L_lt hL (by decide)), if_pos rfl, List.getElem?_set_ne (by decide)]; exact s3)
    refine ⟨hh_si (hh_si h 94 9 2 1) 94 9 3 0, sg_J4_setLength_d00df_t_0 hL (c_0 := sg_J5_setLength_d00df_t_0 hL (fun _ => sg_J5_setLength_d00df_t_13 hL r1 (fun _ => sg_J5_setLength_d00df_t_63 hL (fun t => ?_) (fun _ => sg_J5_setLength_d00df_t_71 hL (sg_J5_setLength_d00df_t_76 hL1 rfl))) (fun t => ?_)) (fun t => absurd t (by decide))) (hr := rfl), this.1, this.2.1, this.2.2⟩
    · rw [s2] at t
      exact absurd ((ii_le (b := 0) (by omega) (by omega)).mp t) (by omega)
    · rw [s2] at t
      exact absurd ((ii_lt (b := 0) (by omega) (by omega)).mp t) (by omega)
/-- a character put behind the others, where there is room -/
theorem sb_put_t {l b : List Int32} {x : Int32} {c : Nat} (hL : hh_L h) (hx : sb_c x) (s1 : hh_i h 94 1 = 0) (s2 : hh_i h 94 3 = Int32.ofNat l.length) (s3 : (hh_v h 94)[0]? = some (.ref (c + 1000))) (s4 : h.1[c]? = some (.inl (2, b))) (s5 : (c = 94 + 1 ∧ b.length = 16) ∨ 99 ≤ c ∧ 30 ≤ b.length) (s7 : b.length < 1000) (s8 : b.length = 16 ∨ b.length = 34 ∨ b.length = 70) (s9 : b.take l.length = l) (s10 : ∀ x ∈ b, sb_c x) (hlt : l.length < b.length) : ∃ h', tr_L g (d + 1) m_J5_append_3fe6f 24 [some (.ref 1094), some (.int x)] [] h (.inl (some (.ref 1094)), h') ∧ hh_F [94, c] h h' ∧ sb h' 94 (l ++ [x]) ∧ (hh_v h' 94)[0]? = some (.ref (c + 1000)) := by
  have hk := ht94
  obtain ⟨k, hk8, rfl⟩ := hx
  have hL1 := hh_L_si (sl := 3) (x := hh_i h 94 3 + 1) hL hk rfl
  have hne : 94 ≠ c := by
    rcases s5 with ⟨e, _⟩ | e <;> omega
  have m0 : (hh_si h 94 9 3 (hh_i h 94 3 + 1)).1[c]? = some (.inl (2, b)) := by simp [hh_si, hne]; exact s4
  have hcl : c < h.1.length := (List.getElem?_eq_some_iff.mp s4).1
  have hL2 : hh_L (ev_wr (hh_si h 94 9 3 (hh_i h 94 3 + 1)) (c + 1000) (.inl (2, b.set l.length (Int32.ofNat k).toInt8.toInt32))) := by
    rcases s5 with ⟨e, e2⟩ | e
    · subst e
      exact hh_L_sa (t := 2) (n := 16) hL1 rfl (by rw [List.length_set]; exact e2)
    · exact hh_L_hi hL1 (by omega)
  refine ⟨_, sg_J5_append_3fe6f_t_24 hL (p0 := s3) (e0 := s2) (hb0 := by rw [sb_b8 k hk8, sb_nar k hk8]) (m0 := m0) (z0 := by omega) (b0 := hlt) (hr := rfl) (hLe := hL2), ?_, ?_⟩
  · refine hh_F_tr (h2 := hh_si h 94 9 3 (hh_i h 94 3 + 1)) (hh_F_si (by simp)) ?_
    exact hh_F_sa (by simp)
  · have q : ∀ j, c ≠ j → (ev_wr (hh_si h 94 9 3 (hh_i h 94 3 + 1)) (c + 1000) (.inl (2, b.set l.length (Int32.ofNat k).toInt8.toInt32))).1[j]? = (hh_si h 94 9 3 (hh_i h 94 3 + 1)).1[j]? := fun j hj => by
      simp only [ev_wr, Nat.add_sub_cancel]
      rw [List.getElem?_set_ne hj]
    have qv : hh_v (ev_wr (hh_si h 94 9 3 (hh_i h 94 3 + 1)) (c + 1000) (.inl (2, b.set l.length (Int32.ofNat k).toInt8.toInt32))) 94 = hh_v (hh_si h 94 9 3 (hh_i h 94 3 + 1)) 94 := by
      simp only [hh_v, q 94 (Ne.symm hne)]
    have qi : ∀ sl, hh_i (ev_wr (hh_si h 94 9 3 (hh_i h 94 3 + 1)) (c + 1000) (.inl (2, b.set l.length (Int32.ofNat k).toInt8.toInt32))) 94 sl = hh_i (hh_si h 94 9 3 (hh_i h 94 3 + 1)) 94 sl := fun sl => sb_iv qv
    refine ⟨⟨?_, ?_, c, b.set l.length (Int32.ofNat k), ?_, ?_, ?_, ?_, ?_, ?_, ?_, ?_⟩, by rw [qv, hh_v_si (hh_L_lt hL (by decide)), if_pos rfl, List.getElem?_set_ne (by decide)]; exact s3⟩
    · rw [qi, hh_i_sis hL hk (by decide), if_neg (by decide)]; exact s1
    · rw [qi, hh_i_sis hL hk (by decide), if_pos rfl, s2, ii_s, List.length_append]; rfl
    · rw [qv, hh_v_si (hh_L_lt hL (by decide)), if_pos rfl, List.getElem?_set_ne (by decide)]; exact s3
    · simp only [ev_wr, Nat.add_sub_cancel]
      rw [List.getElem?_set_self (by simp [hh_si]; exact hcl), sb_b8 k hk8]
    · rw [List.length_set]; exact s5
    · simp; omega
    · rw [List.length_set]; exact s7
    · rw [List.length_set]; exact s8
    · rw [List.length_append, List.length_singleton, List.take_succ, List.take_set_of_le (Nat.le_refl _), s9, List.getElem?_set_self hlt]
      rfl
    · intro y hy
      rcases List.mem_or_eq_of_mem_set hy with h' | rfl
      · exact s10 y h'
      · exact ⟨k, hk8, rfl⟩
/-- append, where there is room -/
theorem sb_app_t {l : List Int32} {x : Int32} (hL : hh_L h) (hx : sb_c x) (s : sb h 94 l) (hr : l.length < 16) : ∃ h' c, tr_L g (d + 2) m_J4_append_cf468 0 [some (.ref 1094), some (.int x)] [] h (.inl (some (.ref 1094)), h') ∧ hh_F [94, c] h h' ∧ (c = 94 + 1 ∨ (99 ≤ c ∧ ∃ b, h.1[c]? = some (.inl (2, b)) ∧ 30 ≤ b.length)) ∧ sb h' 94 (l ++ [x]) ∧ (hh_v h 94)[0]? = some (.ref (c + 1000)) ∧ (hh_v h' 94)[0]? = some (.ref (c + 1000)) := by
  obtain ⟨s1, s2, c, b, s3, s4, s5, s6, s7, s8, s9, s10⟩ := s
  have hlt : l.length < b.length := by omega
  obtain ⟨h', r1, r2, r3, r4⟩ := sb_put_t (g := g) (d := d) hL hx s1 s2 s3 s4 s5 s7 s8 s9 s10 hlt
  have e1 : hh_i h 94 3 + 1 = Int32.ofNat (l.length + 1) := by rw [s2, ii_s]
  refine ⟨h', c, sg_J4_append_cf468_t_0 hL (c_0 := sg_J5_append_3fe6f_t_0 hL (h1 := h) (h2 := h) (v0 := 1) (by rw [e1]; exact sb_ens_t hL s1 s3 s4 s7 (by omega)) (sb_lat_t (l := l) hL s1) (fun t => absurd t (by decide)) (fun _ => sg_J5_append_3fe6f_t_17 hL (sp_canE hL hx) (fun t => absurd t (by decide)) (fun _ => r1))) (hr := rfl), r2, ?_, r3, s3, r4⟩
  rcases s5 with ⟨e, _⟩ | e
  · exact Or.inl e
  · exact Or.inr ⟨e.1, b, s4, e.2⟩
theorem ht96 : hh_t[96]? = some (.inr (9, [1, 0, 0, 0])) := rfl
theorem sb_len_o {l : List Int32} (hL : hh_L h) (s : sb h 96 l) : tr_L g (d + 1) m_J4_length_8abf5 0 [some (.ref 1096)] [] h (.inl (some (.int (Int32.ofNat l.length))), h) :=
  sg_J4_length_8abf5_o_0 hL (c_0 := sg_J5_length_8abf5_o_0 hL rfl) (hr := by rw [s.2.1])
theorem sb_lat_o {l : List Int32} (hL : hh_L h) (s : hh_i h 96 1 = 0) : tr_L g d m_J5_isLatin1_aae02 0 [some (.ref 1096)] [] h (.inl (some (.int 1)), h) :=
  sg_J5_isLatin1_aae02_o_0 hL (fun t => absurd t (by decide)) (fun _ => sg_J5_isLatin1_aae02_o_6 hL (fun t => absurd s t) (fun _ => sg_J5_isLatin1_aae02_o_13 hL rfl))
theorem sb_at_o {l : List Int32} {j : Nat} (hL : hh_L h) (hg : ev_cat1 g.2 = true) (s : sb h 96 l) (hj : j < l.length) : tr_L g (d + 3) m_J4_charAt_5068e 0 [some (.ref 1096), some (.int (Int32.ofNat j))] [] h (.inl (some (.int (l.getD j 0))), h) := by
  obtain ⟨s1, s2, c, b, s3, s4, s5, s6, s7, s8, s9, s10⟩ := s
  have hv := sb_memD s10 (j := j) (by omega)
  have hz : b.length < 2147483648 := by omega
  have ee : (if ((Int32.ofNat b.length) >>> ((hh_i h 96 1) &&& 31)) < (hh_i h 96 3) then ((Int32.ofNat b.length) >>> ((hh_i h 96 1) &&& 31)) else (hh_i h 96 3)) = Int32.ofNat l.length := by
    rw [s1, s2, sb_sr]
    exact if_neg (fun c => absurd ((ii_lt (by omega) (by omega)).mp c) (by omega))
  have ec : (((b.getD j 0) &&& 255).toUInt32 % 65536).toInt32 = l.getD j 0 := by
    obtain ⟨k, hk, e⟩ := hv
    rw [← sb_getD s9 hj, e, sb_and k hk]
  refine sg_J4_charAt_5068e_o_0 hL (v0 := l.getD j 0) (c_0 := ?_) (hc0 := ?_) (hr := rfl)
  · refine sg_J5_charAt_5068e_o_0 hL s3 s4 hz (h1 := h) (by rw [ee]; exact sp_check hL hg hj (by omega)) (fun t => absurd s1 t) (fun _ => ?_)
    refine sg_J5_charAt_5068e_o_33 hL (e0 := rfl) (m0 := s4) (z0 := hz) (b0 := by omega) (hc0 := ?_) (hr := by rw [ec])
    rw [ec, ← sb_getD s9 hj]
    exact sb_ch hv
  · rw [← sb_getD s9 hj]
    exact sb_ch hv
theorem sb_ens_o {m a : Nat} {b : List Int32} (hL : hh_L h) (s1 : hh_i h 96 1 = 0) (s3 : (hh_v h 96)[0]? = some (.ref (a + 1000))) (s4 : h.1[a]? = some (.inl (2, b))) (hb : b.length < 1000) (hm : m ≤ b.length) : tr_L g d m_J5_ensureCapacityInternal_d00df 0 [some (.ref 1096), some (.int (Int32.ofNat m)), none] [] h (.inl none, h) := by
  refine sg_J5_ensureCapacityInternal_d00df_o_0 hL s3 s4 (by omega) (fun _ => sg_J5_ensureCapacityInternal_d00df_o_38 hL rfl) (fun t => ?_)
  rw [s1, sb_sr, Int32.lt_iff_toInt_lt, ii_su (by omega) (by omega)] at t
  have e0 : (0 : Int32).toInt = 0 := by decide
  rw [e0] at t
  omega
theorem sb_clr_o {l : List Int32} (hL : hh_L h) (s : sb h 96 l) : ∃ h', tr_L g (d + 2) m_J4_setLength_d00df 0 [some (.ref 1096), some (.int 0)] [] h (.inl none, h') ∧ hh_F [96] h h' ∧ sb h' 96 [] ∧ (hh_v h' 96)[0]? = (hh_v h 96)[0]? := by
  obtain ⟨s1, s2, c, b, s3, s4, s5, s6, s7, s8, s9, s10⟩ := s
  have r1 := sb_ens_o (g := g) (d := d) (m := 0) hL s1 s3 s4 s7 (by omega)
  have hk := ht96
  have key : ∀ h1 : ev_AH, hh_L h1 → hh_F [96] h h1 → hh_i h1 96 1 = 0 → (hh_v h1 96)[0]? = some (.ref (c + 1000)) → hh_F [96] h (hh_si h1 96 9 3 0) ∧ sb (hh_si h1 96 9 3 0) 96 [] ∧ (hh_v (hh_si h1 96 9 3 0) 96)[0]? = (hh_v h 96)[0]? := by
    intro h1 hL1 F e1 e2
    refine ⟨hh_F_tr F (hh_F_si (by decide)), ⟨?_, ?_, c, b, ?_, ?_, s5, by simp, s7, s8, rfl, s10⟩, by rw [hh_v_si (hh_L_lt hL1 (by decide)), if_pos rfl, List.getElem?_set_ne (by decide), e2, s3]⟩
    · rw [hh_i_sis hL1 hk (by decide), if_neg (by decide)]; exact e1
    · rw [hh_i_sis hL1 hk (by decide), if_pos rfl]; rfl
    · rw [hh_v_si (hh_L_lt hL1 (by decide)), if_pos rfl, List.getElem?_set_ne (by decide)]; exact e2
    · have hne : 96 ≠ c := by
        rcases s5 with ⟨e, _⟩ | e <;> omega
      have : (hh_si h1 96 9 3 0).1[c]? = h1.1[c]? := by simp [hh_si, hne]
      rw [this, F.2.2 c (by simp; omega)]
      exact s4
  by_cases hz : l.length = 0
  · have := key h hL hh_F_rf s1 s3
    refine ⟨hh_si h 96 9 3 0, sg_J4_setLength_d00df_o_0 hL (c_0 := sg_J5_setLength_d00df_o_0 hL (fun _ => sg_J5_setLength_d00df_o_13 hL r1 (fun _ => sg_J5_setLength_d00df_o_63 hL (fun _ => sg_J5_setLength_d00df_o_76 hL rfl) (fun t => ?_)) (fun t => ?_)) (fun t => absurd t (by decide))) (hr := rfl), this.1, this.2.1, this.2.2⟩
    · rw [s2, hz] at t
      exact absurd t (by decide)
    · rw [s2, hz] at t
      exact absurd t (by decide)
  · have hL1 := hh_L_si (sl := 2) (x := 1) hL hk rfl
    have := key (hh_si h 96 9 2 1) hL1 (hh_F_si (by decide)) (by rw [hh_i_sis hL hk (by decide), if_neg (by decide)]; exact s1) (by rw [hh_v_si (hh_L_lt hL (by decide)), if_pos rfl, List.getElem?_set_ne (by decide)]; exact s3)
    refine ⟨hh_si (hh_si h 96 9 2 1) 96 9 3 0, sg_J4_setLength_d00df_o_0 hL (c_0 := sg_J5_setLength_d00df_o_0 hL (fun _ => sg_J5_setLength_d00df_o_13 hL r1 (fun _ => sg_J5_setLength_d00df_o_63 hL (fun t => ?_) (fun _ => sg_J5_setLength_d00df_o_71 hL (sg_J5_setLength_d00df_o_76 hL1 rfl))) (fun t => ?_)) (fun t => absurd t (by decide))) (hr := rfl), this.1, this.2.1, this.2.2⟩
    · rw [s2] at t
      exact absurd ((ii_le (b := 0) (by omega) (by omega)).mp t) (by omega)
    · rw [s2] at t
      exact absurd ((ii_lt (b := 0) (by omega) (by omega)).mp t) (by omega)
/-- a character put behind the others, where there is room -/
theorem sb_put_o {l b : List Int32} {x : Int32} {c : Nat} (hL : hh_L h) (hx : sb_c x) (s1 : hh_i h 96 1 = 0) (s2 : hh_i h 96 3 = Int32.ofNat l.length) (s3 : (hh_v h 96)[0]? = some (.ref (c + 1000))) (s4 : h.1[c]? = some (.inl (2, b))) (s5 : (c = 96 + 1 ∧ b.length = 16) ∨ 99 ≤ c ∧ 30 ≤ b.length) (s7 : b.length < 1000) (s8 : b.length = 16 ∨ b.length = 34 ∨ b.length = 70) (s9 : b.take l.length = l) (s10 : ∀ x ∈ b, sb_c x) (hlt : l.length < b.length) : ∃ h', tr_L g (d + 1) m_J5_append_3fe6f 24 [some (.ref 1096), some (.int x)] [] h (.inl (some (.ref 1096)), h') ∧ hh_F [96, c] h h' ∧ sb h' 96 (l ++ [x]) ∧ (hh_v h' 96)[0]? = some (.ref (c + 1000)) := by
  have hk := ht96
  obtain ⟨k, hk8, rfl⟩ := hx
  have hL1 := hh_L_si (sl := 3) (x := hh_i h 96 3 + 1) hL hk rfl
  have hne : 96 ≠ c := by
    rcases s5 with ⟨e, _⟩ | e <;> omega
  have m0 : (hh_si h 96 9 3 (hh_i h 96 3 + 1)).1[c]? = some (.inl (2, b)) := by simp [hh_si, hne]; exact s4
  have hcl : c < h.1.length := (List.getElem?_eq_some_iff.mp s4).1
  have hL2 : hh_L (ev_wr (hh_si h 96 9 3 (hh_i h 96 3 + 1)) (c + 1000) (.inl (2, b.set l.length (Int32.ofNat k).toInt8.toInt32))) := by
    rcases s5 with ⟨e, e2⟩ | e
    · subst e
      exact hh_L_sa (t := 2) (n := 16) hL1 rfl (by rw [List.length_set]; exact e2)
    · exact hh_L_hi hL1 (by omega)
  refine ⟨_, sg_J5_append_3fe6f_o_24 hL (p0 := s3) (e0 := s2) (hb0 := by rw [sb_b8 k hk8, sb_nar k hk8]) (m0 := m0) (z0 := by omega) (b0 := hlt) (hr := rfl) (hLe := hL2), ?_, ?_⟩
  · refine hh_F_tr (h2 := hh_si h 96 9 3 (hh_i h 96 3 + 1)) (hh_F_si (by simp)) ?_
    exact hh_F_sa (by simp)
  · have q : ∀ j, c ≠ j → (ev_wr (hh_si h 96 9 3 (hh_i h 96 3 + 1)) (c + 1000) (.inl (2, b.set l.length (Int32.ofNat k).toInt8.toInt32))).1[j]? = (hh_si h 96 9 3 (hh_i h 96 3 + 1)).1[j]? := fun j hj => by
      simp only [ev_wr, Nat.add_sub_cancel]
      rw [List.getElem?_set_ne hj]
    have qv : hh_v (ev_wr (hh_si h 96 9 3 (hh_i h 96 3 + 1)) (c + 1000) (.inl (2, b.set l.length (Int32.ofNat k).toInt8.toInt32))) 96 = hh_v (hh_si h 96 9 3 (hh_i h 96 3 + 1)) 96 := by
      simp only [hh_v, q 96 (Ne.symm hne)]
    have qi : ∀ sl, hh_i (ev_wr (hh_si h 96 9 3 (hh_i h 96 3 + 1)) (c + 1000) (.inl (2, b.set l.length (Int32.ofNat k).toInt8.toInt32))) 96 sl = hh_i (hh_si h 96 9 3 (hh_i h 96 3 + 1)) 96 sl := fun sl => sb_iv qv
    refine ⟨⟨?_, ?_, c, b.set l.length (Int32.ofNat k), ?_, ?_, ?_, ?_, ?_, ?_, ?_, ?_⟩, by rw [qv, hh_v_si (hh_L_lt hL (by decide)), if_pos rfl, List.getElem?_set_ne (by decide)]; exact s3⟩
    · rw [qi, hh_i_sis hL hk (by decide), if_neg (by decide)]; exact s1
    · rw [qi, hh_i_sis hL hk (by decide), if_pos rfl, s2, ii_s, List.length_append]; rfl
    · rw [qv, hh_v_si (hh_L_lt hL (by decide)), if_pos rfl, List.getElem?_set_ne (by decide)]; exact s3
    · simp only [ev_wr, Nat.add_sub_cancel]
      rw [List.getElem?_set_self (by simp [hh_si]; exact hcl), sb_b8 k hk8]
    · rw [List.length_set]; exact s5
    · simp; omega
    · rw [List.length_set]; exact s7
    · rw [List.length_set]; exact s8
    · rw [List.length_append, List.length_singleton, List.take_succ, List.take_set_of_le (Nat.le_refl _), s9, List.getElem?_set_self hlt]
      rfl
    · intro y hy
      rcases List.mem_or_eq_of_mem_set hy with h' | rfl
      · exact s10 y h'
      · exact ⟨k, hk8, rfl⟩
/-- append, where there is room -/
theorem sb_app_o {l : List Int32} {x : Int32} (hL : hh_L h) (hx : sb_c x) (s : sb h 96 l) (hr : l.length < 16) : ∃ h' c, tr_L g (d + 2) m_J4_append_cf468 0 [some (.ref 1096), some (.int x)] [] h (.inl (some (.ref 1096)), h') ∧ hh_F [96, c] h h' ∧ (c = 96 + 1 ∨ (99 ≤ c ∧ ∃ b, h.1[c]? = some (.inl (2, b)) ∧ 30 ≤ b.length)) ∧ sb h' 96 (l ++ [x]) ∧ (hh_v h 96)[0]? = some (.ref (c + 1000)) ∧ (hh_v h' 96)[0]? = some (.ref (c + 1000)) := by
  obtain ⟨s1, s2, c, b, s3, s4, s5, s6, s7, s8, s9, s10⟩ := s
  have hlt : l.length < b.length := by omega
  obtain ⟨h', r1, r2, r3, r4⟩ := sb_put_o (g := g) (d := d) hL hx s1 s2 s3 s4 s5 s7 s8 s9 s10 hlt
  have e1 : hh_i h 96 3 + 1 = Int32.ofNat (l.length + 1) := by rw [s2, ii_s]
  refine ⟨h', c, sg_J4_append_cf468_o_0 hL (c_0 := sg_J5_append_3fe6f_o_0 hL (h1 := h) (h2 := h) (v0 := 1) (by rw [e1]; exact sb_ens_o hL s1 s3 s4 s7 (by omega)) (sb_lat_o (l := l) hL s1) (fun t => absurd t (by decide)) (fun _ => sg_J5_append_3fe6f_o_17 hL (sp_canE hL hx) (fun t => absurd t (by decide)) (fun _ => r1))) (hr := rfl), r2, ?_, r3, s3, r4⟩
  rcases s5 with ⟨e, _⟩ | e
  · exact Or.inl e
  · exact Or.inr ⟨e.1, b, s4, e.2⟩

/-- append, where the row may have to grow: text alone -/
theorem sb_grow {m a : Nat} {b : List Int32} (hL : hh_L h) (s1 : hh_i h 94 1 = 0) (s3 : (hh_v h 94)[0]? = some (.ref (a + 1000))) (s4 : h.1[a]? = some (.inl (2, b))) (hb : b.length < 400) (h16 : 2 ≤ b.length) (hf : ∀ x ∈ b, sb_c x) (hm : b.length < m) (hm2 : m ≤ 2 * b.length + 2) : ∃ h', tr_L g (d + 2) m_J5_ensureCapacityInternal_d00df 0 [some (.ref 1094), some (.int (Int32.ofNat m)), none] [] h (.inl none, h') ∧ hh_G [94] 1 (2 * b.length + 2) h h' ∧ hh_i h' 94 1 = 0 ∧ hh_i h' 94 3 = hh_i h 94 3 ∧ (hh_v h' 94)[0]? = some (.ref (h.1.length + 1000)) ∧ h'.1[h.1.length]? = some (.inl (2, b ++ List.replicate (b.length + 2) 0)) := by
  have hk := ht94
  have hal : a < h.1.length := (List.getElem?_eq_some_iff.mp s4).1
  have hL1 : hh_L (hh_push h (.inl (2, List.replicate (2 * b.length + 2) 0)) (2 * b.length + 2)) := hh_L_push hL
  have h99 : 99 ≤ h.1.length := by
    have := hh_L_lt hL (k := 98) (by omega)
    omega
  have hfit : (b.take b.length).all (fun x => fits .byte (.int x)) = true := by
    rw [List.take_length, List.all_eq_true]
    intro x hx
    obtain ⟨k, hk, rfl⟩ := hf x hx
    exact sb_fit k hk
  have ev : b.take b.length ++ (List.replicate (2 * b.length + 2) (0 : Int32)).drop b.length = b ++ List.replicate (b.length + 2) 0 := by
    rw [List.take_length, List.drop_replicate, show 2 * b.length + 2 - b.length = b.length + 2 by omega]
  have hL2 : hh_L (ev_wr (hh_push h (.inl (2, List.replicate (2 * b.length + 2) 0)) (2 * b.length + 2)) (h.1.length + 1000) (.inl (2, b ++ List.replicate (b.length + 2) 0))) := hh_L_hi hL1 (by omega)
  have n0 := sp_newLen (g := g) (d := d) (m := m) (n := b.length) hL (by omega) hm2 (by omega)
  have r1 : tr_L g (d + 1) m_J5_newCapacity_0f7a4 0 [some (.ref 1094), some (.int (Int32.ofNat m)), none, none, none, none] [] h (.inl (some (.int (Int32.ofNat (2 * b.length + 2)))), h) := by
    refine sg_J5_newCapacity_0f7a4_t_0 hL s3 s4 (by omega) (v0 := Int32.ofNat (2 * b.length + 2)) (h1 := h) (by rw [s1, sb_sl, sb_sl]; exact n0) (fun _ => sg_J5_newCapacity_0f7a4_t_51 hL (by rw [s1, sb_sr])) (fun t => ?_)
    exact absurd ((ii_eq (b := 2147483647) (by omega) (by omega)).mp t) (by omega)
  have r2 : tr_L g (d + 1) m_J7_copyOf_9075b 0 [some (.ref (a + 1000)), some (.int ((Int32.ofNat (2 * b.length + 2)) <<< ((hh_i h 94 1) &&& 31))), none] [] h (.inl (some (.ref (h.1.length + 1000))), ev_wr (hh_push h (.inl (2, List.replicate (2 * b.length + 2) 0)) (2 * b.length + 2)) (h.1.length + 1000) (.inl (2, b ++ List.replicate (b.length + 2) 0))) := by
    rw [s1, sb_sl]
    refine sg_J7_copyOf_9075b_0 hL s4 (by omega) (fun _ => ?_) (fun t => absurd ((ii_eq (by omega) (by omega)).mp t) (by omega))
    have m0 : (hh_push h (.inl (2, List.replicate (2 * b.length + 2) 0)) (2 * b.length + 2)).1[a]? = some (.inl (2, b)) := by
      rw [hh_push, List.getElem?_append_left hal]; exact s4
    have m1 : (hh_push h (.inl (2, List.replicate (2 * b.length + 2) 0)) (2 * b.length + 2)).1[h.1.length]? = some (.inl (2, List.replicate (2 * b.length + 2) 0)) := by
      rw [hh_push, List.getElem?_append_right (Nat.le_refl _), Nat.sub_self]; rfl
    have e1 : (if Int32.ofNat (2 * b.length + 2) < Int32.ofNat b.length then Int32.ofNat (2 * b.length + 2) else Int32.ofNat b.length) = Int32.ofNat b.length := if_neg (fun c => absurd ((ii_lt (by omega) (by omega)).mp c) (by omega))
    exact sg_J7_copyOf_9075b_14 hL (e0 := rfl) (b0 := by omega) (eh0 := rfl) (ec0 := rfl) (m0 := m0) (z0 := by omega) (m1 := m1) (z1 := by rw [List.length_replicate]; omega) (e1 := e1) (b1 := Nat.le_refl _) (b2 := by rw [List.length_replicate]; omega) (b3 := by omega) (hf0 := hfit) (hr := by rw [ev]) (hLe := by rw [ev]; exact hL2)
  have hn94 : h.1.length ≠ 94 := by omega
  have q94 : (ev_wr (hh_push h (.inl (2, List.replicate (2 * b.length + 2) 0)) (2 * b.length + 2)) (h.1.length + 1000) (.inl (2, b ++ List.replicate (b.length + 2) 0))).1[94]? = h.1[94]? := by
    simp only [ev_wr, Nat.add_sub_cancel, hh_push]
    rw [List.getElem?_set_ne hn94, List.getElem?_append_left (by omega)]
  have qv : hh_v (ev_wr (hh_push h (.inl (2, List.replicate (2 * b.length + 2) 0)) (2 * b.length + 2)) (h.1.length + 1000) (.inl (2, b ++ List.replicate (b.length + 2) 0))) 94 = hh_v h 94 := by
    simp only [hh_v, q94]
  refine ⟨_, sg_J5_ensureCapacityInternal_d00df_t_0 hL s3 s4 (by omega) (fun t => ?_) (fun _ => sg_J5_ensureCapacityInternal_d00df_t_17 hL s3 r1 r2 rfl), ⟨?_, ?_, ?_, ?_, ?_⟩, ?_, ?_, ?_, ?_⟩
  · rw [s1, sb_sr, Int32.le_iff_toInt_le, ii_su (by omega) (by omega)] at t
    have e0 : (0 : Int32).toInt = 0 := by decide
    rw [e0] at t
    omega
  · simp [ev_wr, hh_push]
  · simp [ev_wr, hh_push]
  · simp [ev_wr, hh_push]
  · intro k h1 hkn
    have hk94 : 94 ≠ k := fun e => hkn (by simp [e])
    simp only [ev_wr, Nat.add_sub_cancel, hh_push]
    rw [List.getElem?_set_ne (by omega), List.getElem?_set_ne (by omega), List.getElem?_append_left (by omega)]
  · intro k h1 c hc _
    have hlt := (List.getElem?_eq_some_iff.mp hc).1
    simp only [ev_wr, Nat.add_sub_cancel, hh_push]
    rw [List.getElem?_set_ne (by omega), List.getElem?_set_ne (by omega), List.getElem?_append_left hlt]
    exact hc
  · rw [sb_w94i (by simp [ev_wr, hh_push]; omega) (by decide), sb_iv qv]; exact s1
  · rw [sb_w94i (by simp [ev_wr, hh_push]; omega) (by decide), sb_iv qv]
  · rw [sb_w94 (by simp [ev_wr, hh_push]; omega), qv, List.getElem?_set_self (by rw [(hh_obj hL hk).2]; decide)]
  · simp only [ev_wr, Nat.add_sub_cancel, hh_push]
    rw [List.getElem?_set_ne (by omega), List.getElem?_set_self (by simp)]
/-- append of a character to the text -/
theorem sb_appT {l : List Int32} {x : Int32} (hL : hh_L h) (hx : sb_c x) (s : sb h 94 l) (hr : l.length < 70) : ∃ h', tr_L g (d + 4) m_J4_append_cf468 0 [some (.ref 1094), some (.int x)] [] h (.inl (some (.ref 1094)), h') ∧ hh_G [94, 95] 1 100 h h' ∧ sb h' 94 (l ++ [x]) := by
  obtain ⟨s1, s2, c, b, s3, s4, s5, s6, s7, s8, s9, s10⟩ := s
  have e1 : hh_i h 94 3 + 1 = Int32.ofNat (l.length + 1) := by rw [s2, ii_s]
  by_cases hlt : l.length < b.length
  · obtain ⟨h', r1, r2, r3, _⟩ := sb_put_t (g := g) (d := d + 2) hL hx s1 s2 s3 s4 s5 s7 s8 s9 s10 hlt
    refine ⟨h', sg_J4_append_cf468_t_0 hL (c_0 := sg_J5_append_3fe6f_t_0 hL (h1 := h) (h2 := h) (v0 := 1) (by rw [e1]; exact sb_ens_t hL s1 s3 s4 s7 (by omega)) (sb_lat_t (l := l) hL s1) (fun t => absurd t (by decide)) (fun _ => sg_J5_append_3fe6f_t_17 hL (sp_canE hL hx) (fun t => absurd t (by decide)) (fun _ => r1))) (hr := rfl), ⟨by rw [r2.1]; exact Nat.le_refl _, by rw [r2.2.1]; omega, by rw [r2.2.1]; omega, fun k hk hkn => r2.2.2 k ?_, fun k hk c9 hc9 ho => ?_⟩, r3⟩
    · simp only [List.mem_cons, List.not_mem_nil, or_false, not_or] at hkn ⊢
      rcases s5 with ⟨e, _⟩ | e
      · omega
      · omega
    · rw [r2.2.2 k (fun hm => ?_)]
      · exact hc9
      · simp only [List.mem_cons, List.not_mem_nil, or_false] at hm
        rcases hm with hm | hm
        · omega
        · subst hm
          rw [s4] at hc9
          cases hc9
          have ho : b.length < 30 := ho
          omega
  · have hb : b.length < 70 := by omega
    obtain ⟨h1, q1, q2, q3, q4, q5, q6⟩ := sb_grow (g := g) (d := d) (m := l.length + 1) hL s1 s3 s4 (by omega) (by omega) s10 (by omega) (by omega)
    have hL1 := q1.2
    have h99 : 99 ≤ h.1.length := by
      have := hh_L_lt hL (k := 98) (by omega)
      omega
    have n1 : (b ++ List.replicate (b.length + 2) (0 : Int32)).length = 2 * b.length + 2 := by simp; omega
    obtain ⟨h', r1, r2, r3, _⟩ := sb_put_t (g := g) (d := d + 2) (l := l) (b := b ++ List.replicate (b.length + 2) 0) hL1 hx q3 (by rw [q4]; exact s2) q5 q6 (Or.inr ⟨h99, by rw [n1]; omega⟩) (by rw [n1]; omega) (by rw [n1]; omega) (by rw [List.take_append_of_le_length s6]; exact s9) (fun y hy => by
      rcases List.mem_append.mp hy with hy | hy
      · exact s10 y hy
      · exact ⟨0, by omega, (List.eq_of_mem_replicate hy)⟩) (by rw [n1]; omega)
    refine ⟨h', sg_J4_append_cf468_t_0 hL (c_0 := sg_J5_append_3fe6f_t_0 hL (h1 := h1) (h2 := h1) (v0 := 1) (by rw [e1]; exact q1) (sb_lat_t (l := l) hL1 q3) (fun t => absurd t (by decide)) (fun _ => sg_J5_append_3fe6f_t_17 hL1 (sp_canE hL1 hx) (fun t => absurd t (by decide)) (fun _ => r1))) (hr := rfl), ⟨by rw [r2.1]; exact q2.1, by rw [r2.2.1]; exact q2.2.1, by rw [r2.2.1]; have q : h1.2.2 ≤ h.2.2 + (2 * b.length + 2) := q2.2.2.1; show h1.2.2 ≤ _; omega, fun k hk hkn => ?_, fun k hk c9 hc9 ho => ?_⟩, r3⟩
    · simp only [List.mem_cons, List.not_mem_nil, or_false, not_or] at hkn
      rw [r2.2.2 k (by simp; omega)]
      exact q2.2.2.2.1 k hk (by simp; omega)
    · have hlt := (List.getElem?_eq_some_iff.mp hc9).1
      rw [r2.2.2 k (by simp; omega)]
      exact q2.2.2.2.2 k hk c9 hc9 ho

/-! a number's decimal digits -/
def dgs (n : Nat) : List Int32 := if n < 10 then [Int32.ofNat (48 + n)] else if n < 100 then [Int32.ofNat (48 + n / 10), Int32.ofNat (48 + n % 10)] else [Int32.ofNat (48 + n / 100), Int32.ofNat (48 + n / 10 % 10), Int32.ofNat (48 + n % 10)]
theorem ii_ng {n : Nat} (h : n < 1000000) : (-(Int32.ofNat n)).toInt = -(n : Int) := by
  have := ii_su (m := 0) (n := n) (by omega) h
  rw [show Int32.ofNat 0 = 0 from rfl, Int32.zero_sub] at this
  rw [this]
  omega
theorem sp_size {n : Nat} (hL : hh_L h) (hn : n < 1000) : tr_L g d m_J6_stringSize_0f7a4 0 [some (.int (Int32.ofNat n)), none, none, none] [] h (.inl (some (.int (Int32.ofNat (dgs n).length))), h) := by
  have c10 : (-10 : Int32).toInt = -10 := by decide
  have c100 : (10 * -10 : Int32).toInt = -100 := by decide
  have c1000 : (10 * (10 * -10) : Int32).toInt = -1000 := by decide
  refine sg_J6_stringSize_0f7a4_0 hL (fun t => absurd t (Int32.not_lt.mpr (ii_nn (by omega)))) (fun _ => sg_J6_stringSize_0f7a4_6 hL (sg_J6_stringSize_0f7a4_11 hL (sg_J6_stringSize_0f7a4_16 hL (fun t => absurd t (by decide)) (fun _ => sg_J6_stringSize_0f7a4_22 hL (fun t => ?_) (fun t => ?_)))))
  · rw [Int32.le_iff_toInt_le, ii_ng (by omega), c10] at t
    refine sg_J6_stringSize_0f7a4_31 hL (sg_J6_stringSize_0f7a4_16 hL (fun t => absurd t (by decide)) (fun _ => sg_J6_stringSize_0f7a4_22 hL (fun t2 => ?_) (fun t2 => ?_)))
    · rw [Int32.le_iff_toInt_le, ii_ng (by omega), c100] at t2
      refine sg_J6_stringSize_0f7a4_31 hL (sg_J6_stringSize_0f7a4_16 hL (fun t => absurd t (by decide)) (fun _ => sg_J6_stringSize_0f7a4_22 hL (fun t3 => ?_) (fun _ => sg_J6_stringSize_0f7a4_27 hL ?_)))
      · rw [Int32.le_iff_toInt_le, ii_ng (by omega), c1000] at t3
        omega
      · rw [dgs, if_neg (by omega), if_neg (by omega)]; rfl
    · rw [Int32.lt_iff_toInt_lt, ii_ng (by omega), c100] at t2
      refine sg_J6_stringSize_0f7a4_27 hL ?_
      rw [dgs, if_neg (by omega), if_pos (by omega)]; rfl
  · rw [Int32.lt_iff_toInt_lt, ii_ng (by omega), c10] at t
    refine sg_J6_stringSize_0f7a4_27 hL ?_
    rw [dgs, if_pos (by omega)]; rfl
abbrev bw (h : ev_AH) (c : Nat) (b : List Int32) : ev_AH := ev_wr h (c + 1000) (.inl (2, b))
theorem bw_c {c : Nat} {b : List Int32} (hc : c < h.1.length) : (bw h c b).1[c]? = some (.inl (2, b)) := by
  simp only [ev_wr, Nat.add_sub_cancel]
  rw [List.getElem?_set_self hc]
theorem bw_bw {c : Nat} {b b' : List Int32} : bw (bw h c b) c b' = bw h c b' := by
  simp [ev_wr, List.set_set]
theorem bw_L {c : Nat} {b : List Int32} (hL : hh_L h) (s5 : (c = 97 ∧ b.length = 16) ∨ 99 ≤ c) : hh_L (bw h c b) := by
  rcases s5 with ⟨e, e2⟩ | e
  · subst e
    exact hh_L_sa (t := 2) (n := 16) hL rfl e2
  · exact hh_L_hi hL (by omega)
theorem dg_v : ∀ k, k < 100 → dg_901.getD k 0 = Int32.ofNat (48 + k % 10) ∧ dg_900.getD k 0 = Int32.ofNat (48 + k / 10) ∧ vp_nar .byte (dg_901.getD k 0) = dg_901.getD k 0 ∧ vp_nar .byte (dg_900.getD k 0) = dg_900.getD k 0 := by decide +kernel
theorem dg_q : ∀ n, n < 1000 → (-(Int32.ofNat n)) / 100 = -(Int32.ofNat (n / 100)) ∧ (-(Int32.ofNat n) / 100) * 100 - (-(Int32.ofNat n)) = Int32.ofNat (n % 100) := by decide +kernel
theorem ii_p (k : Nat) : Int32.ofNat (k + 1) + (-1) = Int32.ofNat k := by
  have := ii_u (k + 1) 1 (by omega)
  rw [Nat.add_sub_cancel] at this
  rw [← this, Int32.sub_eq_add_neg]
  rfl
/-- the digits are written from the right: the last two -/
theorem sp_gc72 {n L c : Nat} {b : List Int32} {w1 w3 w4 : Option Value} (hL : hh_L h) (s4 : h.1[c]? = some (.inl (2, b))) (s5 : (c = 97 ∧ b.length = 16) ∨ 99 ≤ c) (s7 : b.length < 1000) (o4 : tr_ow w4 = true) (hn : n < 100) (hb : L + (dgs n).length ≤ b.length) : tr_L g d m_J6_getChars_ba4f3 72 [some (.int (-(Int32.ofNat n))), w1, some (.ref (c + 1000)), w3, w4, some (.int (Int32.ofNat (L + (dgs n).length))), some (.int 0)] [] h (.inl (some (.int (Int32.ofNat L))), bw h c (if n < 10 then b.set L (Int32.ofNat (48 + n)) else (b.set (L + 1) (Int32.ofNat (48 + n % 10))).set L (Int32.ofNat (48 + n / 10)))) := by
  have cl : c < h.1.length := (List.getElem?_eq_some_iff.mp s4).1
  have c9 : (-9 : Int32).toInt = -9 := by decide
  obtain ⟨d1, d2, d3, d4⟩ := dg_v n hn
  have e0 : -(-(Int32.ofNat n)) = Int32.ofNat n := Int32.neg_neg
  by_cases h1 : n < 10
  · have ed : (dgs n).length = 1 := by rw [dgs, if_pos h1]; rfl
    rw [ed] at hb ⊢
    rw [if_pos h1]
    have hL1 : hh_L (bw h c (b.set L (Int32.ofNat (48 + n)))) := bw_L hL (by rw [List.length_set]; exact s5)
    have q : n % 10 = n := by omega
    rw [q] at d1
    refine sg_J6_getChars_ba4f3_72 hL (o4 := o4) (e0 := e0) (b0 := hn) (e1 := ii_p L) (hb0 := d3) (m0 := s4) (z0 := by omega) (b1 := by omega) (t := fun _ => ?_) (f := fun t => ?_)
    · rw [d1, ii_p]
      exact sg_J6_getChars_ba4f3_104 hL1 (fun _ => sg_J6_getChars_ba4f3_118 hL1 rfl) (fun t => absurd rfl t)
    · rw [Int32.lt_iff_toInt_lt, ii_ng (by omega), c9] at t
      omega
  · have ed : (dgs n).length = 2 := by rw [dgs, if_neg h1, if_pos hn]; rfl
    rw [ed] at hb ⊢
    rw [if_neg h1]
    have hL1 : hh_L (bw h c (b.set (L + 1) (Int32.ofNat (48 + n % 10)))) := bw_L hL (by rw [List.length_set]; exact s5)
    have hL2 : hh_L (bw h c ((b.set (L + 1) (Int32.ofNat (48 + n % 10))).set L (Int32.ofNat (48 + n / 10)))) := bw_L hL (by rw [List.length_set, List.length_set]; exact s5)
    refine sg_J6_getChars_ba4f3_72 hL (o4 := o4) (e0 := e0) (b0 := hn) (e1 := ii_p (L + 1)) (hb0 := d3) (m0 := s4) (z0 := by omega) (b1 := by omega) (t := fun t => ?_) (f := fun _ => ?_)
    · rw [Int32.le_iff_toInt_le, ii_ng (by omega), c9] at t
      omega
    · rw [d1, ii_p]
      refine sg_J6_getChars_ba4f3_91 hL1 (o4 := o4) (e0 := e0) (b0 := hn) (e1 := ii_p L) (hb0 := d4) (m0 := bw_c cl) (z0 := by rw [List.length_set]; omega) (b1 := by rw [List.length_set]; omega) (k := ?_)
      rw [d2, ii_p]
      show tr_L g d m_J6_getChars_ba4f3 104 _ [] (bw (bw h c _) c _) _
      rw [bw_bw]
      exact sg_J6_getChars_ba4f3_104 hL2 (fun _ => sg_J6_getChars_ba4f3_118 hL2 rfl) (fun t => absurd rfl t)
theorem tk_set1 {b l : List Int32} {x : Int32} (s9 : b.take l.length = l) (hb : l.length + 1 ≤ b.length) : (b.set l.length x).take (l.length + 1) = l ++ [x] := by
  rw [List.take_succ, List.take_set_of_le (Nat.le_refl _), s9, List.getElem?_set_self (by omega)]
  rfl
theorem tk_set2 {b l : List Int32} {x y : Int32} (s9 : b.take l.length = l) (hb : l.length + 2 ≤ b.length) : ((b.set (l.length + 1) y).set l.length x).take (l.length + 2) = l ++ [x, y] := by
  rw [List.set_comm _ _ (by omega)]
  have q1 := tk_set1 (x := x) s9 (by omega)
  have q2 := tk_set1 (b := b.set l.length x) (l := l ++ [x]) (x := y) (by rw [List.length_append]; exact q1) (by rw [List.length_set, List.length_append]; exact hb)
  rw [List.length_append] at q2
  simpa using q2
theorem tk_set3 {b l : List Int32} {x y z : Int32} (s9 : b.take l.length = l) (hb : l.length + 3 ≤ b.length) : (((b.set (l.length + 2) z).set (l.length + 1) y).set l.length x).take (l.length + 3) = l ++ [x, y, z] := by
  rw [List.set_comm (i := l.length + 2) _ _ (by omega), List.set_comm (i := l.length + 2) _ _ (by omega)]
  have q1 := tk_set2 (x := x) (y := y) s9 (by omega)
  have q2 := tk_set1 (b := (b.set (l.length + 1) y).set l.length x) (l := l ++ [x, y]) (x := z) (by rw [List.length_append]; exact q1) (by rw [List.length_set, List.length_set, List.length_append]; exact hb)
  rw [List.length_append] at q2
  simpa using q2
theorem sp_gc {n c : Nat} {l b : List Int32} (hL : hh_L h) (s4 : h.1[c]? = some (.inl (2, b))) (s5 : (c = 97 ∧ b.length = 16) ∨ 99 ≤ c) (s7 : b.length < 1000) (s9 : b.take l.length = l) (s10 : ∀ x ∈ b, sb_c x) (hn : n < 1000) (hb : l.length + (dgs n).length ≤ b.length) : ∃ b', tr_L g d m_J6_getChars_ba4f3 0 [some (.int (Int32.ofNat n)), some (.int (Int32.ofNat (l.length + (dgs n).length))), some (.ref (c + 1000)), none, none, none, none] [] h (.inl (some (.int (Int32.ofNat l.length))), bw h c b') ∧ b'.length = b.length ∧ b'.take (l.length + (dgs n).length) = l ++ dgs n ∧ ∀ x ∈ b', sb_c x := by
  have cl : c < h.1.length := (List.getElem?_eq_some_iff.mp s4).1
  have c100 : (-100 : Int32).toInt = -100 := by decide
  have pre : ∀ r, tr_L g d m_J6_getChars_ba4f3 22 [some (.int (-(Int32.ofNat n))), some (.int (Int32.ofNat (l.length + (dgs n).length))), some (.ref (c + 1000)), none, none, some (.int (Int32.ofNat (l.length + (dgs n).length))), some (.int 0)] [] h r → tr_L g d m_J6_getChars_ba4f3 0 [some (.int (Int32.ofNat n)), some (.int (Int32.ofNat (l.length + (dgs n).length))), some (.ref (c + 1000)), none, none, none, none] [] h r := fun r k =>
    sg_J6_getChars_ba4f3_0 hL (fun _ => sg_J6_getChars_ba4f3_11 hL (fun t => absurd rfl t) (fun _ => sg_J6_getChars_ba4f3_19 hL k)) (fun t => absurd t (Int32.not_lt.mpr (ii_nn (by omega))))
  have mem : ∀ (b : List Int32) (i k : Nat), k < 80 → (∀ x ∈ b, sb_c x) → ∀ x ∈ b.set i (Int32.ofNat (48 + k)), sb_c x := fun b i k hk hb x hx => by
    rcases List.mem_or_eq_of_mem_set hx with h' | rfl
    · exact hb x h'
    · exact ⟨48 + k, by omega, rfl⟩
  by_cases h1 : n < 100
  · have r1 := sp_gc72 (g := g) (d := d) (L := l.length) (w1 := some (.int (Int32.ofNat (l.length + (dgs n).length)))) (w3 := none) (w4 := none) hL s4 s5 s7 rfl h1 hb
    refine ⟨_, pre _ (sg_J6_getChars_ba4f3_22 hL (fun _ => r1) (fun t => ?_)), ?_, ?_, ?_⟩
    · rw [Int32.le_iff_toInt_le, ii_ng (by omega), c100] at t
      omega
    · split <;> simp
    · by_cases h2 : n < 10
      · rw [if_pos h2]
        rw [dgs, if_pos h2] at hb ⊢
        exact tk_set1 s9 hb
      · rw [if_neg h2]
        rw [dgs, if_neg h2, if_pos h1] at hb ⊢
        exact tk_set2 s9 hb
    · split
      · exact mem b _ _ (by omega) s10
      · exact mem _ _ _ (by omega) (mem b _ _ (by omega) s10)
  · have ed : (dgs n).length = 3 := by rw [dgs, if_neg (by omega), if_neg h1]; rfl
    obtain ⟨d1, d2, d3, d4⟩ := dg_v (n % 100) (by omega)
    obtain ⟨q1, q2⟩ := dg_q n hn
    have n1 : n % 100 % 10 = n % 10 := by omega
    have n2 : n % 100 / 10 = n / 10 % 10 := by omega
    rw [n1] at d1
    rw [n2] at d2
    have hL1 : hh_L (bw h c (b.set (l.length + 2) (Int32.ofNat (48 + n % 10)))) := bw_L hL (by rw [List.length_set]; exact s5)
    have hL2 : hh_L (bw h c ((b.set (l.length + 2) (Int32.ofNat (48 + n % 10))).set (l.length + 1) (Int32.ofNat (48 + n / 10 % 10)))) := bw_L hL (by rw [List.length_set, List.length_set]; exact s5)
    have e7 : (dgs (n / 100)).length = 1 := by rw [dgs, if_pos (by omega)]; rfl
    have r1 := fun w1 w3 (y : Int32) => sp_gc72 (g := g) (d := d) (n := n / 100) (L := l.length) (w1 := w1) (w3 := w3) (w4 := some (.int y)) hL2 (bw_c cl) (by rw [List.length_set, List.length_set]; exact s5) (by rw [List.length_set, List.length_set]; exact s7) rfl (by omega) (by rw [e7, List.length_set, List.length_set]; omega)
    refine ⟨((b.set (l.length + 2) (Int32.ofNat (48 + n % 10))).set (l.length + 1) (Int32.ofNat (48 + n / 10 % 10))).set l.length (Int32.ofNat (48 + n / 100)), pre _ (sg_J6_getChars_ba4f3_22 hL (fun t => ?_) (fun _ => ?_)), ?_, ?_, ?_⟩
    · rw [Int32.lt_iff_toInt_lt, ii_ng (by omega), c100] at t
      omega
    · rw [ed]
      refine sg_J6_getChars_ba4f3_28 hL (j0 := n % 100) (j2 := n % 100) (l1 := b.set (l.length + 2) (Int32.ofNat (48 + n % 10))) (e0 := q2) (b0 := by omega) (e1 := ii_p (l.length + 2)) (hb0 := d3) (m0 := s4) (z0 := by omega) (b1 := by omega) (e2 := q2) (b2 := by omega) (e3 := by rw [ii_p]; exact ii_p (l.length + 1)) (hb1 := d4) (m1 := by rw [d1]; exact bw_c cl) (z1 := by rw [List.length_set]; omega) (b3 := by rw [List.length_set]; omega) (k := ?_)
      rw [ii_p (l.length + 2), ii_p (l.length + 1), d1, d2, q1]
      show tr_L g d m_J6_getChars_ba4f3 22 _ [] (bw (bw h c _) c _) _
      rw [bw_bw]
      refine sg_J6_getChars_ba4f3_22 hL2 (fun _ => ?_) (fun t => ?_)
      · have := r1 (some (.int (Int32.ofNat (l.length + 3)))) (some (.int (-(Int32.ofNat (n / 100))))) (-Int32.ofNat (n / 100) * 100 - -Int32.ofNat n)
        rw [e7, if_pos (show n / 100 < 10 by omega), bw_bw] at this
        exact this
      · rw [Int32.le_iff_toInt_le, ii_ng (by omega), c100] at t
        omega
    · simp
    · rw [ed, dgs, if_neg (by omega), if_neg h1]
      exact tk_set3 s9 (by omega)
    · exact mem _ _ _ (by omega) (mem _ _ _ (by omega) (mem _ _ _ (by omega) s10))
/-- append of a number to the output -/
theorem sb_appN {l : List Int32} {n : Nat} (hL : hh_L h) (s : sb h 96 l) (hn : n < 1000) (hr : l.length + (dgs n).length ≤ 16) : ∃ h' c, tr_L g (d + 2) m_J4_append_bf812 0 [some (.ref 1096), some (.int (Int32.ofNat n))] [] h (.inl (some (.ref 1096)), h') ∧ hh_F [96, c] h h' ∧ (c = 97 ∨ 99 ≤ c) ∧ sb h' 96 (l ++ dgs n) ∧ (hh_v h 96)[0]? = some (.ref (c + 1000)) ∧ (hh_v h' 96)[0]? = some (.ref (c + 1000)) := by
  obtain ⟨s1, s2, c, b, s3, s4, s5, s6, s7, s8, s9, s10⟩ := s
  have hk := ht96
  have cl : c < h.1.length := (List.getElem?_eq_some_iff.mp s4).1
  obtain ⟨b', r1, r2, r3, r4⟩ := sp_gc (g := g) (d := d) hL s4 (s5.imp id And.left) s7 s9 s10 hn (by omega)
  have e1 : hh_i h 96 3 + Int32.ofNat (dgs n).length = Int32.ofNat (l.length + (dgs n).length) := by rw [s2, ii_a]
  have hne : c ≠ 96 := by omega
  have qv : hh_v (bw h c b') 96 = hh_v h 96 := by
    have : (bw h c b').1[96]? = h.1[96]? := by
      simp only [ev_wr, Nat.add_sub_cancel]
      rw [List.getElem?_set_ne hne]
    simp only [hh_v, this]
  refine ⟨hh_si (bw h c b') 96 9 3 (Int32.ofNat (l.length + (dgs n).length)), c, sg_J4_append_bf812_o_0 hL (c_0 := sg_J5_append_c97b9_o_0 hL (v1 := 1) (h1 := h) (h2 := h) (h3 := h) (sp_size hL hn) (by rw [e1]; exact sb_ens_o hL s1 s3 s4 s7 (by omega)) (sb_lat_o (l := l) hL s1) (fun t => absurd t (by decide)) (fun _ => ?_)) (hr := rfl), hh_F_tr (h2 := bw h c b') (hh_F_sa (by simp)) (hh_F_si (by simp)), ?_, ⟨?_, ?_, c, b', ?_, ?_, ?_, ?_, ?_, ?_, ?_, r4⟩, s3, by rw [hh_v_si (hh_L_lt r1.2 (by decide)), if_pos rfl, qv, List.getElem?_set_ne (by decide)]; exact s3⟩
  · rw [e1]
    exact sg_J5_append_c97b9_o_24 hL s3 r1 rfl
  · rcases s5 with ⟨e, _⟩ | e
    · exact Or.inl e
    · exact Or.inr e.1
  · rw [hh_i_sis r1.2 hk (by decide), if_neg (by decide), sb_iv qv]; exact s1
  · rw [hh_i_sis r1.2 hk (by decide), if_pos rfl, List.length_append]
  · rw [hh_v_si (hh_L_lt r1.2 (by decide)), if_pos rfl, qv, List.getElem?_set_ne (by decide)]; exact s3
  · have : (hh_si (bw h c b') 96 9 3 (Int32.ofNat (l.length + (dgs n).length))).1[c]? = (bw h c b').1[c]? := by
      simp only [hh_si]
      rw [List.getElem?_set_ne (Ne.symm hne)]
    rw [this]
    exact bw_c cl
  · rw [r2]; exact s5
  · rw [List.length_append, r2]; omega
  · rw [r2]; exact s7
  · rw [r2]; exact s8
  · rw [List.length_append]; exact r3
/-- the output: its row never changes its place -/
def sbo (h : ev_AH) (l : List Int32) : Prop := sb h 96 l ∧ (hh_v h 96)[0]? = some (.ref 1097)
theorem sbo_F {ks : List Nat} {h h' : ev_AH} {l : List Int32} (a : hh_F ks h h') (h1 : 96 ∉ ks) (h2 : 97 ∉ ks) (h3 : ∀ j ∈ ks, j < 99) (s : sbo h l) : sbo h' l := ⟨sb_F a h1 h2 h3 s.1, by rw [hh_F_v a h1]; exact s.2⟩
theorem sbo_clr {l : List Int32} (hL : hh_L h) (s : sbo h l) : ∃ h', tr_L g (d + 2) m_J4_setLength_d00df 0 [some (.ref 1096), some (.int 0)] [] h (.inl none, h') ∧ hh_F [96, 97] h h' ∧ sbo h' [] := by
  obtain ⟨h', r1, r2, r3, r4⟩ := sb_clr_o (g := g) (d := d) hL s.1
  exact ⟨h', r1, hh_F_w r2 (by decide), r3, by rw [r4]; exact s.2⟩
theorem sbo_app {l : List Int32} {x : Int32} (hL : hh_L h) (hx : sb_c x) (s : sbo h l) (hr : l.length < 16) : ∃ h', tr_L g (d + 2) m_J4_append_cf468 0 [some (.ref 1096), some (.int x)] [] h (.inl (some (.ref 1096)), h') ∧ hh_F [96, 97] h h' ∧ sbo h' (l ++ [x]) := by
  obtain ⟨h', c, r1, r2, _, r3, r4, r5⟩ := sb_app_o (g := g) (d := d) hL hx s.1 hr
  have e : c = 97 := by simpa using r4.symm.trans s.2
  subst e
  exact ⟨h', r1, r2, r3, r5⟩
theorem sbo_appN {l : List Int32} {n : Nat} (hL : hh_L h) (s : sbo h l) (hn : n < 1000) (hr : l.length + (dgs n).length ≤ 16) : ∃ h', tr_L g (d + 2) m_J4_append_bf812 0 [some (.ref 1096), some (.int (Int32.ofNat n))] [] h (.inl (some (.ref 1096)), h') ∧ hh_F [96, 97] h h' ∧ sbo h' (l ++ dgs n) := by
  obtain ⟨h', c, r1, r2, _, r3, r4, r5⟩ := sb_appN (g := g) (d := d) hL s.1 hn hr
  have e : c = 97 := by simpa using r4.symm.trans s.2
  subst e
  exact ⟨h', r1, r2, r3, r5⟩
/-! words of the constant pool -/
def sw (g : tr_g) (a : Nat) (l : List Int32) : Prop := ∃ (c : Nat) (vs : List Value), (∀ h, ev_rd (tr_G g) h a = some (.inr (8, vs))) ∧ vs[0]? = some (.ref c) ∧ vs[1]? = some (.int 0) ∧ (∀ h, ev_rd (tr_G g) h c = some (.inl (2, l))) ∧ l.length < 1000 ∧ ∀ x ∈ l, sb_c x
theorem sw_len {a : Nat} {l : List Int32} (hL : hh_L h) (s : sw g a l) : tr_L g (d + 1) m_J0_length_8abf5 0 [some (.ref a)] [] h (.inl (some (.int (Int32.ofNat l.length))), h) := by
  obtain ⟨c, vs, s1, s2, s3, s4, s5, s6⟩ := s
  exact sg_J0_length_8abf5_0 hL (m0 := s1 h) (p0 := s2) (m1 := s4 h) (z0 := by omega) (v0 := 0) (c_0 := sg_J0_coder_7d493_0 hL (fun t => absurd t (by decide)) (fun _ => sg_J0_coder_7d493_6 hL (m0 := s1 h) (p0 := s3) (hy0 := by decide) (hr := rfl))) (hr := by rw [sb_sr])
theorem sw_lat {a : Nat} {l : List Int32} (hL : hh_L h) (s : sw g a l) : tr_L g d m_J0_isLatin1_aae02 0 [some (.ref a)] [] h (.inl (some (.int 1)), h) := by
  obtain ⟨c, vs, s1, s2, s3, s4, s5, s6⟩ := s
  exact sg_J0_isLatin1_aae02_0 hL (fun t => absurd t (by decide)) (fun _ => sg_J0_isLatin1_aae02_6 hL (m0 := s1 h) (p0 := s3) (fun t => absurd rfl t) (fun _ => sg_J0_isLatin1_aae02_13 hL rfl))
theorem sw_at {a j : Nat} {l : List Int32} (hL : hh_L h) (hg : ev_cat1 g.2 = true) (s : sw g a l) (hj : j < l.length) : tr_L g (d + 3) m_J0_charAt_5068e 0 [some (.ref a), some (.int (Int32.ofNat j))] [] h (.inl (some (.int (l.getD j 0))), h) := by
  have r0 := sw_lat (g := g) (d := d + 2) hL s
  obtain ⟨c, vs, s1, s2, s3, s4, s5, s6⟩ := s
  have hv := sb_memD s6 hj
  have ec : (((l.getD j 0) &&& 255).toUInt32 % 65536).toInt32 = l.getD j 0 := by
    obtain ⟨k, hk, e⟩ := hv
    rw [e, sb_and k hk]
  refine sg_J0_charAt_5068e_0 hL (m0 := s1 h) r0 (fun t => absurd t (by decide)) (fun _ => sg_J0_charAt_5068e_7 hL (m0 := s1 h) (p0 := s2) (c_0 := sg_J1_charAt_3b067_0 hL (m0 := s4 h) (z0 := by omega) (c_0 := sp_check hL hg hj (by omega)) (e0 := rfl) (m1 := s4 h) (z1 := by omega) (b0 := hj) (hc0 := by rw [ec]; exact sb_ch hv) (hr := by rw [ec])) (hc0 := sb_ch hv) (hr := rfl))
theorem sw_idxL {a : Nat} {l : List Int32} {x : Int32} {w1 w2 : Option Value} (hL : hh_L h) (s4 : ∀ h, ev_rd (tr_G g) h a = some (.inl (2, l))) (s5 : l.length < 1000) : ∀ (m j : Nat), j + m = l.length → ∃ v : Int32, tr_L g d m_J1_indexOfChar_4cfef 7 [some (.ref a), w1, w2, some (.int (Int32.ofNat l.length)), some (.int x), some (.int (Int32.ofNat j))] [] h (.inl (some (.int v)), h) ∧ (0 ≤ v ↔ x ∈ l.drop j) := by
  intro m
  induction m with
  | zero =>
    intro j hj
    refine ⟨-1, sg_J1_indexOfChar_4cfef_7 hL (fun _ => sg_J1_indexOfChar_4cfef_31 hL rfl) (fun t => absurd ((ii_lt (by omega) (by omega)).mp t) (by omega)), ?_⟩
    rw [List.drop_of_length_le (by omega)]
    simp
  | succ m ih =>
    intro j hj
    have hlt : j < l.length := by omega
    obtain ⟨v, r, hv⟩ := ih (j + 1) (by omega)
    have ed : l.drop j = l.getD j 0 :: l.drop (j + 1) := by
      rw [List.drop_eq_getElem_cons hlt, List.getD, List.getElem?_eq_getElem hlt]
      rfl
    by_cases hx : l.getD j 0 = x
    · refine ⟨Int32.ofNat j, sg_J1_indexOfChar_4cfef_7 hL (fun t => absurd ((ii_le (by omega) (by omega)).mp t) (by omega)) (fun _ => sg_J1_indexOfChar_4cfef_13 hL (e0 := rfl) (m0 := s4 h) (z0 := by omega) (b0 := hlt) (t := fun t => absurd hx t) (f := fun _ => sg_J1_indexOfChar_4cfef_22 hL rfl)), ?_⟩
      rw [ed, hx]
      exact ⟨fun _ => List.mem_cons_self, fun _ => ii_nn (by omega)⟩
    · refine ⟨v, sg_J1_indexOfChar_4cfef_7 hL (fun t => absurd ((ii_le (by omega) (by omega)).mp t) (by omega)) (fun _ => sg_J1_indexOfChar_4cfef_13 hL (e0 := rfl) (m0 := s4 h) (z0 := by omega) (b0 := hlt) (t := fun _ => sg_J1_indexOfChar_4cfef_25 hL (by rw [ii_s]; exact r)) (f := fun t => absurd t hx)), ?_⟩
      rw [ed, hv, List.mem_cons]
      exact ⟨Or.inr, fun h => h.resolve_left (fun e => hx e.symm)⟩
theorem sw_idx {a : Nat} {l : List Int32} {x : Int32} (hL : hh_L h) (s : sw g a l) (hx : sb_c x) : ∃ v : Int32, tr_L g (d + 3) m_J0_indexOf_0f7a4 0 [some (.ref a), some (.int x)] [] h (.inl (some (.int v)), h) ∧ (0 ≤ v ↔ x ∈ l) := by
  have r0 := sw_lat (g := g) (d := d + 1) hL s
  have rl := sw_len (g := g) (d := d) hL s
  obtain ⟨c, vs, s1, s2, s3, s4, s5, s6⟩ := s
  obtain ⟨v, r1, r2⟩ := sw_idxL (g := g) (d := d) (x := x) (w1 := some (.int x)) (w2 := some (.int 0)) hL s4 s5 l.length 0 (by omega)
  obtain ⟨k, hk, rfl⟩ := hx
  have rc : tr_L g d m_J1_canEncode_9a6ad 0 [some (.int (Int32.ofNat k))] [] h (.inl (some (.int 1)), h) :=
    sg_J1_canEncode_9a6ad_0 hL (fun t => absurd t (Int32.not_lt.mpr (ii_nn (by omega)))) (fun _ => sg_J1_canEncode_9a6ad_4 hL (fun t => absurd ((ii_lt (a := 255) (by omega) (by omega)).mp t) (by omega)) (fun _ => sg_J1_canEncode_9a6ad_11 hL rfl))
  have em : (if Int32.ofNat l.length < Int32.ofNat l.length then Int32.ofNat l.length else Int32.ofNat l.length) = Int32.ofNat l.length := by split <;> rfl
  have ez : (if (0 : Int32) < 0 then (0 : Int32) else 0) = 0 := by decide
  have r3 : tr_L g (d + 1) m_J1_indexOf_4cfef 0 [some (.ref c), some (.int (Int32.ofNat k)), some (.int 0), some (.int (Int32.ofNat l.length))] [] h (.inl (some (.int (if l.length = 0 then -1 else v))), h) := by
    refine sg_J1_indexOf_4cfef_0 hL (v0 := 1) (h1 := h) (tr_mono (by omega) rc) (fun _ => sg_J1_indexOf_4cfef_9 hL (m0 := s4 h) (z0 := by omega) (fun t => ?_) (fun t => ?_)) (fun t => absurd t (by decide))
    · rw [em, ez] at *
      have := (ii_lt (a := 0) (by omega) (by omega)).mp t
      rw [if_neg (by omega)]
      exact sg_J1_indexOf_4cfef_29 hL (sg_J1_indexOfChar_4cfef_0 hL (by rw [sb_b8 k hk]; exact r1)) rfl
    · rw [em, ez] at t
      have z : l.length = 0 := Nat.le_zero.mp ((ii_le (b := 0) (by omega) (by omega)).mp t)
      rw [if_pos z]
      exact sg_J1_indexOf_4cfef_27 hL rfl
  refine ⟨_, sg_J0_indexOf_0f7a4_0 hL (m0 := s1 h) (c_0 := sg_J0_indexOf_7cf53_0 hL (m0 := s1 h) r0 (fun t => absurd t (by decide)) (fun _ => sg_J0_indexOf_7cf53_7 hL (m0 := s1 h) (p0 := s2) (c_0 := rl) (c_1 := r3) (hr := rfl))) (hr := rfl), ?_⟩
  by_cases hz : l.length = 0
  · rw [if_pos hz, List.length_eq_zero_iff.mp hz]
    simp
  · rw [if_neg hz, r2]
    simp
end
