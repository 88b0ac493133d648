/-! TEXTS THAT ARE MADE: StringBuilders and Strings in new cells -/
/-- frames of new cells: what lies before N stays -/
def hh_U (N m n : Nat) (h h' : ev_AH) : Prop := h.1.length ≤ h'.1.length ∧ h'.2.1 ≤ h.2.1 + m ∧ h'.2.2 ≤ h.2.2 + n ∧ ∀ k : Nat, k < N → h'.1[k]? = h.1[k]?
theorem hh_U_r {N : Nat} {h : ev_AH} : hh_U N 0 0 h h := ⟨Nat.le_refl _, Nat.le_refl _, Nat.le_refl _, fun _ _ => rfl⟩
theorem hh_U_tr {N m n m' n' : Nat} {h1 h2 h3 : ev_AH} (a : hh_U N m n h1 h2) (b : hh_U N m' n' h2 h3) : hh_U N (m + m') (n + n') h1 h3 := ⟨Nat.le_trans a.1 b.1, by have := a.2.1; have := b.2.1; omega, by have := a.2.2.1; have := b.2.2.1; omega, fun k hk => (b.2.2.2 k hk).trans (a.2.2.2 k hk)⟩
theorem hh_U_w {N m n m' n' : Nat} {h h' : ev_AH} (a : hh_U N m n h h') (hm : m ≤ m') (hn : n ≤ n') : hh_U N m' n' h h' := ⟨a.1, Nat.le_trans a.2.1 (by omega), Nat.le_trans a.2.2.1 (by omega), a.2.2.2⟩
theorem push_at {h : ev_AH} {c : ev_AC} {z : Nat} : (hh_push h c z).1[h.1.length]? = some c := by
  rw [hh_push, List.getElem?_append_right (Nat.le_refl _), Nat.sub_self]; rfl
theorem push_ne {h : ev_AH} {c c0 : ev_AC} {z k : Nat} (hk : h.1[k]? = some c0) : (hh_push h c z).1[k]? = some c0 := by
  rw [hh_push, List.getElem?_append_left (List.getElem?_eq_some_iff.mp hk).1]; exact hk
theorem push_len {h : ev_AH} {c : ev_AC} {z : Nat} : (hh_push h c z).1.length = h.1.length + 1 := by simp [hh_push]
theorem hh_U_push {N : Nat} {h : ev_AH} {c : ev_AC} {z : Nat} (hN : N ≤ h.1.length) : hh_U N 1 z h (hh_push h c z) := ⟨by rw [push_len]; omega, Nat.le_refl _, Nat.le_refl _, fun k hk => by rw [hh_push, List.getElem?_append_left (by omega)]⟩
theorem wr_at {h : ev_AH} {a : Nat} {c c0 : ev_AC} (ha : h.1[a]? = some c0) : (ev_wr h (a + 1000) c).1[a]? = some c := by
  simp only [ev_wr, Nat.add_sub_cancel]
  rw [List.getElem?_set_self (List.getElem?_eq_some_iff.mp ha).1]
theorem wr_ne {h : ev_AH} {a k : Nat} {c : ev_AC} (hne : a ≠ k) : (ev_wr h (a + 1000) c).1[k]? = h.1[k]? := by
  simp only [ev_wr, Nat.add_sub_cancel]
  rw [List.getElem?_set_ne hne]
theorem wr_L {h : ev_AH} {a : Nat} {c : ev_AC} (hL : hh_L h) (ha : 99 ≤ a) : hh_L (ev_wr h (a + 1000) c) := by
  have := hh_L_hi (c := c) hL ha
  simpa only [ev_wr, Nat.add_sub_cancel] using this
theorem hh_U_wr {N : Nat} {h : ev_AH} {a : Nat} {c : ev_AC} (ha : N ≤ a) : hh_U N 0 0 h (ev_wr h (a + 1000) c) := ⟨by simp [ev_wr], Nat.le_refl _, Nat.le_refl _, fun k hk => wr_ne (by omega)⟩
/-- the StringBuilder of cell a holds l and has room for k -/
def sdc (N : Nat) (h : ev_AH) (a : Nat) (l : List Int32) (k : Nat) : Prop := ∃ (c : Nat) (b : List Int32) (z : Int32), h.1[a]? = some (.inr (9, [.ref (c + 1000), .int 0, .int z, .int (Int32.ofNat l.length)])) ∧ h.1[c]? = some (.inl (2, b)) ∧ N ≤ a ∧ N ≤ c ∧ (b.length = 16 ∨ b.length = 34) ∧ l.length ≤ b.length ∧ k ≤ b.length ∧ b.take l.length = l ∧ ∀ x ∈ b, sb_c x
abbrev sd (N : Nat) (h : ev_AH) (a : Nat) (l : List Int32) : Prop := sdc N h a l 0
section
variable {g : tr_g} {d : Nat} {h : ev_AH}
theorem sb_c0 : sb_c 0 := ⟨0, by omega, rfl⟩
theorem sd_init {N a : Nat} (hL : hh_L h) (ha : h.1[a]? = some (.inr (9, [.null, .int 0, .int 0, .int 0]))) (h9 : 99 ≤ N) (hN : N ≤ a) : ∃ h', tr_L g (d + 1) m_J4_init_da8c8 0 [some (.ref (a + 1000))] [] h (.inl none, h') ∧ hh_U N 1 16 h h' ∧ sd N h' a [] := by
  have hal := (List.getElem?_eq_some_iff.mp ha).1
  obtain ⟨h1, eh1⟩ : ∃ h1, h1 = hh_push h (.inl (2, List.replicate 16 0)) 16 := ⟨_, rfl⟩
  have a1 : h1.1[a]? = some (.inr (9, [.null, .int 0, .int 0, .int 0])) := by rw [eh1]; exact push_ne ha
  have b1 : h1.1[h.1.length]? = some (.inl (2, List.replicate 16 0)) := by rw [eh1]; exact push_at
  have hL1 : hh_L h1 := by rw [eh1]; exact hh_L_push hL
  have U1 : hh_U N 1 16 h h1 := by rw [eh1]; exact hh_U_push (by omega)
  obtain ⟨h2, eh2⟩ : ∃ h2, h2 = ev_wr h1 (a + 1000) (.inr (9, [.ref (h.1.length + 1000), .int 0, .int 0, .int 0])) := ⟨_, rfl⟩
  have a2 : h2.1[a]? = some (.inr (9, [.ref (h.1.length + 1000), .int 0, .int 0, .int 0])) := by rw [eh2]; exact wr_at a1
  have b2 : h2.1[h.1.length]? = some (.inl (2, List.replicate 16 0)) := by rw [eh2, wr_ne (by omega)]; exact b1
  have hL2 : hh_L h2 := by rw [eh2]; exact wr_L hL1 (by omega)
  have U2 : hh_U N 0 0 h1 h2 := by rw [eh2]; exact hh_U_wr hN
  obtain ⟨h3, eh3⟩ : ∃ h3, h3 = ev_wr h2 (a + 1000) (.inr (9, [.ref (h.1.length + 1000), .int 0, .int 0, .int 0])) := ⟨_, rfl⟩
  have a3 : h3.1[a]? = some (.inr (9, [.ref (h.1.length + 1000), .int 0, .int 0, .int 0])) := by rw [eh3]; exact wr_at a2
  have b3 : h3.1[h.1.length]? = some (.inl (2, List.replicate 16 0)) := by rw [eh3, wr_ne (by omega)]; exact b2
  have hL3 : hh_L h3 := by rw [eh3]; exact wr_L hL2 (by omega)
  have U3 : hh_U N 0 0 h2 h3 := by rw [eh3]; exact hh_U_wr hN
  refine ⟨h3, sg_J4_init_da8c8_r_0 hL (c_0 := sg_J5_init_d00df_r_0 hL (fun t => absurd t (by decide)) (fun _ => sg_J5_init_d00df_r_10 hL (j0 := 16) (e0 := rfl) (b0 := by omega) (eh0 := eh1) (ec0 := rfl) (m0 := a1) (q0 := by simp) (eh1 := eh2) (hLs0 := hL2) (m1 := a2) (q1 := by simp) (eh2 := eh3) (hLs1 := hL3) (hr := rfl))) (hr := rfl), hh_U_tr U1 (hh_U_tr U2 U3), h.1.length, List.replicate 16 0, 0, a3, b3, hN, by omega, Or.inl (by simp), by simp, by simp, rfl, fun x hx => ?_⟩
  rw [List.eq_of_mem_replicate hx]
  exact sb_c0
theorem sd_len {N a k : Nat} {l : List Int32} (hL : hh_L h) (s : sdc N h a l k) : tr_L g (d + 1) m_J4_length_8abf5 0 [some (.ref (a + 1000))] [] h (.inl (some (.int (Int32.ofNat l.length))), h) := by
  obtain ⟨c, b, z, s1, _⟩ := s
  exact sg_J4_length_8abf5_r_0 hL (m0 := s1) (c_0 := sg_J5_length_8abf5_r_0 hL (m0 := s1) (p0 := rfl) (hr := rfl)) (hr := rfl)
theorem sd_lat {N a k : Nat} {l : List Int32} (hL : hh_L h) (s : sdc N h a l k) : tr_L g d m_J5_isLatin1_aae02 0 [some (.ref (a + 1000))] [] h (.inl (some (.int 1)), h) := by
  obtain ⟨c, b, z, s1, _⟩ := s
  exact sg_J5_isLatin1_aae02_r_0 hL (fun t => absurd t (by decide)) (fun _ => sg_J5_isLatin1_aae02_r_6 hL (m0 := s1) (p0 := rfl) (fun t => absurd rfl t) (fun _ => sg_J5_isLatin1_aae02_r_13 hL rfl))
theorem sb_fitL {b : List Int32} (hf : ∀ x ∈ b, sb_c x) : b.all (fun x => fits .byte (.int x)) = true := by
  rw [List.all_eq_true]
  intro x hx
  obtain ⟨k, hk, rfl⟩ := hf x hx
  exact sb_fit k hk
/-- room is made -/
theorem sd_ens {N a k m : Nat} {l : List Int32} (hL : hh_L h) (s : sdc N h a l k) (hm : m ≤ 34) (h9 : 99 ≤ N) (hN : N ≤ h.1.length) : ∃ h', tr_L g (d + 2) m_J5_ensureCapacityInternal_d00df 0 [some (.ref (a + 1000)), some (.int (Int32.ofNat m)), none] [] h (.inl none, h') ∧ hh_U N 1 34 h h' ∧ sdc N h' a l m := by
  obtain ⟨c, b, z, s1, s2, s3, s4, s5, s6, s7, s8, s9⟩ := s
  have hb : b.length ≤ 34 := by omega
  have e0 : (0 : Int32).toInt = 0 := by decide
  by_cases hmb : m ≤ b.length
  · refine ⟨h, sg_J5_ensureCapacityInternal_d00df_r_0 hL (m0 := s1) (p0 := rfl) (m1 := s2) (z0 := by omega) (p1 := rfl) (fun _ => sg_J5_ensureCapacityInternal_d00df_r_38 hL rfl) (fun t => ?_), hh_U_w hh_U_r (by omega) (by omega), c, b, z, s1, s2, s3, s4, s5, s6, hmb, s8, s9⟩
    rw [sb_sr, Int32.lt_iff_toInt_lt, ii_su (by omega) (by omega)] at t
    rw [e0] at t
    omega
  · have hb : b.length = 16 := by omega
    have hcl := (List.getElem?_eq_some_iff.mp s2).1
    have n0 := sp_newLen (g := g) (d := d) (m := m) (n := b.length) hL (by omega) (by omega) (by omega)
    have r1 : tr_L g (d + 1) m_J5_newCapacity_0f7a4 0 [some (.ref (a + 1000)), some (.int (Int32.ofNat m)), none, none, none, none] [] h (.inl (some (.int (Int32.ofNat (2 * b.length + 2)))), h) := by
      refine sg_J5_newCapacity_0f7a4_r_0 hL (m0 := s1) (p0 := rfl) (m1 := s2) (z0 := by omega) (p1 := rfl) (v0 := Int32.ofNat (2 * b.length + 2)) (h1 := h) (c_0 := by rw [sb_sl, sb_sl]; exact n0) (fun _ => sg_J5_newCapacity_0f7a4_r_51 hL (m0 := s1) (p0 := rfl) (hr := by rw [sb_sr])) (fun t => ?_)
      exact absurd ((ii_eq (b := 2147483647) (by omega) (by omega)).mp t) (by omega)
    obtain ⟨h1, eh1⟩ : ∃ h1, h1 = hh_push h (.inl (2, List.replicate (2 * b.length + 2) 0)) (2 * b.length + 2) := ⟨_, rfl⟩
    have a1 : h1.1[a]? = some (.inr (9, [.ref (c + 1000), .int 0, .int z, .int (Int32.ofNat l.length)])) := by rw [eh1]; exact push_ne s1
    have b1 : h1.1[c]? = some (.inl (2, b)) := by rw [eh1]; exact push_ne s2
    have c1 : h1.1[h.1.length]? = some (.inl (2, List.replicate (2 * b.length + 2) 0)) := by rw [eh1]; exact push_at
    have hL1 : hh_L h1 := by rw [eh1]; exact hh_L_push hL
    have U1 : hh_U N 1 34 h h1 := by rw [eh1]; exact hh_U_w (hh_U_push hN) (Nat.le_refl _) (by omega)
    have hal := (List.getElem?_eq_some_iff.mp s1).1
    have ev : b.take b.length ++ (List.replicate (2 * b.length + 2) (0 : Int32)).drop b.length = b ++ List.replicate (b.length + 2) 0 := by
      rw [List.take_length, List.drop_replicate, show 2 * b.length + 2 - b.length = b.length + 2 by omega]
    obtain ⟨h2, eh2⟩ : ∃ h2, h2 = ev_wr h1 (h.1.length + 1000) (.inl (2, b.take b.length ++ (List.replicate (2 * b.length + 2) (0 : Int32)).drop b.length)) := ⟨_, rfl⟩
    have a2 : h2.1[a]? = some (.inr (9, [.ref (c + 1000), .int 0, .int z, .int (Int32.ofNat l.length)])) := by rw [eh2, wr_ne (by omega)]; exact a1
    have c2 : h2.1[h.1.length]? = some (.inl (2, b ++ List.replicate (b.length + 2) 0)) := by rw [eh2, ev]; exact wr_at c1
    have hL2 : hh_L h2 := by rw [eh2]; exact wr_L hL1 (by omega)
    have U2 : hh_U N 0 0 h1 h2 := by rw [eh2]; exact hh_U_wr hN
    have r2 : tr_L g (d + 1) m_J7_copyOf_9075b 0 [some (.ref (c + 1000)), some (.int ((Int32.ofNat (2 * b.length + 2)) <<< ((0 : Int32) &&& 31))), none] [] h (.inl (some (.ref (h.1.length + 1000))), h2) := by
      rw [sb_sl]
      refine sg_J7_copyOf_9075b_0 hL s2 (by omega) (fun _ => ?_) (fun t => absurd ((ii_eq (by omega) (by omega)).mp t) (by omega))
      have e1 : (if Int32.ofNat (2 * b.length + 2) < Int32.ofNat b.length then Int32.ofNat (2 * b.length + 2) else Int32.ofNat b.length) = Int32.ofNat b.length := if_neg (fun c => absurd ((ii_lt (by omega) (by omega)).mp c) (by omega))
      exact sg_J7_copyOf_9075b_14 hL (e0 := rfl) (b0 := by omega) (eh0 := eh1) (ec0 := rfl) (m0 := b1) (z0 := by omega) (m1 := c1) (z1 := by rw [List.length_replicate]; omega) (e1 := e1) (b1 := Nat.le_refl _) (b2 := by rw [List.length_replicate]; omega) (b3 := by omega) (hf0 := by rw [List.take_length]; exact sb_fitL s9) (hr := by rw [eh2]) (hLe := by rw [← eh2]; exact hL2)
    obtain ⟨h3, eh3⟩ : ∃ h3, h3 = ev_wr h2 (a + 1000) (.inr (9, [.ref (h.1.length + 1000), .int 0, .int z, .int (Int32.ofNat l.length)])) := ⟨_, rfl⟩
    have a3 : h3.1[a]? = some (.inr (9, [.ref (h.1.length + 1000), .int 0, .int z, .int (Int32.ofNat l.length)])) := by rw [eh3]; exact wr_at a2
    have c3 : h3.1[h.1.length]? = some (.inl (2, b ++ List.replicate (b.length + 2) 0)) := by rw [eh3, wr_ne (by omega)]; exact c2
    have hL3 : hh_L h3 := by rw [eh3]; exact wr_L hL2 (by omega)
    have U3 : hh_U N 0 0 h2 h3 := by rw [eh3]; exact hh_U_wr s3
    have n1 : (b ++ List.replicate (b.length + 2) (0 : Int32)).length = 34 := by simp; omega
    refine ⟨h3, sg_J5_ensureCapacityInternal_d00df_r_0 hL (m0 := s1) (p0 := rfl) (m1 := s2) (z0 := by omega) (p1 := rfl) (fun t => ?_) (fun _ => sg_J5_ensureCapacityInternal_d00df_r_17 hL (m0 := s1) (p0 := rfl) (c_0 := r1) (m1 := s1) (p1 := rfl) (c_1 := r2) (m2 := a2) (q0 := by simp) (eh0 := eh3) (hLs0 := hL3) (hr := rfl)), hh_U_tr U1 (hh_U_tr U2 U3), h.1.length, b ++ List.replicate (b.length + 2) 0, z, a3, c3, s3, hN, Or.inr n1, by omega, by omega, ?_, ?_⟩
    · rw [sb_sr, Int32.le_iff_toInt_le, ii_su (by omega) (by omega)] at t
      rw [e0] at t
      omega
    · rw [List.take_append_of_le_length s6]; exact s8
    · intro y hy
      rcases List.mem_append.mp hy with hy | hy
      · exact s9 y hy
      · rw [List.eq_of_mem_replicate hy]; exact sb_c0
/-- a character more -/
theorem sd_app {N a k : Nat} {l : List Int32} {x : Int32} (hL : hh_L h) (hx : sb_c x) (s : sdc N h a l k) (hl : l.length < 34) (h9 : 99 ≤ N) (hN : N ≤ h.1.length) : ∃ h', tr_L g (d + 4) m_J4_append_cf468 0 [some (.ref (a + 1000)), some (.int x)] [] h (.inl (some (.ref (a + 1000))), h') ∧ hh_U N 1 34 h h' ∧ sd N h' a (l ++ [x]) := by
  obtain ⟨h1, q1, U1, sq⟩ := sd_ens (g := g) (d := d) (m := l.length + 1) hL s (by omega) h9 hN
  have hL1 := q1.2
  have ql := sd_lat (g := g) (d := d + 2) hL1 sq
  obtain ⟨c0, b0, z0, s1, _⟩ := s
  obtain ⟨c, b, z, t1, t2, t3, t4, t5, t6, t7, t8, t9⟩ := sq
  obtain ⟨kx, hk, ek⟩ := hx
  have hal := (List.getElem?_eq_some_iff.mp t1).1
  have hne : a ≠ c := fun e => by
    rw [e, t2] at t1
    cases t1
  obtain ⟨h2, eh2⟩ : ∃ h2, h2 = ev_wr h1 (a + 1000) (.inr (9, [.ref (c + 1000), .int 0, .int z, .int (Int32.ofNat l.length + 1)])) := ⟨_, rfl⟩
  have a2 : h2.1[a]? = some (.inr (9, [.ref (c + 1000), .int 0, .int z, .int (Int32.ofNat l.length + 1)])) := by rw [eh2]; exact wr_at t1
  have b2 : h2.1[c]? = some (.inl (2, b)) := by rw [eh2, wr_ne hne]; exact t2
  have hL2 : hh_L h2 := by rw [eh2]; exact wr_L hL1 (by omega)
  have U2 : hh_U N 0 0 h1 h2 := by rw [eh2]; exact hh_U_wr t3
  have ex : x.toInt8.toInt32 = x := by rw [ek]; exact sb_b8 kx hk
  obtain ⟨h3, eh3⟩ : ∃ h3, h3 = ev_wr h2 (c + 1000) (.inl (2, b.set l.length x.toInt8.toInt32)) := ⟨_, rfl⟩
  have a3 : h3.1[a]? = some (.inr (9, [.ref (c + 1000), .int 0, .int z, .int (Int32.ofNat l.length + 1)])) := by rw [eh3, wr_ne (Ne.symm hne)]; exact a2
  have b3 : h3.1[c]? = some (.inl (2, b.set l.length x)) := by rw [eh3, ex]; exact wr_at b2
  have hL3 : hh_L h3 := by rw [eh3]; exact wr_L hL2 (by omega)
  have U3 : hh_U N 0 0 h2 h3 := by rw [eh3]; exact hh_U_wr t4
  refine ⟨h3, sg_J4_append_cf468_r_0 hL (m0 := s1) (c_0 := sg_J5_append_3fe6f_r_0 hL (m0 := s1) (p0 := rfl) (c_0 := by rw [ii_s]; exact q1) (m1 := t1) (c_1 := ql) (fun t => absurd t (by decide)) (fun _ => sg_J5_append_3fe6f_r_17 hL1 (sp_canE hL1 ⟨kx, hk, ek⟩) (fun t => absurd t (by decide)) (fun _ => sg_J5_append_3fe6f_r_24 hL1 (m0 := t1) (p0 := rfl) (p1 := rfl) (q0 := by simp) (eh0 := eh2) (hLs0 := hL2) (e0 := rfl) (hb0 := by rw [ex, ek]; exact sb_nar kx hk) (m1 := b2) (z0 := by omega) (b0 := by omega) (eh1 := eh3) (hLs1 := hL3) (hr := rfl)))) (hr := rfl), hh_U_tr U1 (hh_U_tr U2 U3), c, b.set l.length x, z, ?_, b3, t3, t4, ?_, ?_, by omega, ?_, ?_⟩
  · rw [a3, ii_s, List.length_append]
    rfl
  · rw [List.length_set]; exact t5
  · rw [List.length_set, List.length_append]; exact t7
  · rw [List.length_append]; exact tk_set1 t8 (by omega)
  · intro y hy
    rcases List.mem_or_eq_of_mem_set hy with hy | rfl
    · exact t9 y hy
    · exact ⟨kx, hk, ek⟩
/-- a number more -/
theorem sd_appN {N a k n : Nat} {l : List Int32} (hL : hh_L h) (s : sdc N h a l k) (hn : n < 1000) (hl : l.length + (dgs n).length ≤ 34) (h9 : 99 ≤ N) (hN : N ≤ h.1.length) : ∃ h', tr_L g (d + 4) m_J4_append_bf812 0 [some (.ref (a + 1000)), some (.int (Int32.ofNat n))] [] h (.inl (some (.ref (a + 1000))), h') ∧ hh_U N 1 34 h h' ∧ sd N h' a (l ++ dgs n) := by
  obtain ⟨h1, q1, U1, sq⟩ := sd_ens (g := g) (d := d) (m := l.length + (dgs n).length) hL s (by omega) h9 hN
  have hL1 := q1.2
  have ql := sd_lat (g := g) (d := d + 2) hL1 sq
  obtain ⟨c0, b0, z0, s1, _⟩ := s
  obtain ⟨c, b, z, t1, t2, t3, t4, t5, t6, t7, t8, t9⟩ := sq
  have hal := (List.getElem?_eq_some_iff.mp t1).1
  have hne : a ≠ c := fun e => by
    rw [e, t2] at t1
    cases t1
  obtain ⟨b', r1, r2, r3, r4⟩ := sp_gc (g := g) (d := d + 2) hL1 t2 (Or.inr (by omega)) (by omega) t8 t9 hn (by omega)
  obtain ⟨h2, eh2⟩ : ∃ h2, h2 = bw h1 c b' := ⟨_, rfl⟩
  rw [← eh2] at r1
  have a2 : h2.1[a]? = some (.inr (9, [.ref (c + 1000), .int 0, .int z, .int (Int32.ofNat l.length)])) := by rw [eh2, wr_ne (Ne.symm hne)]; exact t1
  have b2 : h2.1[c]? = some (.inl (2, b')) := by rw [eh2]; exact wr_at t2
  have hL2 := r1.2
  have U2 : hh_U N 0 0 h1 h2 := by rw [eh2]; exact hh_U_wr t4
  obtain ⟨h3, eh3⟩ : ∃ h3, h3 = ev_wr h2 (a + 1000) (.inr (9, [.ref (c + 1000), .int 0, .int z, .int (Int32.ofNat (l.length + (dgs n).length))])) := ⟨_, rfl⟩
  have a3 : h3.1[a]? = some (.inr (9, [.ref (c + 1000), .int 0, .int z, .int (Int32.ofNat (l.length + (dgs n).length))])) := by rw [eh3]; exact wr_at a2
  have b3 : h3.1[c]? = some (.inl (2, b')) := by rw [eh3, wr_ne hne]; exact b2
  have hL3 : hh_L h3 := by rw [eh3]; exact wr_L hL2 (by omega)
  have U3 : hh_U N 0 0 h2 h3 := by rw [eh3]; exact hh_U_wr t3
  have e1 : Int32.ofNat l.length + Int32.ofNat (dgs n).length = Int32.ofNat (l.length + (dgs n).length) := ii_a _ _
  refine ⟨h3, sg_J4_append_bf812_r_0 hL (m0 := s1) (c_0 := sg_J5_append_c97b9_r_0 hL (m0 := s1) (p0 := rfl) (v1 := 1) (h1 := h) (h2 := h1) (h3 := h1) (c_0 := sp_size hL hn) (m1 := s1) (c_1 := by rw [e1]; exact q1) (m2 := t1) (c_2 := ql) (fun t => absurd t (by decide)) (fun _ => ?_)) (hr := rfl), hh_U_tr U1 (hh_U_tr U2 U3), c, b', z, ?_, b3, t3, t4, ?_, ?_, by omega, ?_, r4⟩
  · rw [e1]
    exact sg_J5_append_c97b9_r_24 hL1 (m0 := t1) (p0 := rfl) (c_0 := r1) (m1 := a2) (q0 := by simp) (eh0 := eh3) (hLs0 := hL3) (hr := rfl)
  · rw [a3, List.length_append]
  · rw [r2]; exact t5
  · rw [r2, List.length_append]; exact t7
  · rw [List.length_append]; exact r3
/-- a text that can be read -/
def sy (g : tr_g) (h : ev_AH) (a : Nat) (l : List Int32) : Prop := ∃ (c : Nat) (vs : List Value), ev_rd (tr_G g) h a = some (.inr (8, vs)) ∧ vs[0]? = some (.ref c) ∧ vs[1]? = some (.int 0) ∧ ev_rd (tr_G g) h c = some (.inl (2, l)) ∧ l.length < 1000 ∧ ∀ x ∈ l, sb_c x
theorem sy_w {a : Nat} {l : List Int32} (s : sw g a l) : sy g h a l := by
  obtain ⟨c, vs, s1, s2, s3, s4, s5, s6⟩ := s
  exact ⟨c, vs, s1 h, s2, s3, s4 h, s5, s6⟩
theorem sy_cod {a : Nat} {l : List Int32} (hL : hh_L h) (s : sy g h a l) : tr_L g d m_J0_coder_7d493 0 [some (.ref a)] [] h (.inl (some (.int 0)), h) := by
  obtain ⟨c, vs, s1, s2, s3, s4, s5, s6⟩ := s
  exact sg_J0_coder_7d493_0 hL (fun t => absurd t (by decide)) (fun _ => sg_J0_coder_7d493_6 hL (m0 := s1) (p0 := s3) (hy0 := by decide) (hr := rfl))
theorem sy_len {a : Nat} {l : List Int32} (hL : hh_L h) (s : sy g h a l) : tr_L g (d + 1) m_J0_length_8abf5 0 [some (.ref a)] [] h (.inl (some (.int (Int32.ofNat l.length))), h) := by
  have r0 := sy_cod (g := g) (d := d) hL s
  obtain ⟨c, vs, s1, s2, s3, s4, s5, s6⟩ := s
  exact sg_J0_length_8abf5_0 hL (m0 := s1) (p0 := s2) (m1 := s4) (z0 := by omega) (v0 := 0) (c_0 := r0) (hr := by rw [sb_sr])
theorem sy_at {a j : Nat} {l : List Int32} (hL : hh_L h) (hg : ev_cat1 g.2 = true) (s : sy g h a l) (hj : j < l.length) : tr_L g (d + 3) m_J0_charAt_5068e 0 [some (.ref a), some (.int (Int32.ofNat j))] [] h (.inl (some (.int (l.getD j 0))), h) := by
  obtain ⟨c, vs, s1, s2, s3, s4, s5, s6⟩ := s
  have r0 : tr_L g (d + 2) m_J0_isLatin1_aae02 0 [some (.ref a)] [] h (.inl (some (.int 1)), h) := sg_J0_isLatin1_aae02_0 hL (fun t => absurd t (by decide)) (fun _ => sg_J0_isLatin1_aae02_6 hL (m0 := s1) (p0 := s3) (fun t => absurd rfl t) (fun _ => sg_J0_isLatin1_aae02_13 hL rfl))
  have hv := sb_memD s6 hj
  have ec : (((l.getD j 0) &&& 255).toUInt32 % 65536).toInt32 = l.getD j 0 := by
    obtain ⟨k, hk, e⟩ := hv
    rw [e, sb_and k hk]
  exact sg_J0_charAt_5068e_0 hL (m0 := s1) r0 (fun t => absurd t (by decide)) (fun _ => sg_J0_charAt_5068e_7 hL (m0 := s1) (p0 := s2) (c_0 := sg_J1_charAt_3b067_0 hL (m0 := s4) (z0 := by omega) (c_0 := sp_check hL hg hj (by omega)) (e0 := rfl) (m1 := s4) (z1 := by omega) (b0 := hj) (hc0 := by rw [ec]; exact sb_ch hv) (hr := by rw [ec])) (hc0 := sb_ch hv) (hr := rfl))
/-- a word more -/
theorem sd_appS {N a k a1 : Nat} {l w : List Int32} (hL : hh_L h) (s : sdc N h a l k) (hw : sw g a1 w) (hl : l.length + w.length ≤ 34) (h9 : 99 ≤ N) (hN : N ≤ h.1.length) : ∃ h', tr_L g (d + 5) m_J4_append_15ec4 0 [some (.ref (a + 1000)), some (.ref a1)] [] h (.inl (some (.ref (a + 1000))), h') ∧ hh_U N 1 34 h h' ∧ sd N h' a (l ++ w) := by
  obtain ⟨h1, q1, U1, sq⟩ := sd_ens (g := g) (d := d + 1) (m := l.length + w.length) hL s (by omega) h9 hN
  have hL1 := q1.2
  obtain ⟨c0, b0, z0, s1, _⟩ := s
  obtain ⟨c, b, z, t1, t2, t3, t4, t5, t6, t7, t8, t9⟩ := sq
  have hal := (List.getElem?_eq_some_iff.mp t1).1
  have hne : a ≠ c := fun e => by
    rw [e, t2] at t1
    cases t1
  have y0 : sy g h a1 w := sy_w hw
  have y1 : sy g h1 a1 w := sy_w hw
  have yc0 := sy_cod (g := g) (d := d) hL1 y1
  have yc1 := sy_cod (g := g) (d := d + 1) hL1 y1
  have yl := sy_len (g := g) (d := d + 2) hL y0
  obtain ⟨_, us, us1, _⟩ := y0
  obtain ⟨cw, vs, w1, w2, w3, w4, w5, w6⟩ := y1
  obtain ⟨h2, eh2⟩ : ∃ h2, h2 = ev_wr h1 (c + 1000) (.inl (2, b.take l.length ++ w.take w.length ++ b.drop (l.length + w.length))) := ⟨_, rfl⟩
  have a2 : h2.1[a]? = some (.inr (9, [.ref (c + 1000), .int 0, .int z, .int (Int32.ofNat l.length)])) := by rw [eh2, wr_ne (Ne.symm hne)]; exact t1
  have b2 : h2.1[c]? = some (.inl (2, l ++ w ++ b.drop (l.length + w.length))) := by rw [eh2, wr_at t2, t8, List.take_length]
  have hL2 : hh_L h2 := by rw [eh2]; exact wr_L hL1 (by omega)
  have U2 : hh_U N 0 0 h1 h2 := by rw [eh2]; exact hh_U_wr t4
  obtain ⟨h3, eh3⟩ : ∃ h3, h3 = ev_wr h2 (a + 1000) (.inr (9, [.ref (c + 1000), .int 0, .int z, .int (Int32.ofNat l.length + Int32.ofNat w.length)])) := ⟨_, rfl⟩
  have a3 : h3.1[a]? = some (.inr (9, [.ref (c + 1000), .int 0, .int z, .int (Int32.ofNat l.length + Int32.ofNat w.length)])) := by rw [eh3]; exact wr_at a2
  have b3 : h3.1[c]? = some (.inl (2, l ++ w ++ b.drop (l.length + w.length))) := by rw [eh3, wr_ne hne]; exact b2
  have hL3 : hh_L h3 := by rw [eh3]; exact wr_L hL2 (by omega)
  have U3 : hh_U N 0 0 h2 h3 := by rw [eh3]; exact hh_U_wr t3
  have lb : (l ++ w ++ b.drop (l.length + w.length)).length = b.length := by
    rw [List.length_append, List.length_append, List.length_drop]
    omega
  have rg : tr_L g (d + 1) m_J0_getBytes_840e7 0 [some (.ref a1), some (.ref (c + 1000)), some (.int (Int32.ofNat l.length)), some (.int 0)] [] h1 (.inl none, h2) :=
    sg_J0_getBytes_840e7_r_0 hL1 (m0 := w1) (c_0 := yc0) (fun t => absurd rfl t) (fun _ => sg_J0_getBytes_840e7_r_8 hL1 (m0 := w1) (p0 := w2) (m1 := w4) (z0 := by omega) (m2 := t2) (z1 := by omega) (e0 := rfl) (e1 := by rw [sb_sl]) (b0 := Nat.le_refl _) (b1 := t7) (b2 := by omega) (hf0 := by rw [List.take_length]; exact sb_fitL w6) (eh0 := eh2) (hLs0 := hL2) (hr := rfl))
  have ri : tr_L g (d + 2) m_J5_inflateIfNeededFor_a7421 0 [some (.ref (a + 1000)), some (.ref a1)] [] h1 (.inl none, h1) :=
    sg_J5_inflateIfNeededFor_a7421_r_0 hL1 (fun t => absurd t (by decide)) (fun _ => sg_J5_inflateIfNeededFor_a7421_r_6 hL1 (m0 := t1) (p0 := rfl) (m1 := w1) (c_0 := yc1) (fun _ => sg_J5_inflateIfNeededFor_a7421_r_21 hL1 rfl) (fun t => absurd rfl t))
  have rp : tr_L g (d + 3) m_J5_putStringAt_47b60 0 [some (.ref (a + 1000)), some (.int (Int32.ofNat l.length)), some (.ref a1)] [] h1 (.inl none, h2) :=
    sg_J5_putStringAt_47b60_r_0 hL1 (m0 := t1) (c_0 := ri) (m1 := t1) (p0 := rfl) (p1 := rfl) (m2 := w1) (c_1 := tr_mono (by omega) rg) (hr := rfl)
  refine ⟨h3, sg_J4_append_15ec4_r_0 hL (m0 := s1) (c_0 := sg_J5_append_cf1ce_r_0 hL (m0 := us1) (v0 := Int32.ofNat w.length) (c_0 := yl) (m1 := s1) (p0 := rfl) (c_1 := by rw [ii_a]; exact q1) (m2 := t1) (p1 := rfl) (c_2 := rp) (m3 := a2) (p2 := rfl) (q0 := by simp) (eh0 := eh3) (hLs0 := hL3) (hr := rfl)) (hr := rfl), hh_U_tr U1 (hh_U_tr U2 U3), c, _, z, ?_, b3, t3, t4, ?_, ?_, by omega, ?_, ?_⟩
  · rw [a3, ii_a, List.length_append]
  · rw [lb]; exact t5
  · rw [lb, List.length_append]; exact t7
  · rw [List.take_left]
  · intro y hy
    rcases List.mem_append.mp hy with hy | hy
    · rcases List.mem_append.mp hy with hy | hy
      · rw [← t8] at hy
        exact t9 y (List.mem_of_mem_take hy)
      · exact w6 y hy
    · exact t9 y (List.mem_of_mem_drop hy)
/-- the String in cell a, made -/
def ds (N : Nat) (h : ev_AH) (a : Nat) (l : List Int32) : Prop := ∃ (c : Nat) (vs : List Value), h.1[a]? = some (.inr (8, vs)) ∧ vs[0]? = some (.ref (c + 1000)) ∧ vs[1]? = some (.int 0) ∧ h.1[c]? = some (.inl (2, l)) ∧ N ≤ a ∧ N ≤ c ∧ l.length < 30 ∧ ∀ x ∈ l, sb_c x
theorem ds_sy {N a : Nat} {l : List Int32} (s : ds N h a l) : sy g h (a + 1000) l := by
  obtain ⟨c, vs, s1, s2, s3, s4, s5, s6, s7, s8⟩ := s
  exact ⟨c + 1000, vs, hh_rd s1, s2, s3, hh_rd s4, by omega, s8⟩
/-- the copy of what a text holds -/
theorem sd_copy {N c : Nat} {l b : List Int32} (hL : hh_L h) (t2 : h.1[c]? = some (.inl (2, b))) (t6 : l.length ≤ b.length) (t8 : b.take l.length = l) (t9 : ∀ x ∈ b, sb_c x) (hb : b.length ≤ 34) (h9 : 99 ≤ N) (hN : N ≤ h.1.length) : ∃ h' c', tr_L g (d + 2) m_J7_copyOfRange_39247 0 [some (.ref (c + 1000)), some (.int 0), some (.int (Int32.ofNat l.length))] [] h (.inl (some (.ref (c' + 1000))), h') ∧ hh_U N 1 34 h h' ∧ h'.1[c']? = some (.inl (2, l)) ∧ N ≤ c' ∧ ∀ k, k < h.1.length → h'.1[k]? = h.1[k]? := by
  have hal := (List.getElem?_eq_some_iff.mp t2).1
  have e0 : (0 : Int32).toInt = 0 := by decide
  by_cases e : l.length = b.length
  · have elb : b = l := by rw [← t8, e, List.take_length]
    refine ⟨hh_push h (.inl (2, b)) b.length, h.1.length, sg_J7_copyOfRange_39247_r_0 hL (fun t => absurd rfl t) (fun _ => sg_J7_copyOfRange_39247_r_4 hL (m0 := t2) (z0 := by omega) (fun _ => sg_J7_copyOfRange_39247_r_17 hL (m0 := t2) (z0 := by omega) (hf0 := sb_fitL t9) (eh0 := rfl) (ec0 := rfl) (m1 := push_at) (z1 := by omega) (hr := rfl)) (fun t => absurd (by rw [e]) t)), hh_U_w (hh_U_push hN) (Nat.le_refl _) hb, by rw [push_at, elb], hN, fun k hk => by rw [hh_push, List.getElem?_append_left hk]⟩
  · obtain ⟨h1, eh1⟩ : ∃ h1, h1 = hh_push h (.inl (2, List.replicate l.length 0)) l.length := ⟨_, rfl⟩
    have b1 : h1.1[c]? = some (.inl (2, b)) := by rw [eh1]; exact push_ne t2
    have c1 : h1.1[h.1.length]? = some (.inl (2, List.replicate l.length 0)) := by rw [eh1]; exact push_at
    have hL1 : hh_L h1 := by rw [eh1]; exact hh_L_push hL
    have U1 : hh_U N 1 34 h h1 := by rw [eh1]; exact hh_U_w (hh_U_push hN) (Nat.le_refl _) (by omega)
    obtain ⟨h2, eh2⟩ : ∃ h2, h2 = ev_wr h1 (h.1.length + 1000) (.inl (2, b.take l.length ++ (List.replicate l.length (0 : Int32)).drop l.length)) := ⟨_, rfl⟩
    have c2 : h2.1[h.1.length]? = some (.inl (2, l)) := by
      rw [eh2, wr_at c1, t8, List.drop_replicate, Nat.sub_self]
      simp
    have hL2 : hh_L h2 := by rw [eh2]; exact wr_L hL1 (by omega)
    have U2 : hh_U N 0 0 h1 h2 := by rw [eh2]; exact hh_U_wr hN
    have ez : ∀ n : Nat, Int32.ofNat n - 0 = Int32.ofNat n := fun n => by simp
    have e1 : (if (Int32.ofNat l.length - 0) < ((Int32.ofNat b.length) - 0) then (Int32.ofNat l.length - 0) else ((Int32.ofNat b.length) - 0)) = Int32.ofNat l.length := by
      rw [ez, ez]
      exact if_pos ((ii_lt (by omega) (by omega)).mpr (by omega))
    refine ⟨h2, h.1.length, sg_J7_copyOfRange_39247_r_0 hL (fun t => absurd rfl t) (fun _ => sg_J7_copyOfRange_39247_r_4 hL (m0 := t2) (z0 := by omega) (fun t => absurd ((ii_eq (by omega) (by omega)).mp t) e) (fun _ => sg_J7_copyOfRange_39247_r_10 hL (c_0 := sg_J7_copyOfRangeByte_39247_r_0 hL (j0 := l.length) (j1 := l.length) (c_0 := sg_J7_checkLength_df160_r_0 hL (fun _ => sg_J7_checkLength_df160_r_37 hL rfl) (fun t => absurd t (Int32.not_lt.mpr (ii_nn (by omega))))) (e0 := ez _) (b0 := by omega) (eh0 := eh1) (ec0 := rfl) (m0 := b1) (z0 := by omega) (m1 := c1) (z1 := by rw [List.length_replicate]; omega) (e1 := e1) (b1 := t6) (b2 := by rw [List.length_replicate]; omega) (b3 := by omega) (hf0 := sb_fitL (fun x hx => t9 x (List.mem_of_mem_take hx))) (eh1 := eh2) (hLs0 := hL2) (hr := rfl)) (hr := rfl))), hh_U_tr U1 U2, c2, hN, fun k hk => ?_⟩
    rw [eh2, wr_ne (by omega), eh1, hh_push, List.getElem?_append_left hk]
/-- what has been made is told as a String -/
theorem sd_str {N a k : Nat} {l : List Int32} (hL : hh_L h) (s : sdc N h a l k) (hl : l.length < 30) (h9 : 99 ≤ N) (hN : N ≤ h.1.length) : ∃ h' e, tr_L g (d + 5) m_J4_toString_0e30d 0 [some (.ref (a + 1000))] [] h (.inl (some (.ref (e + 1000))), h') ∧ hh_U N 2 38 h h' ∧ ds N h' e l := by
  obtain ⟨h1, eh1⟩ : ∃ h1, h1 = hh_push h (.inr (8, [.null, .int 0, .int 0, .int 0])) 4 := ⟨_, rfl⟩
  have hL1 : hh_L h1 := by rw [eh1]; exact hh_L_push hL
  have U1 : hh_U N 1 4 h h1 := by rw [eh1]; exact hh_U_push hN
  have n1 : h1.1.length = h.1.length + 1 := by rw [eh1]; exact push_len
  have s' : sdc N h1 a l k := by
    obtain ⟨c, b, z, t1, t2, t3⟩ := s
    exact ⟨c, b, z, by rw [eh1]; exact push_ne t1, by rw [eh1]; exact push_ne t2, t3⟩
  have rl := sd_len (g := g) (d := d + 1) hL1 s'
  have rt := sd_lat (g := g) (d := d + 2) hL1 s'
  obtain ⟨c, b, z, t1, t2, t3, t4, t5, t6, t7, t8, t9⟩ := s'
  have x1 : h1.1[h.1.length]? = some (.inr (8, [.null, .int 0, .int 0, .int 0])) := by rw [eh1]; exact push_at
  have hne : h.1.length ≠ c := fun e => by
    rw [← e, x1] at t2
    cases t2
  obtain ⟨h2, eh2⟩ : ∃ h2, h2 = ev_wr h1 (h.1.length + 1000) (.inr (8, [.null, .int 0, .int 0, .int 0])) := ⟨_, rfl⟩
  have x2 : h2.1[h.1.length]? = some (.inr (8, [.null, .int 0, .int 0, .int 0])) := by rw [eh2]; exact wr_at x1
  have b2 : h2.1[c]? = some (.inl (2, b)) := by rw [eh2, wr_ne hne]; exact t2
  have hL2 : hh_L h2 := by rw [eh2]; exact wr_L hL1 (by omega)
  have U2 : hh_U N 0 0 h1 h2 := by rw [eh2]; exact hh_U_wr hN
  have n2 : h2.1.length = h.1.length + 1 := by rw [eh2]; simp [ev_wr, n1]
  obtain ⟨h3, c', r1, U3, y1, y2, y3⟩ := sd_copy (g := g) (d := d) (N := N) hL2 b2 t6 t8 t9 (by omega) h9 (by omega)
  have x3 : h3.1[h.1.length]? = some (.inr (8, [.null, .int 0, .int 0, .int 0])) := by rw [y3 _ (by omega)]; exact x2
  have hne' : h.1.length ≠ c' := fun e => by
    rw [← e, x3] at y1
    cases y1
  obtain ⟨h4, eh4⟩ : ∃ h4, h4 = ev_wr h3 (h.1.length + 1000) (.inr (8, [.ref (c' + 1000), .int 0, .int 0, .int 0])) := ⟨_, rfl⟩
  have x4 : h4.1[h.1.length]? = some (.inr (8, [.ref (c' + 1000), .int 0, .int 0, .int 0])) := by rw [eh4]; exact wr_at x3
  have b4 : h4.1[c']? = some (.inl (2, l)) := by rw [eh4, wr_ne hne']; exact y1
  have hL4 : hh_L h4 := by rw [eh4]; exact wr_L r1.2 (by omega)
  have U4 : hh_U N 0 0 h3 h4 := by rw [eh4]; exact hh_U_wr hN
  exact ⟨h4, h.1.length, sg_J4_toString_0e30d_r_0 hL (eh0 := eh1) (ec0 := rfl) (c_0 := sg_J0_init_81219_r_0 hL1 (c_0 := sg_J0_init_db425_r_0 hL1 (m0 := t1) (c_0 := sg_J5_getValue_6d5f1_r_0 hL1 (m0 := t1) (p0 := rfl) (hr := rfl)) (m1 := t1) (c_1 := rl) (m2 := t1) (c_2 := rt) (fun t => absurd t (by decide)) (fun _ => sg_J0_init_db425_r_22 hL1 (m0 := x1) (q0 := by simp) (eh0 := eh2) (hLs0 := hL2) (c_0 := r1) (m1 := x3) (q1 := by simp) (eh1 := eh4) (hLs1 := hL4) (hr := rfl))) (hr := rfl)) (hr := rfl), hh_U_w (hh_U_tr U1 (hh_U_tr U2 (hh_U_tr U3 U4))) (by omega) (by omega), c', _, x4, rfl, rfl, b4, hN, y2, hl, fun x hx => t9 x (List.mem_of_mem_take (by rw [t8]; exact hx))⟩
end
