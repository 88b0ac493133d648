/-! THE CELLS of this claim's run: which cell holds what, once all is made -/
/-- a cell's sort: an array of ints, chars or bytes (its kind, its length), or an object (its class, its fields: 0 an int, 1 anything, 2 a long, 3 a double, 1000 and more: this very cell) -/
abbrev hh_S : Type := (Nat × Nat) ⊕ (Nat × List Nat)
def hh_court (k : Nat) : List hh_S := [.inr (1, [k + 1001, k + 1002, k + 1003, k + 1004, k + 1005, k + 1006, 0, 0, 0, 0, 0, 0, 0, 0]), .inl (1, 35), .inl (0, 7), .inl (0, 28), .inl (0, 28), .inl (0, 7), .inl (1, 10)]
def hh_t : List hh_S :=
  [.inr (0, [1001, 1008, 1015, 1080, 1081, 1083, 1086, 1089, 1093, 1096, 1098, 0, 0, 0, 0, 0])] ++ hh_court 1 ++ hh_court 8 ++
  [.inr (2, [1016, 0, 0]), .inr (102, [1017, 1024, 1031, 1038, 1045, 1052, 1059, 1066, 1073])] ++
  hh_court 17 ++ hh_court 24 ++ hh_court 31 ++ hh_court 38 ++ hh_court 45 ++ hh_court 52 ++ hh_court 59 ++ hh_court 66 ++ hh_court 73 ++
  [.inr (3, [0, 0, 0, 0]), .inr (4, [1082]), .inl (0, 140), .inr (5, [1084, 1085, 0, 0]), .inl (0, 140), .inl (0, 512), .inr (5, [1087, 1088, 0, 0]), .inl (0, 140), .inl (0, 512),
   .inr (6, [1090, 1091, 1092, 0]), .inl (0, 16), .inl (0, 16), .inl (0, 4), .inr (7, [1094, 0, 0, 0, 0, 0, 0]), .inr (9, [1, 0, 0, 0]), .inl (2, 16), .inr (9, [1, 0, 0, 0]), .inl (2, 16), .inl (0, 24)]
theorem hh_t_len : hh_t.length = 99 := by decide +kernel
def hh_f : Nat → Value → Prop
  | 0, v => ∃ x, v = .int x
  | 1, _ => True
  | 2, v => ∃ x, v = .long x
  | 3, v => ∃ x, v = .double x
  | n, v => v = .ref n
def hh_c : hh_S → ev_AC → Prop
  | .inl (k, n), c => ∃ l, c = .inl (k, l) ∧ l.length = n
  | .inr (k, fs), c => ∃ vs : List Value, c = .inr (k, vs) ∧ vs.length = fs.length ∧ ∀ (j f : Nat) (v : Value), fs[j]? = some f → vs[j]? = some v → hh_f f v
/-- all cells are of their sorts -/
def hh_L (h : ev_AH) : Prop := ∀ (k : Nat) (t : hh_S), hh_t[k]? = some t → ∃ c : ev_AC, h.1[k]? = some c ∧ hh_c t c
def hh_a (h : ev_AH) (k : Nat) : List Int32 := match h.1[k]? with
  | some (.inl (_, l)) => l
  | _ => []
def hh_v (h : ev_AH) (k : Nat) : List Value := match h.1[k]? with
  | some (.inr (_, vs)) => vs
  | _ => []
def hh_i (h : ev_AH) (k sl : Nat) : Int32 := match (hh_v h k)[sl]? with
  | some (.int x) => x
  | _ => 0
/-- the array of a cell, written whole; t: its kind -/
def hh_sa (h : ev_AH) (k t : Nat) (l : List Int32) : ev_AH := (h.1.set k (.inl (t, l)), h.2)
/-- an int field of a cell, written -/
def hh_si (h : ev_AH) (k ci sl : Nat) (x : Int32) : ev_AH := (h.1.set k (.inr (ci, (hh_v h k).set sl (.int x))), h.2)
/-- one exception more was made -/
def hh_x (h : ev_AH) : ev_AH := (h.1, h.2.1 + 1, h.2.2 + 6)
section
variable {h : ev_AH} {g : tr_g}
theorem hh_arr (hL : hh_L h) {k t n : Nat} (hk : hh_t[k]? = some (.inl (t, n))) : h.1[k]? = some (.inl (t, hh_a h k)) ∧ (hh_a h k).length = n := by
  obtain ⟨c, h1, l, rfl, h2⟩ := hL k _ hk
  simp only [hh_a, h1]
  exact ⟨trivial, h2⟩
theorem hh_obj (hL : hh_L h) {k ci : Nat} {fs : List Nat} (hk : hh_t[k]? = some (.inr (ci, fs))) : h.1[k]? = some (.inr (ci, hh_v h k)) ∧ (hh_v h k).length = fs.length := by
  obtain ⟨c, h1, vs, rfl, h2, h3⟩ := hL k _ hk
  simp only [hh_v, h1]
  exact ⟨trivial, h2⟩
theorem hh_fld (hL : hh_L h) {k ci sl f : Nat} {fs : List Nat} (hk : hh_t[k]? = some (.inr (ci, fs))) (hf : fs[sl]? = some f) : ∃ v, (hh_v h k)[sl]? = some v ∧ hh_f f v := by
  obtain ⟨c, h1, vs, rfl, h2, h3⟩ := hL k _ hk
  have hlt : sl < fs.length := (List.getElem?_eq_some_iff.mp hf).1
  have : hh_v h k = vs := by simp only [hh_v, h1]
  rw [this]
  exact ⟨vs[sl], List.getElem?_eq_getElem (by omega), h3 _ _ _ hf (List.getElem?_eq_getElem (by omega))⟩
theorem hh_fint (hL : hh_L h) {k ci sl : Nat} {fs : List Nat} (hk : hh_t[k]? = some (.inr (ci, fs))) (hf : fs[sl]? = some 0) : (hh_v h k)[sl]? = some (.int (hh_i h k sl)) := by
  obtain ⟨v, h1, x, rfl⟩ := hh_fld hL hk hf
  simp only [hh_i, h1]
theorem hh_fref (hL : hh_L h) {k ci sl n : Nat} {fs : List Nat} (hk : hh_t[k]? = some (.inr (ci, fs))) (hf : fs[sl]? = some (n + 1000)) : (hh_v h k)[sl]? = some (.ref (n + 1000)) := by
  obtain ⟨v, h1, h2⟩ := hh_fld hL hk hf
  have : v = .ref (n + 1000) := h2
  rw [h1, this]
theorem hh_rd {k : Nat} {c : ev_AC} (hc : h.1[k]? = some c) : ev_rd (tr_G g) h (k + 1000) = some c := by
  have h1 : Nat.blt (k + 1000) 1000 = false := by
    cases hb : Nat.blt (k + 1000) 1000 with
    | false => rfl
    | true => exact absurd (Nat.le_of_ble_eq_true hb) (by omega)
  simp only [ev_rd, h1, cond_false, Nat.add_sub_cancel, hc]
theorem hh_L_set (hL : hh_L h) {k : Nat} {c : ev_AC} {t : hh_S} (hk : hh_t[k]? = some t) (hc : hh_c t c) : hh_L (h.1.set k c, h.2) := by
  intro j s hj
  obtain ⟨c', h1, h2⟩ := hL j s hj
  by_cases e : k = j
  · subst e
    rw [hk] at hj
    cases hj
    have hlt : k < h.1.length := (List.getElem?_eq_some_iff.mp h1).1
    exact ⟨c, by simp [hlt], hc⟩
  · exact ⟨c', by simp [e, h1], h2⟩
theorem hh_L_sa (hL : hh_L h) {k t n : Nat} {l : List Int32} (hk : hh_t[k]? = some (.inl (t, n))) (hl : l.length = n) : hh_L (hh_sa h k t l) := hh_L_set hL hk ⟨l, rfl, hl⟩
theorem hh_L_ss (hL : hh_L h) {k t n j : Nat} {x : Int32} (hk : hh_t[k]? = some (.inl (t, n))) : hh_L (hh_sa h k t ((hh_a h k).set j x)) := hh_L_sa hL hk (by rw [List.length_set]; exact (hh_arr hL hk).2)
theorem hh_L_sv (hL : hh_L h) {k ci sl f : Nat} {fs : List Nat} {v : Value} (hk : hh_t[k]? = some (.inr (ci, fs))) (hf : fs[sl]? = some f) (hv : hh_f f v) : hh_L (h.1.set k (.inr (ci, (hh_v h k).set sl v)), h.2) := by
  obtain ⟨c, h1, vs, rfl, h2, h3⟩ := hL k _ hk
  have e : hh_v h k = vs := by simp only [hh_v, h1]
  refine hh_L_set hL hk ⟨_, rfl, by rw [List.length_set, e, h2], fun j f' v' hj hv' => ?_⟩
  rw [e] at hv'
  by_cases ej : sl = j
  · subst ej
    rw [hf] at hj
    cases hj
    have hlt : sl < vs.length := by
      have := (List.getElem?_eq_some_iff.mp hf).1
      omega
    simp [hlt] at hv'
    subst hv'
    exact hv
  · simp [ej] at hv'
    exact h3 _ _ _ hj hv'
theorem hh_L_si (hL : hh_L h) {k ci sl : Nat} {fs : List Nat} {x : Int32} (hk : hh_t[k]? = some (.inr (ci, fs))) (hf : fs[sl]? = some 0) : hh_L (hh_si h k ci sl x) := hh_L_sv hL hk hf ⟨x, rfl⟩
theorem hh_L_x (hL : hh_L h) : hh_L (hh_x h) := hL
/-! what is read behind a write -/
theorem hh_a_sa {k t j : Nat} {l : List Int32} (hk : k < h.1.length) : hh_a (hh_sa h k t l) j = if k = j then l else hh_a h j := by
  by_cases e : k = j
  · subst e
    simp [hh_a, hh_sa, hk]
  · simp [hh_a, hh_sa, e]
theorem hh_v_sa {k t j : Nat} {l : List Int32} (hk : k ≠ j) : hh_v (hh_sa h k t l) j = hh_v h j := by
  simp [hh_v, hh_sa, hk]
theorem hh_i_sa {k t j sl : Nat} {l : List Int32} (hk : k ≠ j) : hh_i (hh_sa h k t l) j sl = hh_i h j sl := by
  simp [hh_i, hh_v_sa hk]
theorem hh_a_si {k ci sl j : Nat} {x : Int32} (hk : k ≠ j) : hh_a (hh_si h k ci sl x) j = hh_a h j := by
  simp [hh_a, hh_si, hk]
theorem hh_v_si {k ci sl j : Nat} {x : Int32} (hk : k < h.1.length) : hh_v (hh_si h k ci sl x) j = if k = j then (hh_v h k).set sl (.int x) else hh_v h j := by
  by_cases e : k = j
  · subst e
    simp [hh_v, hh_si, hk]
  · simp [hh_v, hh_si, e]
theorem hh_L_lt (hL : hh_L h) {k : Nat} (hk : k < 99) : k < h.1.length := by
  obtain ⟨t, ht⟩ : ∃ t, hh_t[k]? = some t := ⟨hh_t[k]'(by rw [hh_t_len]; exact hk), List.getElem?_eq_getElem _⟩
  obtain ⟨c, h1, -⟩ := hL k t ht
  exact (List.getElem?_eq_some_iff.mp h1).1
theorem hh_i_si (hL : hh_L h) {k ci sl sl' j : Nat} {fs : List Nat} {x : Int32} (hk : hh_t[k]? = some (.inr (ci, fs))) (hs : sl < fs.length) : hh_i (hh_si h k ci sl x) j sl' = if k = j ∧ sl = sl' then x else hh_i h j sl' := by
  obtain ⟨h1, h2⟩ := hh_obj hL hk
  have hlt : k < h.1.length := (List.getElem?_eq_some_iff.mp h1).1
  simp only [hh_i, hh_v_si hlt]
  by_cases e : k = j
  · subst e
    by_cases e2 : sl = sl'
    · subst e2
      simp [h2, hs]
    · simp [e2]
  · simp [e]
theorem hh_a_x {k : Nat} : hh_a (hh_x h) k = hh_a h k := rfl
theorem hh_i_x {k sl : Nat} : hh_i (hh_x h) k sl = hh_i h k sl := rfl
end
/-! the same for a run over cells of their sorts -/
abbrev tr_L (g : tr_g) (d : Nat) (M : ev_MD) (pc : Nat) (L : ev_VL) (S : List Value) (h : ev_AH) (r : ev_O × ev_AH) : Prop := tr_T hh_L g d M pc L S h r
section
variable {P : ev_AH → Prop} {g : tr_g} {d : Nat} {M : ev_MD} {pc : Nat} {L : ev_VL} {S : List Value} {h : ev_AH} {r : ev_O × ev_AH}
theorem tl_gi (hL : hh_L h) (i k ci sl : Nat) (fs : List Nat) (hl : ev_lk M.2.2.2.2.2.2 pc = some (.getfield i, 3)) (hf : ev_fld0 M.1 i = some (ci, sl)) (hk : hh_t[k]? = some (.inr (ci, fs))) (h0 : fs[sl]? = some 0) (kk : tr_T P g d M (pc + 3) L (.int (hh_i h k sl) :: S) h r) : tr_T P g d M pc L (.ref (k + 1000) :: S) h r :=
  tr_gf i _ ci sl _ _ hl hf (hh_rd (hh_obj hL hk).1) (hh_fint hL hk h0) kk
theorem tl_gr (hL : hh_L h) (i k ci sl n : Nat) (fs : List Nat) (hl : ev_lk M.2.2.2.2.2.2 pc = some (.getfield i, 3)) (hf : ev_fld0 M.1 i = some (ci, sl)) (hk : hh_t[k]? = some (.inr (ci, fs))) (h0 : fs[sl]? = some (n + 1000)) (kk : tr_T P g d M (pc + 3) L (.ref (n + 1000) :: S) h r) : tr_T P g d M pc L (.ref (k + 1000) :: S) h r :=
  tr_gf i _ ci sl _ _ hl hf (hh_rd (hh_obj hL hk).1) (hh_fref hL hk h0) kk
theorem tl_pf (hL : hh_L h) (i k ci sl : Nat) (fs : List Nat) (x : Int32) (ty : FieldType) (hl : ev_lk M.2.2.2.2.2.2 pc = some (.putfield i, 3)) (hf : ev_fld0 M.1 i = some (ci, sl)) (hk : hh_t[k]? = some (.inr (ci, fs))) (h0 : fs[sl]? = some 0) (hft : (ev_ft0 ci)[sl]? = some (ty, false)) (hok : ev_okv ty (.int x) = true) (kk : tr_T P g d M (pc + 3) L S (hh_si h k ci sl x) r) : tr_T P g d M pc L (.int x :: .ref (k + 1000) :: S) h r := by
  obtain ⟨h1, h2⟩ := hh_obj hL hk
  have hlt : sl < fs.length := (List.getElem?_eq_some_iff.mp h0).1
  refine tr_pf i (k + 1000) ci sl (hh_v h k) (.int x) ty hl hf (by omega) (by rw [Nat.add_sub_cancel]; exact h1) hft (by omega) hok ?_
  have : ev_wr h (k + 1000) (.inr (ci, (hh_v h k).set sl (.int x))) = hh_si h k ci sl x := by simp only [ev_wr, hh_si, Nat.add_sub_cancel]
  rw [this]
  exact kk
theorem tl_al (hL : hh_L h) (k t n : Nat) (hl : ev_lk M.2.2.2.2.2.2 pc = some (.arraylength, 1)) (hk : hh_t[k]? = some (.inl (t, n))) (ht : t ≤ 2) (c : Int32) (hc : Int32.ofNat n = c) (kk : tr_T P g d M (pc + 1) L (.int c :: S) h r) : tr_T P g d M pc L (.ref (k + 1000) :: S) h r := by
  obtain ⟨h1, h2⟩ := hh_arr hL hk
  refine tr_alen (k + 1000) t _ hl (hh_rd h1) ht ?_
  rw [h2, hc]
  exact kk
theorem tl_alR (hL : hh_L h) (k t : Nat) (fs : List Nat) (hl : ev_lk M.2.2.2.2.2.2 pc = some (.arraylength, 1)) (hk : hh_t[k]? = some (.inr (t, fs))) (ht : 100 ≤ t) (ht2 : t ≤ 102) (c : Int32) (hc : Int32.ofNat fs.length = c) (kk : tr_T P g d M (pc + 1) L (.int c :: S) h r) : tr_T P g d M pc L (.ref (k + 1000) :: S) h r := by
  obtain ⟨h1, h2⟩ := hh_obj hL hk
  refine tr_alenR (k + 1000) t _ hl (hh_rd h1) (by omega) ht ht2 ?_
  rw [h2, hc]
  exact kk
theorem tl_ald (hL : hh_L h) (i : Instr) (k t n j : Nat) (x : Int32) (hk : hh_t[k]? = some (.inl (t, n))) (hi : (i = .iaload ∧ t = 0) ∨ (i = .caload ∧ t = 1) ∨ (i = .baload ∧ t = 2)) (hl : ev_lk M.2.2.2.2.2.2 pc = some (i, 1)) (hx : x = Int32.ofNat j) (hj : j < n) (hn : n < 2147483648) (kk : tr_T P g d M (pc + 1) L (.int ((hh_a h k).getD j 0) :: S) h r) : tr_T P g d M pc L (.int x :: .ref (k + 1000) :: S) h r := by
  obtain ⟨h1, h2⟩ := hh_arr hL hk
  exact tr_ald i t (k + 1000) j x _ (by rcases hi with h | h | h; exact Or.inl h; exact Or.inr (Or.inl ⟨h.1, h.2, by omega⟩); exact Or.inr (Or.inr h)) hl (hh_rd h1) hx (by omega) (by omega) kk
theorem tl_ias (hL : hh_L h) (k n j : Nat) (x y : Int32) (hk : hh_t[k]? = some (.inl (0, n))) (hl : ev_lk M.2.2.2.2.2.2 pc = some (.iastore, 1)) (hx : x = Int32.ofNat j) (hj : j < n) (hn : n < 2147483648) (kk : tr_T P g d M (pc + 1) L S (hh_sa h k 0 ((hh_a h k).set j y)) r) : tr_T P g d M pc L (.int y :: .int x :: .ref (k + 1000) :: S) h r := by
  obtain ⟨h1, h2⟩ := hh_arr hL hk
  refine tr_ias (k + 1000) j x y _ hl (by omega) (by rw [Nat.add_sub_cancel]; exact h1) hx (by omega) (by omega) ?_
  have : ev_wr h (k + 1000) (.inl (0, (hh_a h k).set j y)) = hh_sa h k 0 ((hh_a h k).set j y) := by simp only [ev_wr, hh_sa, Nat.add_sub_cancel]
  rw [this]
  exact kk
theorem tl_aald (hL : hh_L h) (k j b : Nat) (x : Int32) (fs : List Nat) (hk : hh_t[k]? = some (.inr (102, fs))) (hl : ev_lk M.2.2.2.2.2.2 pc = some (.aaload, 1)) (hx : x = Int32.ofNat j) (hn : fs.length < 2147483648) (hb : fs[j]? = some (b + 1000)) (kk : tr_T P g d M (pc + 1) L (.ref (b + 1000) :: S) h r) : tr_T P g d M pc L (.int x :: .ref (k + 1000) :: S) h r := by
  obtain ⟨h1, h2⟩ := hh_obj hL hk
  have hlt : j < fs.length := (List.getElem?_eq_some_iff.mp hb).1
  exact tr_aald (k + 1000) j (b + 1000) x _ hl (by omega) (hh_rd h1) hx (by omega) (by omega) (hh_fref hL hk hb) kk
theorem tl_ret (hL : hh_L h) (i : Instr) (n : Nat) (v : Option Value) (hl : ev_lk M.2.2.2.2.2.2 pc = some (i, n)) (hn : ev_len i n = true) (hs : ev_s (tr_G g) M pc L S h i n = none) (he : ev_e M S i = some v) (hr : r = (.inl v, h)) : tr_T hh_L g d M pc L S h r := tr_ret i n v hl hn hs he hL hr
theorem tl_thr (hL : hh_L h) (j E : Nat) (hl : ev_lk M.2.2.2.2.2.2 pc = some (.new j, 3)) (hs : ev_s (tr_G g) M pc L S h (.new j) 3 = none) (ht : ev_th (tr_G g) M pc j = some E) (hh : M.2.2.2.2.2.1 = []) (h0 : (Nat.beq M.1 0 && ev_cs S) = true) (hr : r = (.inr E, hh_x h)) : tr_T hh_L g d M pc L S h r := tr_thr j E hl hs ht hh h0 hL hr
theorem tr_nch {x : Int32} (hx : tr_ch x) : (x.toUInt32 % 65536).toInt32 = x := by
  obtain ⟨h1, h2⟩ := hx
  rw [Int32.le_iff_toInt_le] at h1
  rw [Int32.lt_iff_toInt_lt] at h2
  apply Int32.toInt_inj.mp
  have e0 : (0 : Int32).toInt = 0 := by decide
  have e1 : (65536 : Int32).toInt = 65536 := by decide
  rw [e0] at h1
  rw [e1] at h2
  obtain ⟨k, hk⟩ : ∃ k : Nat, x.toInt = (k : Int) := ⟨x.toInt.toNat, by omega⟩
  have hk2 : k < 65536 := by omega
  have hx : x = Int32.ofNat k := by
    apply Int32.toInt_inj.mp
    rw [Int32.toInt_ofNat_of_lt (by omega), hk]
  subst hx
  have : (Int32.ofNat k).toUInt32 = UInt32.ofNat k := by simp
  rw [this]
  apply Int32.toInt_inj.mpr
  have h5 : UInt32.ofNat k % 65536 = UInt32.ofNat k := by
    apply UInt32.toNat_inj.mp
    rw [UInt32.toNat_mod]
    simp
    omega
  rw [h5]
  simp
theorem tr_okb {x : Int32} (h : x = 0 ∨ x = 1) : ev_okv .boolean (.int x) = true := by
  rcases h with rfl | rfl <;> decide
theorem tr_tsd {G : ev_G} {M : ev_MD} {pc n : Nat} {L : ev_VL} {S : List Value} {h : ev_AH} {x : Int32} {dd lo hi : Int} {offs : Array Int} (h1 : ev_tok pc dd = true) (e : x.toInt < lo ∨ hi < x.toInt) : ev_s G M pc L (.int x :: S) h (.tableswitch dd lo hi offs) n = some (ev_tg pc dd, L, S, h) := by
  have h2 : (decide (x.toInt < lo) || decide (hi < x.toInt)) = true := by
    rcases e with e | e <;> simp [e]
  simp only [ev_s, ev_ldi, ev_sti, ev_p, ev_r, ev_w, ev_j, h1, h2, cond_true]
theorem tr_lsd {G : ev_G} {M : ev_MD} {pc n : Nat} {L : ev_VL} {S : List Value} {h : ev_AH} {x : Int32} {dd : Int} {ps : Array (Int × Int)} (h1 : ev_tok pc dd = true) (e : Op.lookupswitch.offset ps.toList dd x.toInt = dd) (h2 : ((ps.toList.zip (ps.toList.drop 1)).all (fun (a, next) => a.1 < next.1)) = true) : ev_s G M pc L (.int x :: S) h (.lookupswitch dd ps) n = some (ev_tg pc dd, L, S, h) := by
  simp only [ev_s, ev_ldi, ev_sti, ev_p, ev_r, ev_w, ev_j, e, h1, h2, Bool.and_true, cond_true]
theorem tr_ii {x : Int32} (hx : tr_ch x) : ∃ k : Nat, k < 65536 ∧ x = Int32.ofNat k := by
  obtain ⟨h1, h2⟩ := hx
  rw [Int32.le_iff_toInt_le] at h1
  rw [Int32.lt_iff_toInt_lt] at h2
  have e0 : (0 : Int32).toInt = 0 := by decide
  have e1 : (65536 : Int32).toInt = 65536 := by decide
  rw [e0] at h1
  rw [e1] at h2
  obtain ⟨k, hk⟩ : ∃ k : Nat, x.toInt = (k : Int) := ⟨x.toInt.toNat, by omega⟩
  exact ⟨k, by omega, Int32.toInt_inj.mp (by rw [Int32.toInt_ofNat_of_lt (by omega), hk])⟩
theorem tr_nac {x : Int32} (hx : tr_ch x) : vp_nar .char x = x := by
  obtain ⟨k, hk, rfl⟩ := tr_ii hx
  have h1 : vp_nar .char (Int32.ofNat k) = (Int32.ofNat k).toUInt32.toUInt16.toUInt32.toInt32 := rfl
  rw [h1]
  apply Int32.toInt_inj.mp
  have h2 : (Int32.ofNat k).toUInt32.toUInt16.toUInt32 = UInt32.ofNat k := by
    apply UInt32.toNat_inj.mp
    simp
    omega
  rw [h2]
  simp
theorem tr_okc {x : Int32} (hx : tr_ch x) : ev_okv .char (.int x) = true := by
  have h1 : narrow .char (.int x) = .int x := by
    have := tr_nac hx
    show Value.int (x.toUInt32.toUInt16.toUInt32.toInt32) = .int x
    rw [show x.toUInt32.toUInt16.toUInt32.toInt32 = vp_nar .char x from rfl, this]
  have h3 : x ≤ 65535 := by
    obtain ⟨k, hk, rfl⟩ := tr_ii hx
    rw [Int32.le_iff_toInt_le, Int32.toInt_ofNat_of_lt (by omega)]
    have : (65535 : Int32).toInt = 65535 := by decide
    omega
  simp [ev_okv, h1, fits, hx.1, h3]
theorem tr_eb {x : Int32} (hM : M.2.2.2.2.1 = some .boolean) (h : x = 0 ∨ x = 1) : ev_e M [.int x] .ireturn = some (some (.int x)) := by
  unfold ev_e
  rw [hM]
  rcases h with rfl | rfl <;> rfl
theorem tr_ec {x : Int32} (hM : M.2.2.2.2.1 = some .char) (h : tr_ch x) : ev_e M [.int x] .ireturn = some (some (.int x)) := by
  unfold ev_e
  rw [hM]
  have h1 : narrow .char (.int x) = .int x := by
    have := tr_nac h
    show Value.int (x.toUInt32.toUInt16.toUInt32.toInt32) = .int x
    rw [show x.toUInt32.toUInt16.toUInt32.toInt32 = vp_nar .char x from rfl, this]
  simp only [h1]
theorem tr_oki {x : Int32} : ev_okv .int (.int x) = true := by
  simp [ev_okv, narrow, fits]
end
