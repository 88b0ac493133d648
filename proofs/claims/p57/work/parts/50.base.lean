/-! NUMBERS of 32 bits that are told by natural ones; at, put, copy -/
theorem ii_ti {k : Nat} (h : k < 2147483648) : (Int32.ofNat k).toInt = (k : Int) := Int32.toInt_ofNat_of_lt h
theorem ii_lt {a b : Nat} (ha : a < 2147483648) (hb : b < 2147483648) : Int32.ofNat a < Int32.ofNat b ↔ a < b := by
  rw [Int32.lt_iff_toInt_lt, ii_ti ha, ii_ti hb]; omega
theorem ii_le {a b : Nat} (ha : a < 2147483648) (hb : b < 2147483648) : Int32.ofNat a ≤ Int32.ofNat b ↔ a ≤ b := by
  rw [Int32.le_iff_toInt_le, ii_ti ha, ii_ti hb]; omega
theorem ii_eq {a b : Nat} (ha : a < 2147483648) (hb : b < 2147483648) : Int32.ofNat a = Int32.ofNat b ↔ a = b := by
  rw [← Int32.toInt_inj, ii_ti ha, ii_ti hb]; omega
theorem ii_s (k : Nat) : Int32.ofNat k + 1 = Int32.ofNat (k + 1) := by rw [Int32.ofNat_add]; rfl
theorem ii_a (a b : Nat) : Int32.ofNat a + Int32.ofNat b = Int32.ofNat (a + b) := (Int32.ofNat_add a b).symm
theorem ii_m (a b : Nat) : Int32.ofNat a * Int32.ofNat b = Int32.ofNat (a * b) := (Int32.ofNat_mul a b).symm
theorem ii_u (a b : Nat) (h : b ≤ a) : Int32.ofNat a - Int32.ofNat b = Int32.ofNat (a - b) := (Int32.ofNat_sub a b h).symm
theorem ii_d {a b : Nat} (ha : a < 2147483648) (hb : b < 2147483648) : Int32.ofNat a / Int32.ofNat b = Int32.ofNat (a / b) := (Int32.ofNat_div ha hb).symm
theorem ii_r {a b : Nat} (ha : a < 2147483648) (hb : b < 2147483648) : Int32.ofNat a - Int32.ofNat a / Int32.ofNat b * Int32.ofNat b = Int32.ofNat (a % b) := by
  have h : a / b * b ≤ a := Nat.div_mul_le_self a b
  rw [ii_d ha hb, ii_m, ii_u _ _ h]
  congr 1
  have := Nat.div_add_mod a b
  rw [Nat.mul_comm] at this
  omega
theorem ii_nn {k : Nat} (h : k < 2147483648) : 0 ≤ Int32.ofNat k := (ii_le (a := 0) (by decide) h).mpr (Nat.zero_le _)
theorem ii_cn {k : Nat} (h : k < 2147483648) : (Int32.ofNat k).toNatClampNeg = k := by
  rw [Int32.toNatClampNeg, ii_ti h]; rfl
/-- a number that is not below 0 is a natural one -/
theorem ii_of {x : Int32} (h : 0 ≤ x) : ∃ k : Nat, k < 2147483648 ∧ x = Int32.ofNat k := by
  rw [Int32.le_iff_toInt_le] at h
  have e0 : (0 : Int32).toInt = 0 := by decide
  rw [e0] at h
  have h2 := Int32.toInt_lt x
  obtain ⟨k, hk⟩ : ∃ k : Nat, x.toInt = (k : Int) := ⟨x.toInt.toNat, by omega⟩
  have hk2 : k < 2147483648 := by omega
  exact ⟨k, hk2, Int32.toInt_inj.mp (by rw [ii_ti hk2, hk])⟩
theorem ii_of2 {x : Int32} {n : Nat} (hn : n < 2147483648) (h : 0 ≤ x) (h2 : x < Int32.ofNat n) : ∃ k : Nat, k < n ∧ x = Int32.ofNat k := by
  obtain ⟨k, hk, rfl⟩ := ii_of h
  exact ⟨k, (ii_lt hk hn).mp h2, rfl⟩
theorem hh_sa_id {h : ev_AH} {k t : Nat} {l : List Int32} (hk : h.1[k]? = some (.inl (t, l))) : hh_sa h k t l = h := by
  obtain ⟨hl, e⟩ := List.getElem?_eq_some_iff.mp hk
  simp only [hh_sa, ← e]
  rw [List.set_getElem_self]
section
variable {g : tr_g} {d : Nat} {h : ev_AH}
theorem sp_at {a k : Nat} {l : List Int32} (hL : hh_L h) (ha : h.1[a]? = some (.inl (0, l))) (hl : l.length < 2147483648) (hk : k < 2147483648) : tr_L g d m_X8_at 0 [some (.ref (a + 1000)), some (.int (Int32.ofNat k))] [] h (.inl (some (.int (l.getD k 0))), h) := by
  refine sg_X8_at_0 hL (fun t => absurd t (Int32.not_lt.mpr (ii_nn hk))) (fun _ => ?_)
  refine sg_X8_at_4 hL ha hl (fun t => ?_) (fun t => ?_)
  · have := (ii_le hl hk).mp t
    refine sg_X8_at_16 hL ?_
    rw [List.getD, List.getElem?_eq_none this]
    rfl
  · exact sg_X8_at_10 hL (m0 := ha) (z0 := hl) (e0 := rfl) (b0 := (ii_lt hk hl).mp t) (hr := rfl)
theorem sp_atc {a k : Nat} {l : List Int32} (hL : hh_L h) (ha : h.1[a]? = some (.inl (1, l))) (hl : l.length < 2147483648) (hk : k < 2147483648) (hc : ∀ x ∈ l, tr_ch x) : tr_L g d m_X8_at_ 0 [some (.ref (a + 1000)), some (.int (Int32.ofNat k))] [] h (.inl (some (.int (l.getD k 0))), h) := by
  refine sg_X8_at__0 hL (fun t => absurd t (Int32.not_lt.mpr (ii_nn hk))) (fun _ => ?_)
  refine sg_X8_at__4 hL ha hl (fun t => ?_) (fun t => ?_)
  · have := (ii_le hl hk).mp t
    refine sg_X8_at__16 hL ?_
    rw [List.getD, List.getElem?_eq_none this]
    rfl
  · have hlt := (ii_lt hk hl).mp t
    refine sg_X8_at__10 hL (m0 := ha) (z0 := hl) (e0 := rfl) (b0 := hlt) (hc0 := ?_) (hr := rfl)
    have : l.getD k 0 = l[k] := by simp [List.getD, hlt]
    rw [this]
    exact hc _ (List.getElem_mem hlt)
theorem sp_put {a k n : Nat} {y : Int32} (hL : hh_L h) (ht : hh_t[a]? = some (.inl (0, n))) (hn : n < 2147483648) (hk : k < 2147483648) : tr_L g d m_X8_put 0 [some (.ref (a + 1000)), some (.int (Int32.ofNat k)), some (.int y)] [] h (.inl none, hh_sa h a 0 ((hh_a h a).set k y)) := by
  obtain ⟨h1, h2⟩ := hh_arr hL ht
  have hl : (hh_a h a).length < 2147483648 := by omega
  refine sg_X8_put_0 hL (fun t => absurd t (Int32.not_lt.mpr (ii_nn hk))) (fun _ => ?_)
  refine sg_X8_put_4 hL h1 hl (fun t => ?_) (fun t => ?_)
  · have := (ii_le hl hk).mp t
    refine sg_X8_put_14 hL ?_
    rw [List.set_eq_of_length_le this, hh_sa_id h1]
  · have hlt := (ii_lt hk hl).mp t
    refine sg_X8_put_10 hL (m0 := h1) (z0 := hl) (e0 := rfl) (b0 := hlt) (hr := ?_) (hLe := ?_)
    · simp [ev_wr, hh_sa]
    · have := hh_L_ss (j := k) (x := y) hL ht
      simpa [ev_wr, hh_sa] using this
theorem sp_putc {a k n : Nat} {y : Int32} (hL : hh_L h) (ht : hh_t[a]? = some (.inl (1, n))) (hn : n < 2147483648) (hk : k < 2147483648) (hy : tr_ch y) : tr_L g d m_X8_put_ 0 [some (.ref (a + 1000)), some (.int (Int32.ofNat k)), some (.int y)] [] h (.inl none, hh_sa h a 1 ((hh_a h a).set k y)) := by
  obtain ⟨h1, h2⟩ := hh_arr hL ht
  have hl : (hh_a h a).length < 2147483648 := by omega
  refine sg_X8_put__0 hL (fun t => absurd t (Int32.not_lt.mpr (ii_nn hk))) (fun _ => ?_)
  refine sg_X8_put__4 hL h1 hl (fun t => ?_) (fun t => ?_)
  · have := (ii_le hl hk).mp t
    refine sg_X8_put__14 hL ?_
    rw [List.set_eq_of_length_le this, hh_sa_id h1]
  · have hlt := (ii_lt hk hl).mp t
    refine sg_X8_put__10 hL (m0 := h1) (z0 := hl) (e0 := rfl) (b0 := hlt) (hc0 := hy) (hr := ?_) (hLe := ?_)
    · simp [ev_wr, hh_sa]
    · have := hh_L_ss (j := k) (x := y) hL ht
      simpa [ev_wr, hh_sa] using this
/-- at, over a cell of its sort -/
theorem sp_atL {a k n : Nat} (hL : hh_L h) (ht : hh_t[a]? = some (.inl (0, n))) (hn : n < 2147483648) (hk : k < 2147483648) : tr_L g d m_X8_at 0 [some (.ref (a + 1000)), some (.int (Int32.ofNat k))] [] h (.inl (some (.int ((hh_a h a).getD k 0))), h) := by
  obtain ⟨h1, h2⟩ := hh_arr hL ht
  exact sp_at hL h1 (by omega) hk
theorem sp_atcL {a k n : Nat} (hL : hh_L h) (ht : hh_t[a]? = some (.inl (1, n))) (hn : n < 2147483648) (hk : k < 2147483648) (hc : ∀ x ∈ hh_a h a, tr_ch x) : tr_L g d m_X8_at_ 0 [some (.ref (a + 1000)), some (.int (Int32.ofNat k))] [] h (.inl (some (.int ((hh_a h a).getD k 0))), h) := by
  obtain ⟨h1, h2⟩ := hh_arr hL ht
  exact sp_atc hL h1 (by omega) hk hc
end
/-! frames: which cells may have changed -/
def hh_F (ks : List Nat) (h h' : ev_AH) : Prop := h'.1.length = h.1.length ∧ h'.2 = h.2 ∧ ∀ k : Nat, k ∉ ks → h'.1[k]? = h.1[k]?
theorem hh_F_rf {ks : List Nat} {h : ev_AH} : hh_F ks h h := ⟨rfl, rfl, fun _ _ => rfl⟩
theorem hh_F_tr {ks : List Nat} {h1 h2 h3 : ev_AH} (a : hh_F ks h1 h2) (b : hh_F ks h2 h3) : hh_F ks h1 h3 := ⟨b.1.trans a.1, b.2.1.trans a.2.1, fun k hk => (b.2.2 k hk).trans (a.2.2 k hk)⟩
theorem hh_F_w {ks js : List Nat} {h1 h2 : ev_AH} (a : hh_F ks h1 h2) (hs : ∀ k ∈ ks, k ∈ js) : hh_F js h1 h2 := ⟨a.1, a.2.1, fun k hk => a.2.2 k (fun h => hk (hs k h))⟩
theorem hh_F_sa {ks : List Nat} {h : ev_AH} {k t : Nat} {l : List Int32} (hk : k ∈ ks) : hh_F ks h (hh_sa h k t l) := ⟨by simp [hh_sa], rfl, fun j hj => by
  have : k ≠ j := fun e => hj (e ▸ hk)
  simp [hh_sa, this]⟩
theorem hh_F_si {ks : List Nat} {h : ev_AH} {k ci sl : Nat} {x : Int32} (hk : k ∈ ks) : hh_F ks h (hh_si h k ci sl x) := ⟨by simp [hh_si], rfl, fun j hj => by
  have : k ≠ j := fun e => hj (e ▸ hk)
  simp [hh_si, this]⟩
theorem hh_F_a {ks : List Nat} {h h' : ev_AH} (a : hh_F ks h h') {k : Nat} (hk : k ∉ ks) : hh_a h' k = hh_a h k := by
  simp only [hh_a, a.2.2 k hk]
theorem hh_F_v {ks : List Nat} {h h' : ev_AH} (a : hh_F ks h h') {k : Nat} (hk : k ∉ ks) : hh_v h' k = hh_v h k := by
  simp only [hh_v, a.2.2 k hk]
theorem hh_F_i {ks : List Nat} {h h' : ev_AH} (a : hh_F ks h h') {k sl : Nat} (hk : k ∉ ks) : hh_i h' k sl = hh_i h k sl := by
  simp only [hh_i, hh_F_v a hk]
theorem hh_a_saL {h : ev_AH} (hL : hh_L h) {k t j : Nat} {l : List Int32} (hk : k < 99) : hh_a (hh_sa h k t l) j = if k = j then l else hh_a h j := hh_a_sa (hh_L_lt hL hk)
theorem hh_sa_sa {h : ev_AH} {k t t' : Nat} {l l' : List Int32} : hh_sa (hh_sa h k t l) k t' l' = hh_sa h k t' l' := by
  simp [hh_sa, List.set_set]
/-! pure words of Box -/
def bx_refl (c : Int32) (w : Nat) : Nat := if c = 47 then w ^^^ 1 else if c = 92 then 3 - w else w
def bx_opp (w : Nat) : Nat := w ^^^ 2
/-- the cell beside; 35 for none -/
def bx_nb (q w : Nat) : Nat := if w = 0 then (if 7 ≤ q then q - 7 else 35) else if w = 1 then (if q % 7 < 6 then q + 1 else 35) else if w = 2 then (if q < 28 then q + 7 else 35) else (if 0 < q % 7 then q - 1 else 35)
def bx_port (q w : Nat) : Nat := if w = 0 then q % 7 else if w = 1 then 7 + q / 7 else if w = 2 then 18 - q % 7 else 23 - q / 7
def bx_cell (p : Nat) : Nat := if p < 7 then p else if p < 12 then 7 * (p - 7) + 6 else if p < 19 then 46 - p else 7 * (23 - p)
def bx_dir (p : Nat) : Nat := if p < 7 then 2 else if p < 12 then 3 else if p < 19 then 0 else 1
def bx_nbI (q w : Nat) : Int32 := if bx_nb q w = 35 then -1 else Int32.ofNat (bx_nb q w)
section
variable {g : tr_g} {d : Nat} {h : ev_AH}
theorem bx_lt {q w : Nat} (hq : q < 35) (hw : w < 4) : bx_nb q w ≤ 35 := by
  unfold bx_nb; repeat' split
  all_goals omega
theorem sp_side {q w : Nat} (hL : hh_L h) : tr_L g d m_X0_side 0 [some (.int (Int32.ofNat q)), some (.int (Int32.ofNat w))] [] h (.inl (some (.int (Int32.ofNat (4 * q + w)))), h) := by
  have := sa_X0_side (g := g) (d := d) (x0 := Int32.ofNat q) (x1 := Int32.ofNat w) hL
  rw [show fa_X0_side (Int32.ofNat q) (Int32.ofNat w) = Int32.ofNat (4 * q + w) by rw [fa_X0_side, ← ii_a, ← ii_m]; rfl] at this
  exact this
theorem bx_oppI : ∀ w, w < 4 → fa_X0_opposite (Int32.ofNat w) = Int32.ofNat (bx_opp w) := by decide +kernel
theorem sp_opp {w : Nat} (hL : hh_L h) (hw : w < 4) : tr_L g d m_X0_opposite 0 [some (.int (Int32.ofNat w))] [] h (.inl (some (.int (Int32.ofNat (bx_opp w)))), h) := by
  have := sa_X0_opposite (g := g) (d := d) (x0 := Int32.ofNat w) hL
  rw [bx_oppI w hw] at this
  exact this
theorem bx_reflI (c : Int32) : ∀ w, w < 4 → fa_X0_reflected c (Int32.ofNat w) = Int32.ofNat (bx_refl c w) := by
  intro w hw
  unfold fa_X0_reflected bx_refl
  split
  · have : ∀ w, w < 4 → Int32.ofNat w ^^^ 1 = Int32.ofNat (w ^^^ 1) := by decide +kernel
    exact this w hw
  · split
    · have : ∀ w, w < 4 → 3 - Int32.ofNat w = Int32.ofNat (3 - w) := by decide +kernel
      exact this w hw
    · rfl
theorem sp_refl {w : Nat} {c : Int32} (hL : hh_L h) (hw : w < 4) : tr_L g d m_X0_reflected 0 [some (.int c), some (.int (Int32.ofNat w))] [] h (.inl (some (.int (Int32.ofNat (bx_refl c w)))), h) := by
  have := sa_X0_reflected (g := g) (d := d) (x0 := c) (x1 := Int32.ofNat w) hL
  rw [bx_reflI c w hw] at this
  exact this
theorem bx_nbII : ∀ q, q < 35 → ∀ w, w < 4 → fa_X0_neighbour (Int32.ofNat q) (Int32.ofNat w) = bx_nbI q w := by decide +kernel
theorem sp_nb {q w : Nat} (hL : hh_L h) (hq : q < 35) (hw : w < 4) : tr_L g d m_X0_neighbour 0 [some (.int (Int32.ofNat q)), some (.int (Int32.ofNat w)), none, none] [] h (.inl (some (.int (bx_nbI q w))), h) := by
  have := sa_X0_neighbour (g := g) (d := d) (x0 := Int32.ofNat q) (x1 := Int32.ofNat w) hL
  rw [bx_nbII q hq w hw] at this
  exact this
theorem bx_portI : ∀ q, q < 35 → ∀ w, w < 4 → fa_X0_portAt (Int32.ofNat q) (Int32.ofNat w) = Int32.ofNat (bx_port q w) := by decide +kernel
theorem sp_portAt {q w : Nat} (hL : hh_L h) (hq : q < 35) (hw : w < 4) : tr_L g d m_X0_portAt 0 [some (.int (Int32.ofNat q)), some (.int (Int32.ofNat w)), none, none] [] h (.inl (some (.int (Int32.ofNat (bx_port q w)))), h) := by
  have := sa_X0_portAt (g := g) (d := d) (x0 := Int32.ofNat q) (x1 := Int32.ofNat w) hL
  rw [bx_portI q hq w hw] at this
  exact this
theorem bx_cellI : ∀ p, p < 24 → fa_X0_cellAt (Int32.ofNat p) = Int32.ofNat (bx_cell p) := by decide +kernel
theorem bx_dirI : ∀ p, p < 24 → fa_X0_directionAt (Int32.ofNat p) = Int32.ofNat (bx_dir p) := by decide +kernel
theorem sp_cellAt {p : Nat} (hL : hh_L h) (hp : p < 24) : tr_L g d m_X0_cellAt 0 [some (.int (Int32.ofNat p))] [] h (.inl (some (.int (Int32.ofNat (bx_cell p)))), h) := by
  have := sa_X0_cellAt (g := g) (d := d) (x0 := Int32.ofNat p) hL
  rw [bx_cellI p hp] at this
  exact this
theorem sp_dirAt {p : Nat} (hL : hh_L h) (hp : p < 24) : tr_L g d m_X0_directionAt 0 [some (.int (Int32.ofNat p))] [] h (.inl (some (.int (Int32.ofNat (bx_dir p)))), h) := by
  have := sa_X0_directionAt (g := g) (d := d) (x0 := Int32.ofNat p) hL
  rw [bx_dirI p hp] at this
  exact this
theorem bx_facts : ∀ p, p < 24 → bx_cell p < 35 ∧ bx_dir p < 4 := by decide +kernel
theorem bx_wf : ∀ w, w < 4 → bx_opp w < 4 ∧ w ^^^ 1 < 4 ∧ 3 - w < 4 := by decide +kernel
theorem bx_refl_lt {c : Int32} {w : Nat} (hw : w < 4) : bx_refl c w < 4 := by
  unfold bx_refl
  repeat' split
  · exact (bx_wf w hw).2.1
  · exact (bx_wf w hw).2.2
  · exact hw
end
