/-! SCRIPT: how commands are read -/
theorem sb_all : ∀ (ks : List Nat), ks.all (fun k => Nat.blt k 128) = true → ∀ x ∈ ks.map Int32.ofNat, sb_c x := by
  intro ks h x hx
  obtain ⟨k, hk, rfl⟩ := List.mem_map.mp hx
  exact ⟨k, Nat.le_of_ble_eq_true (List.all_eq_true.mp h k hk), rfl⟩
/-- a step of reading: the place reached, and what was read, if the step came off -/
def pb {α β : Type} (m : Nat × Option α) (f : α → Nat → Nat × Option β) : Nat × Option β := match m with
  | (p, none) => (p, none)
  | (p, some a) => f a p
def bI (b : Bool) : Int32 := if b then 1 else 0
def tw (t : List Int32) : List Int32 → Nat → Nat × Option Unit
  | [], p => (p, some ())
  | c :: w, p => if t.getD p 0 = c then tw t w (p + 1) else (p, none)
def dig (x : Int32) : Option Nat := if 48 ≤ x ∧ x ≤ 57 then some (x.toNatClampNeg - 48) else none
def tn (t : List Int32) (p : Nat) : Nat × Option Nat := match dig (t.getD p 0) with
  | none => (p, none)
  | some a => match dig (t.getD (p + 1) 0) with
    | none => (p + 1, some a)
    | some b => (p + 2, some (10 * a + b))
def tf (t : List Int32) (l : List Int32) (p : Nat) : Nat × Option Int32 := if t.getD p 0 ∈ l then (p + 1, some (t.getD p 0)) else (p, none)
abbrev Cmd : Type := Nat × Nat × Int32 × Int32 × Int32
def wCat : List Int32 := [99, 97, 116, 32]
def wSp : List Int32 := [32]
def wOpt : List Int32 := [97, 98, 99, 100]
def wM : List Int32 := [109]
def wEth : List Int32 := [101, 116, 104, 111, 100, 32]
def wPrs : List Int32 := [112, 114, 115]
def wIrr : List Int32 := [105, 114, 114, 111, 114, 32]
def wCon : List Int32 := [47, 92, 46]
def wSay : List Int32 := [115, 97, 121, 32]
def wVote : List Int32 := [118, 111, 116, 101]
def wRet : List Int32 := [114, 101, 116, 114, 121]
def wSep : List Int32 := [59]
def rdR (t : List Int32) (p : Nat) : Nat × Option (Int32 × Int32 × Int32) := pb (tf t wOpt p) fun a p => pb (tf t wOpt p) fun b p => pb (tf t wOpt p) fun c p => (p, some (a, b, c))
def rdM (t : List Int32) (p : Nat) : Nat × Option Cmd := if t.getD p 0 = 101 then pb (tw t wEth p) fun _ p => pb (tf t wPrs p) fun a p => (p, some (3, 0, a, 0, 0)) else pb (tw t wIrr p) fun _ p => pb (tn t p) fun n p => pb (tw t wSp p) fun _ p => pb (tf t wCon p) fun a p => (p, some (1, n, a, 0, 0))
def rdC (t : List Int32) (p : Nat) : Nat × Option Cmd :=
  if t.getD p 0 = 99 then pb (tw t wCat p) fun _ p => pb (tn t p) fun n p => pb (tw t wSp p) fun _ p => pb (rdR t p) fun r p => (p, some (0, n, r.1, r.2.1, r.2.2))
  else if t.getD p 0 = 109 then pb (tw t wM p) fun _ p => rdM t p
  else if t.getD p 0 = 115 then pb (tw t wSay p) fun _ p => pb (tn t p) fun n p => pb (tw t wSp p) fun _ p => pb (tf t wOpt p) fun a p => (p, some (2, n, a, 0, 0))
  else if t.getD p 0 = 118 then pb (tw t wVote p) fun _ p => (p, some (4, 0, 0, 0, 0))
  else pb (tw t wRet p) fun _ p => (p, some (5, 0, 0, 0, 0))
/-- all commands from a place on -/
def rdA (t : List Int32) : Nat → Nat → Nat × Option (List Cmd)
  | 0, p => (p, none)
  | k + 1, p => pb (rdC t p) fun c p => if t.length ≤ p then (p, some [c]) else pb (tw t wSep p) fun _ p => pb (rdA t k p) fun cs p => (p, some (c :: cs))
/-- what the script's fields are -/
def xs (h : ev_AH) (t : List Int32) (p : Nat) (k n a b c : Int32) : Prop := sb h 94 t ∧ hh_i h 93 1 = Int32.ofNat p ∧ hh_i h 93 2 = k ∧ hh_i h 93 3 = n ∧ hh_i h 93 4 = a ∧ hh_i h 93 5 = b ∧ hh_i h 93 6 = c
def xc (a b c : Int32) : Prop := tr_ch a ∧ tr_ch b ∧ tr_ch c
theorem ht93 : hh_t[93]? = some (.inr (7, [1094, 0, 0, 0, 0, 0, 0])) := rfl
/-- nothing stands behind the last character -/
theorem gd_lt {t : List Int32} {p : Nat} {c : Int32} (h : t.getD p 0 = c) (hc : c ≠ 0) : p < t.length := by
  by_cases hp : p < t.length
  · exact hp
  · rw [List.getD, List.getElem?_eq_none (by omega)] at h
    exact absurd h.symm hc
theorem tw_le {t : List Int32} : ∀ (w : List Int32) (p : Nat), (∀ c ∈ w, c ≠ 0) → p ≤ t.length → (tw t w p).1 ≤ t.length
  | [], p, _, hp => hp
  | c :: w, p, hw, hp => by
    unfold tw
    split
    · exact tw_le w (p + 1) (fun c' h => hw c' (List.mem_cons_of_mem _ h)) (gd_lt (by assumption) (hw c List.mem_cons_self))
    · exact hp
theorem tf_le {t l : List Int32} {p : Nat} (hl : ∀ c ∈ l, c ≠ 0) (hp : p ≤ t.length) : (tf t l p).1 ≤ t.length := by
  unfold tf
  split
  · exact gd_lt rfl (hl _ (by assumption))
  · exact hp
theorem dig_ne {x : Int32} {a : Nat} (h : dig x = some a) : x ≠ 0 ∧ x = Int32.ofNat (48 + a) ∧ a < 10 := by
  unfold dig at h
  split at h
  · rename_i hx
    obtain ⟨k, hk, rfl⟩ := ii_of (Int32.le_trans (by decide) hx.1)
    have h1 := (ii_le (a := 48) (by omega) (by omega)).mp hx.1
    have h2 : k ≤ 57 := (ii_le (b := 57) (by omega) (by omega)).mp hx.2
    rw [ii_cn hk] at h
    have h3 : k - 48 = a := by injection h
    refine ⟨fun e => ?_, by rw [show 48 + a = k by omega], by omega⟩
    have := (ii_eq (b := 0) (by omega) (by omega)).mp e
    omega
  · cases h
theorem dig_no {x : Int32} (h : dig x = none) : fa_X6_isDigit x = 0 := by
  unfold dig at h
  unfold fa_X6_isDigit
  split at h
  · cases h
  · rename_i hx
    split
    · rfl
    · rename_i h1
      split
      · rfl
      · rename_i h2
        exact absurd ⟨Int32.not_lt.mp h1, Int32.not_lt.mp h2⟩ hx
theorem dig_yes {x : Int32} {a : Nat} (h : dig x = some a) : fa_X6_isDigit x = 1 := by
  unfold dig at h
  unfold fa_X6_isDigit
  split at h
  · rename_i hx
    rw [if_neg (Int32.not_lt.mpr hx.1), if_neg (Int32.not_lt.mpr hx.2)]
  · cases h
theorem tn_le {t : List Int32} {p : Nat} (hp : p ≤ t.length) : (tn t p).1 ≤ t.length := by
  unfold tn
  split
  · exact hp
  · rename_i a h1
    split
    · exact gd_lt rfl (dig_ne h1).1
    · rename_i b h2
      exact gd_lt (p := p + 1) rfl (dig_ne h2).1
section
variable {g : tr_g} {d : Nat} {h : ev_AH} {t : List Int32} {p : Nat} {k n a b c : Int32}
theorem xs_sb {sl : Nat} {x : Int32} (s : sb h 94 t) : sb (hh_si h 93 7 sl x) 94 t := sb_F (ks := [93]) (hh_F_si (by decide)) (by decide) (by decide) (by decide) s
theorem xs1 {q : Nat} (hL : hh_L h) (s : xs h t p k n a b c) : xs (hh_si h 93 7 1 (Int32.ofNat q)) t q k n a b c := by
  obtain ⟨s0, s1, s2, s3, s4, s5, s6⟩ := s
  refine ⟨xs_sb s0, ?_, ?_, ?_, ?_, ?_, ?_⟩ <;> rw [hh_i_sis hL ht93 (by decide)]
  all_goals first | exact if_pos rfl | (rw [if_neg (by decide)]; assumption)
theorem xs2 {x : Int32} (hL : hh_L h) (s : xs h t p k n a b c) : xs (hh_si h 93 7 2 x) t p x n a b c := by
  obtain ⟨s0, s1, s2, s3, s4, s5, s6⟩ := s
  refine ⟨xs_sb s0, ?_, ?_, ?_, ?_, ?_, ?_⟩ <;> rw [hh_i_sis hL ht93 (by decide)]
  all_goals first | exact if_pos rfl | (rw [if_neg (by decide)]; assumption)
theorem xs3 {x : Int32} (hL : hh_L h) (s : xs h t p k n a b c) : xs (hh_si h 93 7 3 x) t p k x a b c := by
  obtain ⟨s0, s1, s2, s3, s4, s5, s6⟩ := s
  refine ⟨xs_sb s0, ?_, ?_, ?_, ?_, ?_, ?_⟩ <;> rw [hh_i_sis hL ht93 (by decide)]
  all_goals first | exact if_pos rfl | (rw [if_neg (by decide)]; assumption)
theorem xs4 {x : Int32} (hL : hh_L h) (s : xs h t p k n a b c) : xs (hh_si h 93 7 4 x) t p k n x b c := by
  obtain ⟨s0, s1, s2, s3, s4, s5, s6⟩ := s
  refine ⟨xs_sb s0, ?_, ?_, ?_, ?_, ?_, ?_⟩ <;> rw [hh_i_sis hL ht93 (by decide)]
  all_goals first | exact if_pos rfl | (rw [if_neg (by decide)]; assumption)
theorem xs5 {x : Int32} (hL : hh_L h) (s : xs h t p k n a b c) : xs (hh_si h 93 7 5 x) t p k n a x c := by
  obtain ⟨s0, s1, s2, s3, s4, s5, s6⟩ := s
  refine ⟨xs_sb s0, ?_, ?_, ?_, ?_, ?_, ?_⟩ <;> rw [hh_i_sis hL ht93 (by decide)]
  all_goals first | exact if_pos rfl | (rw [if_neg (by decide)]; assumption)
theorem xs6 {x : Int32} (hL : hh_L h) (s : xs h t p k n a b c) : xs (hh_si h 93 7 6 x) t p k n a b x := by
  obtain ⟨s0, s1, s2, s3, s4, s5, s6⟩ := s
  refine ⟨xs_sb s0, ?_, ?_, ?_, ?_, ?_, ?_⟩ <;> rw [hh_i_sis hL ht93 (by decide)]
  all_goals first | exact if_pos rfl | (rw [if_neg (by decide)]; assumption)
theorem xL {sl : Nat} {x : Int32} (hL : hh_L h) (h1 : 1 ≤ sl) (h2 : sl < 7) : hh_L (hh_si h 93 7 sl x) := by
  have : sl = 1 ∨ sl = 2 ∨ sl = 3 ∨ sl = 4 ∨ sl = 5 ∨ sl = 6 := by omega
  rcases this with rfl | rfl | rfl | rfl | rfl | rfl <;> exact hh_L_si hL ht93 rfl
theorem sb_cs (s : sb h 94 t) : ∀ x ∈ t, sb_c x := by
  obtain ⟨s1, s2, c, b, s3, s4, s5, s6, s7, s8, s9, s10⟩ := s
  intro x hx
  rw [← s9] at hx
  exact s10 x (List.mem_of_mem_take hx)
theorem xs_c (s : xs h t p k n a b c) : sb_c (t.getD p 0) := by
  by_cases hp : p < t.length
  · exact sb_memD (sb_cs s.1) hp
  · rw [List.getD, List.getElem?_eq_none (by omega)]
    exact ⟨0, by omega, rfl⟩
theorem sp_peek (hL : hh_L h) (hg : ev_cat1 g.2 = true) (s : xs h t p k n a b c) (hp : p ≤ t.length) (ht : t.length < 1000) : tr_L g (d + 4) m_X6_peek 0 [some (.ref 1093)] [] h (.inl (some (.int (t.getD p 0))), h) := by
  have e1 := s.2.1
  refine sg_X6_peek_0 hL (fun q => ?_) (fun _ => sg_X6_peek_7 hL (d := d + 3) (sb_len_t (d := d + 2) hL s.1) (fun q => ?_) (fun q => ?_))
  · rw [e1] at q
    exact absurd q (Int32.not_lt.mpr (ii_nn (by omega)))
  · rw [e1] at q
    have := (ii_le (by omega) (by omega)).mp q
    refine sg_X6_peek_35 hL ?_
    rw [List.getD, List.getElem?_eq_none this]
    rfl
  · rw [e1] at q
    have hlt := (ii_lt (by omega) (by omega)).mp q
    refine sg_X6_peek_21 hL (d := d + 3) (h1 := h) (v0 := t.getD p 0) (by rw [e1]; exact sb_at_t hL hg s.1 hlt) (sb_ch (xs_c s)) rfl
/-- a word is taken -/
theorem sp_tw {a1 : Nat} {w : List Int32} (hg : ev_cat1 g.2 = true) (hs : sw g a1 w) (h0 : ∀ c ∈ w, c ≠ 0) (ht : t.length < 1000) : ∀ (m j p : Nat) (h : ev_AH), j + m = w.length → hh_L h → xs h t p k n a b c → p ≤ t.length → ∃ h', tr_L g (d + 5) m_X6_takeWord 2 [some (.ref 1093), some (.ref a1), some (.int (Int32.ofNat j))] [] h (.inl (some (.int (bI (tw t (w.drop j) p).2.isSome))), h') ∧ hh_F [93] h h' ∧ xs h' t (tw t (w.drop j) p).1 k n a b c := by
  have hl : w.length < 1000 := by
    obtain ⟨_, _, _, _, _, _, s5, _⟩ := hs
    exact s5
  have hm0 : ∀ h, ∃ vs, ev_rd (tr_G g) h a1 = some (.inr (8, vs)) := by
    obtain ⟨_, vs, s1, _⟩ := hs
    exact fun h => ⟨vs, s1 h⟩
  intro m
  induction m with
  | zero =>
    intro j p h hj hL s hp
    obtain ⟨vs, m0⟩ := hm0 h
    rw [List.drop_of_length_le (by omega)]
    refine ⟨h, sg_X6_takeWord_2 hL (d := d + 4) (m0 := m0) (sw_len (d := d + 3) hL hs) (fun _ => sg_X6_takeWord_40 hL rfl) (fun q => absurd ((ii_lt (by omega) (by omega)).mp q) (by omega)), hh_F_rf, s⟩
  | succ m ih =>
    intro j p h hj hL s hp
    obtain ⟨vs, m0⟩ := hm0 h
    have hlt : j < w.length := by omega
    have ed : w.drop j = w.getD j 0 :: w.drop (j + 1) := by
      rw [List.drop_eq_getElem_cons hlt, List.getD, List.getElem?_eq_getElem hlt]
      rfl
    have hne : w.getD j 0 ≠ 0 := by
      rw [List.getD, List.getElem?_eq_getElem hlt]
      exact h0 _ (List.getElem_mem hlt)
    have pre : ∀ r, (t.getD p 0 = w.getD j 0 → tr_L g (d + 5) m_X6_takeWord 24 [some (.ref 1093), some (.ref a1), some (.int (Int32.ofNat j))] [] h r) → (t.getD p 0 ≠ w.getD j 0 → tr_L g (d + 5) m_X6_takeWord 22 [some (.ref 1093), some (.ref a1), some (.int (Int32.ofNat j))] [] h r) → tr_L g (d + 5) m_X6_takeWord 2 [some (.ref 1093), some (.ref a1), some (.int (Int32.ofNat j))] [] h r := fun r y z =>
      sg_X6_takeWord_2 hL (d := d + 4) (m0 := m0) (sw_len (d := d + 3) hL hs) (fun q => absurd ((ii_le (by omega) (by omega)).mp q) (by omega)) (fun _ => sg_X6_takeWord_10 hL (d := d + 4) (sp_peek hL hg s hp ht) (m0 := m0) (sw_at (d := d + 1) hL hg hs hlt) y z)
    by_cases hx : t.getD p 0 = w.getD j 0
    · have L1 := xL (sl := 1) (x := Int32.ofNat (p + 1)) hL (by decide) (by decide)
      obtain ⟨h', r1, r2, r3⟩ := ih (j + 1) (p + 1) _ (by omega) L1 (xs1 (q := p + 1) hL s) (gd_lt hx hne)
      rw [ed, tw, if_pos hx]
      refine ⟨h', pre _ (fun _ => sg_X6_takeWord_24 hL ?_) (fun q => absurd hx q), hh_F_tr (hh_F_si (by decide)) r2, r3⟩
      rw [s.2.1, ii_s, ii_s]
      exact r1
    · rw [ed, tw, if_neg hx]
      exact ⟨h, pre _ (fun q => absurd q hx) (fun _ => sg_X6_takeWord_22 hL rfl), hh_F_rf, s⟩
theorem sc_takeWord {a1 : Nat} {w : List Int32} (hL : hh_L h) (hg : ev_cat1 g.2 = true) (hs : sw g a1 w) (h0 : ∀ c ∈ w, c ≠ 0) (ht : t.length < 1000) (s : xs h t p k n a b c) (hp : p ≤ t.length) : ∃ h', tr_L g (d + 5) m_X6_takeWord 0 [some (.ref 1093), some (.ref a1), none] [] h (.inl (some (.int (bI (tw t w p).2.isSome))), h') ∧ hh_F [93] h h' ∧ xs h' t (tw t w p).1 k n a b c := by
  obtain ⟨h', r1, r2, r3⟩ := sp_tw (g := g) (d := d) hg hs h0 ht w.length 0 p h (by omega) hL s hp
  exact ⟨h', sg_X6_takeWord_0 hL r1, r2, r3⟩
theorem sc_takeFirst {a1 : Nat} {w : List Int32} (hL : hh_L h) (hg : ev_cat1 g.2 = true) (hs : sw g a1 w) (h0 : ∀ c ∈ w, c ≠ 0) (ht : t.length < 1000) (s : xs h t p k n a b c) (hp : p ≤ t.length) : ∃ h', tr_L g (d + 5) m_X6_takeFirst 0 [some (.ref 1093), some (.ref a1), none] [] h (.inl (some (.int (bI (tf t w p).2.isSome))), h') ∧ hh_F [93] h h' ∧ xs h' t (tf t w p).1 k n ((tf t w p).2.getD a) b c := by
  obtain ⟨v, r1, r2⟩ := sw_idx (g := g) (d := d + 1) (x := t.getD p 0) hL hs (xs_c s)
  obtain ⟨_, vs, m0, _⟩ := hs
  unfold tf
  by_cases hx : t.getD p 0 ∈ w
  · rw [if_pos hx]
    have L1 := xL (sl := 4) (x := t.getD p 0) hL (by decide) (by decide)
    have X1 := xs4 (x := t.getD p 0) hL s
    have e1 : hh_i (hh_si h 93 7 4 (t.getD p 0)) 93 1 + 1 = Int32.ofNat (p + 1) := by rw [X1.2.1, ii_s]
    refine ⟨hh_si (hh_si h 93 7 4 (t.getD p 0)) 93 7 1 (Int32.ofNat (p + 1)), sg_X6_takeFirst_0 hL (d := d + 4) (sp_peek hL hg s hp ht) (m0 := m0 h) r1 (fun _ => sg_X6_takeFirst_15 hL (sb_ch (xs_c s)) (by rw [e1]; rfl)) (fun q => absurd (r2.mpr hx) (Int32.not_le.mpr q)), hh_F_tr (h2 := hh_si h 93 7 4 (t.getD p 0)) (hh_F_si (by decide)) (hh_F_si (by decide)), xs1 L1 X1⟩
  · rw [if_neg hx]
    exact ⟨h, sg_X6_takeFirst_0 hL (d := d + 4) (sp_peek hL hg s hp ht) (m0 := m0 h) r1 (fun q => absurd (r2.mp q) hx) (fun _ => sg_X6_takeFirst_13 hL rfl), hh_F_rf, s⟩
theorem sc_takeNumber (hL : hh_L h) (hg : ev_cat1 g.2 = true) (ht : t.length < 1000) (s : xs h t p k n a b c) (hp : p ≤ t.length) : ∃ h' n', tr_L g (d + 5) m_X6_takeNumber 0 [some (.ref 1093)] [] h (.inl (some (.int (bI (tn t p).2.isSome))), h') ∧ hh_F [93] h h' ∧ xs h' t (tn t p).1 k n' a b c ∧ ∀ N, (tn t p).2 = some N → n' = Int32.ofNat N := by
  have pk := sp_peek (g := g) (d := d) hL hg s hp ht
  unfold tn
  cases e1 : dig (t.getD p 0) with
  | none =>
    refine ⟨h, n, sg_X6_takeNumber_0 hL (d := d + 4) pk (sa_X6_isDigit hL) (fun q => absurd (dig_no e1) q) (fun _ => sg_X6_takeNumber_10 hL rfl), hh_F_rf, s, fun N hN => by cases hN⟩
  | some x =>
    obtain ⟨x0, x1, x2⟩ := dig_ne e1
    have hp1 : p + 1 ≤ t.length := gd_lt rfl x0
    have ex : t.getD p 0 - 48 = Int32.ofNat x := by
      rw [x1]
      have := ii_u (48 + x) 48 (by omega)
      rw [Nat.add_sub_cancel_left] at this
      exact this
    have L1 := xL (sl := 3) (x := Int32.ofNat x) hL (by decide) (by decide)
    have X1 := xs3 (x := Int32.ofNat x) hL s
    have L2 := xL (sl := 1) (x := Int32.ofNat (p + 1)) L1 (by decide) (by decide)
    have X2 := xs1 (q := p + 1) L1 X1
    have ee : hh_i (hh_si h 93 7 3 (Int32.ofNat x)) 93 1 + 1 = Int32.ofNat (p + 1) := by rw [X1.2.1, ii_s]
    have F2 : hh_F [93] h (hh_si (hh_si h 93 7 3 (Int32.ofNat x)) 93 7 1 (Int32.ofNat (p + 1))) := hh_F_tr (hh_F_si (by decide)) (hh_F_si (by decide))
    have pk2 := sp_peek (g := g) (d := d) L2 hg X2 hp1 ht
    have one : fa_X6_isDigit (t.getD p 0) ≠ 0 := by rw [dig_yes e1]; decide
    cases e2 : dig (t.getD (p + 1) 0) with
    | none =>
      refine ⟨hh_si (hh_si h 93 7 3 (Int32.ofNat x)) 93 7 1 (Int32.ofNat (p + 1)), Int32.ofNat x, sg_X6_takeNumber_0 hL (d := d + 4) pk (sa_X6_isDigit hL) (fun _ => sg_X6_takeNumber_12 hL (d := d + 4) (v1 := t.getD (p + 1) 0) (h2 := hh_si (hh_si h 93 7 3 (Int32.ofNat x)) 93 7 1 (Int32.ofNat (p + 1))) pk (by rw [ex, ee]; exact pk2) (sa_X6_isDigit L2) (fun _ => sg_X6_takeNumber_72 L2 rfl) (fun q => absurd (dig_no e2) q)) (fun q => absurd q one), F2, X2, fun N hN => by injection hN with hN; rw [hN]⟩
    | some y =>
      obtain ⟨y0, y1, y2⟩ := dig_ne e2
      have two : fa_X6_isDigit (t.getD (p + 1) 0) ≠ 0 := by rw [dig_yes e2]; decide
      have ey : (10 * hh_i (hh_si (hh_si h 93 7 3 (Int32.ofNat x)) 93 7 1 (Int32.ofNat (p + 1))) 93 3 + t.getD (p + 1) 0) - 48 = Int32.ofNat (10 * x + y) := by
        rw [X2.2.2.2.1, y1, show (10 : Int32) = Int32.ofNat 10 from rfl, ii_m, ii_a]
        have := ii_u (10 * x + (48 + y)) 48 (by omega)
        rw [show 10 * x + (48 + y) - 48 = 10 * x + y by omega] at this
        exact this
      have L3 := xL (sl := 3) (x := Int32.ofNat (10 * x + y)) L2 (by decide) (by decide)
      have X3 := xs3 (x := Int32.ofNat (10 * x + y)) L2 X2
      have L4 := xL (sl := 1) (x := Int32.ofNat (p + 2)) L3 (by decide) (by decide)
      have X4 := xs1 (q := p + 2) L3 X3
      have e4 : hh_i (hh_si (hh_si (hh_si h 93 7 3 (Int32.ofNat x)) 93 7 1 (Int32.ofNat (p + 1))) 93 7 3 (Int32.ofNat (10 * x + y))) 93 1 + 1 = Int32.ofNat (p + 2) := by rw [X3.2.1, ii_s]
      refine ⟨hh_si (hh_si (hh_si (hh_si h 93 7 3 (Int32.ofNat x)) 93 7 1 (Int32.ofNat (p + 1))) 93 7 3 (Int32.ofNat (10 * x + y))) 93 7 1 (Int32.ofNat (p + 2)), Int32.ofNat (10 * x + y), sg_X6_takeNumber_0 hL (d := d + 4) pk (sa_X6_isDigit hL) (fun _ => sg_X6_takeNumber_12 hL (d := d + 4) (v1 := t.getD (p + 1) 0) (h2 := hh_si (hh_si h 93 7 3 (Int32.ofNat x)) 93 7 1 (Int32.ofNat (p + 1))) pk (by rw [ex, ee]; exact pk2) (sa_X6_isDigit L2) (fun q => absurd q two) (fun _ => sg_X6_takeNumber_43 L2 (d := d + 4) pk2 ?_)) (fun q => absurd q one), hh_F_tr F2 (hh_F_tr (h2 := hh_si (hh_si (hh_si h 93 7 3 (Int32.ofNat x)) 93 7 1 (Int32.ofNat (p + 1))) 93 7 3 (Int32.ofNat (10 * x + y))) (hh_F_si (by decide)) (hh_F_si (by decide))), X4, fun N hN => by injection hN with hN; rw [hN]⟩
      rw [ey, e4]
      rfl
theorem pb_n {α β : Type} {m : Nat × Option α} {f : α → Nat → Nat × Option β} (h : m.2 = none) : pb m f = (m.1, none) := by
  obtain ⟨m1, m2⟩ := m
  subst h
  rfl
theorem pb_s {α β : Type} {m : Nat × Option α} {f : α → Nat → Nat × Option β} {a : α} (h : m.2 = some a) : pb m f = f a m.1 := by
  obtain ⟨m1, m2⟩ := m
  subst h
  rfl
theorem bI_0 {α : Type} {o : Option α} (h : o = none) : bI o.isSome = 0 := by rw [h]; rfl
theorem bI_1 {α : Type} {o : Option α} {a : α} (h : o = some a) : bI o.isSome = 1 := by rw [h]; rfl
theorem tf_ch (s : xs h t p k n a b c) {w : List Int32} {x : Int32} (e : (tf t w p).2 = some x) : sb_c x ∧ x ∈ w := by
  unfold tf at e
  split at e
  · injection e with e
    rw [← e]
    exact ⟨xs_c s, by assumption⟩
  · cases e
theorem sw_1 : sw g 1 wCat := ⟨2, _, fun _ => rfl, rfl, rfl, fun _ => rfl, by decide, sb_all [99, 97, 116, 32] rfl⟩
theorem sw_3 : sw g 3 wSp := ⟨4, _, fun _ => rfl, rfl, rfl, fun _ => rfl, by decide, sb_all [32] rfl⟩
theorem sw_5 : sw g 5 wOpt := ⟨6, _, fun _ => rfl, rfl, rfl, fun _ => rfl, by decide, sb_all [97, 98, 99, 100] rfl⟩
theorem sw_7 : sw g 7 wM := ⟨8, _, fun _ => rfl, rfl, rfl, fun _ => rfl, by decide, sb_all [109] rfl⟩
theorem sw_9 : sw g 9 wEth := ⟨10, _, fun _ => rfl, rfl, rfl, fun _ => rfl, by decide, sb_all [101, 116, 104, 111, 100, 32] rfl⟩
theorem sw_11 : sw g 11 wPrs := ⟨12, _, fun _ => rfl, rfl, rfl, fun _ => rfl, by decide, sb_all [112, 114, 115] rfl⟩
theorem sw_13 : sw g 13 wIrr := ⟨14, _, fun _ => rfl, rfl, rfl, fun _ => rfl, by decide, sb_all [105, 114, 114, 111, 114, 32] rfl⟩
theorem sw_15 : sw g 15 wCon := ⟨16, _, fun _ => rfl, rfl, rfl, fun _ => rfl, by decide, sb_all [47, 92, 46] rfl⟩
theorem sw_17 : sw g 17 wSay := ⟨18, _, fun _ => rfl, rfl, rfl, fun _ => rfl, by decide, sb_all [115, 97, 121, 32] rfl⟩
theorem sw_19 : sw g 19 wVote := ⟨20, _, fun _ => rfl, rfl, rfl, fun _ => rfl, by decide, sb_all [118, 111, 116, 101] rfl⟩
theorem sw_21 : sw g 21 wRet := ⟨22, _, fun _ => rfl, rfl, rfl, fun _ => rfl, by decide, sb_all [114, 101, 116, 114, 121] rfl⟩
theorem sw_23 : sw g 23 wSep := ⟨24, _, fun _ => rfl, rfl, rfl, fun _ => rfl, by decide, sb_all [59] rfl⟩
theorem wz_Cat : ∀ c ∈ wCat, c ≠ 0 := by decide
theorem wz_Sp : ∀ c ∈ wSp, c ≠ 0 := by decide
theorem wz_Opt : ∀ c ∈ wOpt, c ≠ 0 := by decide
theorem wz_M : ∀ c ∈ wM, c ≠ 0 := by decide
theorem wz_Eth : ∀ c ∈ wEth, c ≠ 0 := by decide
theorem wz_Prs : ∀ c ∈ wPrs, c ≠ 0 := by decide
theorem wz_Irr : ∀ c ∈ wIrr, c ≠ 0 := by decide
theorem wz_Con : ∀ c ∈ wCon, c ≠ 0 := by decide
theorem wz_Say : ∀ c ∈ wSay, c ≠ 0 := by decide
theorem wz_Vote : ∀ c ∈ wVote, c ≠ 0 := by decide
theorem wz_Ret : ∀ c ∈ wRet, c ≠ 0 := by decide
theorem wz_Sep : ∀ c ∈ wSep, c ≠ 0 := by decide
theorem getD_ch {o : Option Int32} (ha : tr_ch a) (h : ∀ x, o = some x → sb_c x) : tr_ch (o.getD a) := by
  cases o with
  | none => exact ha
  | some x => exact sb_ch (h x rfl)
theorem sc_takeRanking (hL : hh_L h) (hg : ev_cat1 g.2 = true) (ht : t.length < 1000) (s : xs h t p k n a b c) (hc : xc a b c) (hp : p ≤ t.length) : ∃ h' a' b' c', tr_L g (d + 6) m_X6_takeRanking 0 [some (.ref 1093), none] [] h (.inl (some (.int (bI (rdR t p).2.isSome))), h') ∧ hh_F [93] h h' ∧ xs h' t (rdR t p).1 k n a' b' c' ∧ xc a' b' c' ∧ (rdR t p).1 ≤ t.length ∧ ∀ r, (rdR t p).2 = some r → a' = r.1 ∧ b' = r.2.1 ∧ c' = r.2.2 := by
  obtain ⟨h1, r1, F1, X1⟩ := sc_takeFirst (g := g) (d := d) hL hg sw_5 wz_Opt ht s hp
  have p1 := tf_le (t := t) wz_Opt hp
  unfold rdR
  cases e1 : (tf t wOpt p).2 with
  | none =>
    rw [pb_n e1]
    rw [bI_0 e1] at r1
    rw [e1] at X1
    exact ⟨h1, a, b, c, sg_X6_takeRanking_0 hL (d := d + 5) r1 (fun q => absurd rfl q) (fun _ => sg_X6_takeRanking_9 r1.2 rfl), F1, X1, hc, p1, fun r hr => by cases hr⟩
  | some x =>
    rw [pb_s e1]
    rw [bI_1 e1] at r1
    rw [e1] at X1
    have hx := sb_ch (tf_ch s e1).1
    have X1' : xs h1 t (tf t wOpt p).1 k n x b c := X1
    generalize (tf t wOpt p).1 = p1' at *
    obtain ⟨h2, r2, F2, X2⟩ := sc_takeFirst (g := g) (d := d) r1.2 hg sw_5 wz_Opt ht X1' p1
    have p2 := tf_le (t := t) wz_Opt p1
    have e4 : hh_i h1 93 4 = x := X1'.2.2.2.2.1
    cases e2 : (tf t wOpt p1').2 with
    | none =>
      rw [pb_n e2]
      rw [bI_0 e2] at r2
      rw [e2] at X2
      exact ⟨h2, x, b, c, sg_X6_takeRanking_0 hL (d := d + 5) r1 (fun _ => sg_X6_takeRanking_11 r1.2 (d := d + 5) r2 (fun q => absurd rfl q) (fun _ => sg_X6_takeRanking_25 r2.2 rfl)) (fun q => absurd q (by decide)), hh_F_tr F1 F2, X2, ⟨hx, hc.2⟩, p2, fun r hr => by cases hr⟩
    | some y =>
      rw [pb_s e2]
      rw [bI_1 e2] at r2
      rw [e2] at X2
      have hy := sb_ch (tf_ch X1' e2).1
      have X2' : xs h2 t (tf t wOpt p1').1 k n y b c := X2
      generalize (tf t wOpt p1').1 = p2' at *
      have X3 := xs5 (x := y) r2.2 X2'
      have L3 := xL (sl := 5) (x := y) r2.2 (by decide) (by decide)
      obtain ⟨h3, r3, F3, X4⟩ := sc_takeFirst (g := g) (d := d) L3 hg sw_5 wz_Opt ht X3 p2
      have p3 := tf_le (t := t) wz_Opt p2
      have F13 : hh_F [93] h h3 := hh_F_tr F1 (hh_F_tr F2 (hh_F_tr (h2 := hh_si h2 93 7 5 y) (hh_F_si (by decide)) F3))
      have e5 : hh_i h2 93 4 = y := X2'.2.2.2.2.1
      have pre : ∀ r, (tr_L g (d + 6) m_X6_takeRanking 27 [some (.ref 1093), some (.int x)] [] h2 r) → tr_L g (d + 6) m_X6_takeRanking 0 [some (.ref 1093), none] [] h r := fun r z =>
        sg_X6_takeRanking_0 hL (d := d + 5) r1 (fun _ => sg_X6_takeRanking_11 r1.2 (d := d + 5) r2 (fun _ => by rw [e4]; exact z) (fun q => absurd q (by decide))) (fun q => absurd q (by decide))
      cases e3 : (tf t wOpt p2').2 with
      | none =>
        rw [pb_n e3]
        rw [bI_0 e3] at r3
        rw [e3] at X4
        exact ⟨h3, y, y, c, pre _ (sg_X6_takeRanking_27 r2.2 (d := d + 5) (by rw [e5]; exact hy) (by rw [e5]; exact r3) (fun q => absurd rfl q) (fun _ => sg_X6_takeRanking_44 r3.2 rfl)), F13, X4, ⟨hy, hy, hc.2.2⟩, p3, fun r hr => by cases hr⟩
      | some z =>
        rw [pb_s e3]
        rw [bI_1 e3] at r3
        rw [e3] at X4
        have hz := sb_ch (tf_ch X3 e3).1
        have X4' : xs h3 t (tf t wOpt p2').1 k n z y c := X4
        generalize (tf t wOpt p2').1 = p3' at *
        have e6 : hh_i h3 93 4 = z := X4'.2.2.2.2.1
        have X5 := xs6 (x := z) r3.2 X4'
        have L5 := xL (sl := 6) (x := z) r3.2 (by decide) (by decide)
        have X6 := xs4 (x := x) L5 X5
        refine ⟨hh_si (hh_si h3 93 7 6 z) 93 7 4 x, x, y, z, pre _ (sg_X6_takeRanking_27 r2.2 (d := d + 5) (by rw [e5]; exact hy) (by rw [e5]; exact r3) (fun _ => sg_X6_takeRanking_46 r3.2 (by rw [e6]; exact hz) hx (by rw [e6]; rfl)) (fun q => absurd q (by decide))), hh_F_tr F13 (hh_F_tr (h2 := hh_si h3 93 7 6 z) (hh_F_si (by decide)) (hh_F_si (by decide))), X6, ⟨hx, hy, hz⟩, p3, fun r hr => ?_⟩
        injection hr with hr
        rw [← hr]
        exact ⟨rfl, rfl, rfl⟩
/-- what a command read says of the fields -/
def cmR (m : Nat × Option Cmd) (k n a b c : Int32) : Prop := ∀ K N A B C, m.2 = some (K, N, A, B, C) → k = Int32.ofNat K ∧ (K < 3 → n = Int32.ofNat N) ∧ (K ≤ 3 → a = A) ∧ (K = 0 → b = B ∧ c = C)
theorem sc_readM (hL : hh_L h) (hg : ev_cat1 g.2 = true) (ht : t.length < 1000) (s : xs h t p k n a b c) (hc : xc a b c) (hp : p ≤ t.length) : ∃ h' k' n' a', tr_L g (d + 6) m_X6_readMirrorOrMethod 0 [some (.ref 1093)] [] h (.inl (some (.int (bI (rdM t p).2.isSome))), h') ∧ hh_F [93] h h' ∧ xs h' t (rdM t p).1 k' n' a' b c ∧ tr_ch a' ∧ (rdM t p).1 ≤ t.length ∧ cmR (rdM t p) k' n' a' b c := by
  have pk := sp_peek (g := g) (d := d + 1) hL hg s hp ht
  unfold rdM
  by_cases he : t.getD p 0 = 101
  · rw [if_pos he]
    have X1 := xs2 (x := 3) hL s
    have L1 := xL (sl := 2) (x := 3) hL (by decide) (by decide)
    have F1 : hh_F [93] h (hh_si h 93 7 2 3) := hh_F_si (by decide)
    obtain ⟨h2, r2, F2, X2⟩ := sc_takeWord (g := g) (d := d) L1 hg sw_9 wz_Eth ht X1 hp
    have p2 := tw_le (t := t) wEth p wz_Eth hp
    have pre : ∀ r, tr_L g (d + 6) m_X6_readMirrorOrMethod 9 [some (.ref 1093)] [] h r → tr_L g (d + 6) m_X6_readMirrorOrMethod 0 [some (.ref 1093)] [] h r := fun r z => sg_X6_readMirrorOrMethod_0 hL (d := d + 5) pk (fun q => absurd he q) (fun _ => z)
    cases e2 : (tw t wEth p).2 with
    | none =>
      rw [pb_n e2]
      rw [bI_0 e2] at r2
      exact ⟨h2, _, _, _, pre _ (sg_X6_readMirrorOrMethod_9 hL (d := d + 5) r2 (fun _ => sg_X6_readMirrorOrMethod_36 r2.2 rfl) (fun q => absurd rfl q)), hh_F_tr F1 F2, X2, hc.1, p2, fun K N A B C hr => by cases hr⟩
    | some u =>
      rw [pb_s e2]
      rw [bI_1 e2] at r2
      generalize (tw t wEth p).1 = p2' at *
      obtain ⟨h3, r3, F3, X3⟩ := sc_takeFirst (g := g) (d := d) r2.2 hg sw_11 wz_Prs ht X2 p2
      have p3 := tf_le (t := t) wz_Prs p2
      have pre2 : ∀ r, tr_L g (d + 6) m_X6_readMirrorOrMethod 23 [some (.ref 1093)] [] h2 r → tr_L g (d + 6) m_X6_readMirrorOrMethod 0 [some (.ref 1093)] [] h r := fun r z => pre _ (sg_X6_readMirrorOrMethod_9 hL (d := d + 5) r2 (fun q => absurd q (by decide)) (fun _ => z))
      have F13 := hh_F_tr F1 (hh_F_tr F2 F3)
      have hx := getD_ch hc.1 (fun x e => (tf_ch X2 (w := wPrs) e).1)
      cases e3 : (tf t wPrs p2').2 with
      | none =>
        rw [pb_n e3]
        rw [bI_0 e3] at r3
        exact ⟨h3, _, _, _, pre2 _ (sg_X6_readMirrorOrMethod_23 r2.2 (d := d + 5) r3 (fun _ => sg_X6_readMirrorOrMethod_36 r3.2 rfl) (fun q => absurd rfl q)), F13, X3, hx, p3, fun K N A B C hr => by cases hr⟩
      | some x =>
        rw [pb_s e3]
        rw [bI_1 e3] at r3
        rw [e3] at X3 hx
        refine ⟨h3, _, _, _, pre2 _ (sg_X6_readMirrorOrMethod_23 r2.2 (d := d + 5) r3 (fun q => absurd q (by decide)) (fun _ => sg_X6_readMirrorOrMethod_32 r3.2 rfl)), F13, X3, hx, p3, fun K N A B C hr => ?_⟩
        injection hr with hr
        injection hr with h1 hr
        injection hr with h2 hr
        injection hr with h3 hr
        subst h1; subst h3
        exact ⟨rfl, fun q => absurd q (by decide), fun _ => rfl, fun q => absurd q (by decide)⟩
  · rw [if_neg he]
    have X1 := xs2 (x := 1) hL s
    have L1 := xL (sl := 2) (x := 1) hL (by decide) (by decide)
    have F1 : hh_F [93] h (hh_si h 93 7 2 1) := hh_F_si (by decide)
    obtain ⟨h2, r2, F2, X2⟩ := sc_takeWord (g := g) (d := d) L1 hg sw_13 wz_Irr ht X1 hp
    have p2 := tw_le (t := t) wIrr p wz_Irr hp
    have pre : ∀ r, tr_L g (d + 6) m_X6_readMirrorOrMethod 38 [some (.ref 1093)] [] h r → tr_L g (d + 6) m_X6_readMirrorOrMethod 0 [some (.ref 1093)] [] h r := fun r z => sg_X6_readMirrorOrMethod_0 hL (d := d + 5) pk (fun _ => z) (fun q => absurd q he)
    cases e2 : (tw t wIrr p).2 with
    | none =>
      rw [pb_n e2]
      rw [bI_0 e2] at r2
      exact ⟨h2, _, _, _, pre _ (sg_X6_readMirrorOrMethod_38 hL (d := d + 5) r2 (fun _ => sg_X6_readMirrorOrMethod_81 r2.2 rfl) (fun q => absurd rfl q)), hh_F_tr F1 F2, X2, hc.1, p2, fun K N A B C hr => by cases hr⟩
    | some u =>
      rw [pb_s e2]
      rw [bI_1 e2] at r2
      generalize (tw t wIrr p).1 = p2' at *
      obtain ⟨h3, n3, r3, F3, X3, N3⟩ := sc_takeNumber (g := g) (d := d) r2.2 hg ht X2 p2
      have p3 := tn_le (t := t) p2
      have pre2 : ∀ r, tr_L g (d + 6) m_X6_readMirrorOrMethod 52 [some (.ref 1093)] [] h2 r → tr_L g (d + 6) m_X6_readMirrorOrMethod 0 [some (.ref 1093)] [] h r := fun r z => pre _ (sg_X6_readMirrorOrMethod_38 hL (d := d + 5) r2 (fun q => absurd q (by decide)) (fun _ => z))
      have F13 := hh_F_tr F1 (hh_F_tr F2 F3)
      cases e3 : (tn t p2').2 with
      | none =>
        rw [pb_n e3]
        rw [bI_0 e3] at r3
        exact ⟨h3, _, _, _, pre2 _ (sg_X6_readMirrorOrMethod_52 r2.2 (d := d + 5) r3 (fun _ => sg_X6_readMirrorOrMethod_81 r3.2 rfl) (fun q => absurd rfl q)), F13, X3, hc.1, p3, fun K N A B C hr => by cases hr⟩
      | some N0 =>
        rw [pb_s e3]
        rw [bI_1 e3] at r3
        have en := N3 N0 e3
        generalize (tn t p2').1 = p3' at *
        obtain ⟨h4, r4, F4, X4⟩ := sc_takeWord (g := g) (d := d) r3.2 hg sw_3 wz_Sp ht X3 p3
        have p4 := tw_le (t := t) wSp p3' wz_Sp p3
        have pre3 : ∀ r, tr_L g (d + 6) m_X6_readMirrorOrMethod 59 [some (.ref 1093)] [] h3 r → tr_L g (d + 6) m_X6_readMirrorOrMethod 0 [some (.ref 1093)] [] h r := fun r z => pre2 _ (sg_X6_readMirrorOrMethod_52 r2.2 (d := d + 5) r3 (fun q => absurd q (by decide)) (fun _ => z))
        have F14 := hh_F_tr F13 F4
        cases e4 : (tw t wSp p3').2 with
        | none =>
          rw [pb_n e4]
          rw [bI_0 e4] at r4
          exact ⟨h4, _, _, _, pre3 _ (sg_X6_readMirrorOrMethod_59 r3.2 (d := d + 5) r4 (fun _ => sg_X6_readMirrorOrMethod_81 r4.2 rfl) (fun q => absurd rfl q)), F14, X4, hc.1, p4, fun K N A B C hr => by cases hr⟩
        | some u =>
          rw [pb_s e4]
          rw [bI_1 e4] at r4
          generalize (tw t wSp p3').1 = p4' at *
          obtain ⟨h5, r5, F5, X5⟩ := sc_takeFirst (g := g) (d := d) r4.2 hg sw_15 wz_Con ht X4 p4
          have p5 := tf_le (t := t) wz_Con p4
          have pre4 : ∀ r, tr_L g (d + 6) m_X6_readMirrorOrMethod 68 [some (.ref 1093)] [] h4 r → tr_L g (d + 6) m_X6_readMirrorOrMethod 0 [some (.ref 1093)] [] h r := fun r z => pre3 _ (sg_X6_readMirrorOrMethod_59 r3.2 (d := d + 5) r4 (fun q => absurd q (by decide)) (fun _ => z))
          have F15 := hh_F_tr F14 F5
          have hx := getD_ch hc.1 (fun x e => (tf_ch X4 (w := wCon) e).1)
          cases e5 : (tf t wCon p4').2 with
          | none =>
            rw [pb_n e5]
            rw [bI_0 e5] at r5
            exact ⟨h5, _, _, _, pre4 _ (sg_X6_readMirrorOrMethod_68 r4.2 (d := d + 5) r5 (fun _ => sg_X6_readMirrorOrMethod_81 r5.2 rfl) (fun q => absurd rfl q)), F15, X5, hx, p5, fun K N A B C hr => by cases hr⟩
          | some x =>
            rw [pb_s e5]
            rw [bI_1 e5] at r5
            rw [e5] at X5 hx
            refine ⟨h5, _, _, _, pre4 _ (sg_X6_readMirrorOrMethod_68 r4.2 (d := d + 5) r5 (fun q => absurd q (by decide)) (fun _ => sg_X6_readMirrorOrMethod_77 r5.2 rfl)), F15, X5, hx, p5, fun K N A B C hr => ?_⟩
            injection hr with hr
            injection hr with h1 hr
            injection hr with h2 hr
            injection hr with h3 hr
            subst h1; subst h3; subst h2
            exact ⟨rfl, fun _ => en, fun _ => rfl, fun q => absurd q (by decide)⟩
theorem sc_read (hL : hh_L h) (hg : ev_cat1 g.2 = true) (ht : t.length < 1000) (s : xs h t p k n a b c) (hc : xc a b c) (hp : p ≤ t.length) : ∃ h' k' n' a' b' c', tr_L g (d + 7) m_X6_readCommand 0 [some (.ref 1093), none] [] h (.inl (some (.int (bI (rdC t p).2.isSome))), h') ∧ hh_F [93] h h' ∧ xs h' t (rdC t p).1 k' n' a' b' c' ∧ xc a' b' c' ∧ (rdC t p).1 ≤ t.length ∧ cmR (rdC t p) k' n' a' b' c' := by
  have pk := sp_peek (g := g) (d := d + 2) hL hg s hp ht
  unfold rdC
  by_cases h99 : t.getD p 0 = 99
  · rw [if_pos h99]
    have pre : ∀ r, tr_L g (d + 7) m_X6_readCommand 11 [some (.ref 1093), some (.int (t.getD p 0))] [] h r → tr_L g (d + 7) m_X6_readCommand 0 [some (.ref 1093), none] [] h r := fun r z => sg_X6_readCommand_0 hL (d := d + 6) pk (fun q => absurd h99 q) (fun _ => z)
    have X1 := xs2 (x := 0) hL s
    have L1 := xL (sl := 2) (x := 0) hL (by decide) (by decide)
    have F1 : hh_F [93] h (hh_si h 93 7 2 0) := hh_F_si (by decide)
    obtain ⟨h2, r2, F2, X2⟩ := sc_takeWord (g := g) (d := d + 1) L1 hg sw_1 wz_Cat ht X1 hp
    have p2 := tw_le (t := t) wCat p wz_Cat hp
    cases e2 : (tw t wCat p).2 with
    | none =>
      rw [pb_n e2]
      rw [bI_0 e2] at r2
      exact ⟨h2, _, _, _, _, _, pre _ (sg_X6_readCommand_11 hL (d := d + 6) r2 (fun _ => sg_X6_readCommand_52 r2.2 rfl) (fun q => absurd rfl q)), hh_F_tr F1 F2, X2, hc, p2, fun K N A B C hr => by cases hr⟩
    | some u =>
      rw [pb_s e2]
      rw [bI_1 e2] at r2
      generalize (tw t wCat p).1 = p2' at *
      obtain ⟨h3, n3, r3, F3, X3, N3⟩ := sc_takeNumber (g := g) (d := d + 1) r2.2 hg ht X2 p2
      have p3 := tn_le (t := t) p2
      have pre2 : ∀ r, tr_L g (d + 7) m_X6_readCommand 25 [some (.ref 1093), some (.int (t.getD p 0))] [] h2 r → tr_L g (d + 7) m_X6_readCommand 0 [some (.ref 1093), none] [] h r := fun r z => pre _ (sg_X6_readCommand_11 hL (d := d + 6) r2 (fun q => absurd q (by decide)) (fun _ => z))
      have F13 := hh_F_tr F1 (hh_F_tr F2 F3)
      cases e3 : (tn t p2').2 with
      | none =>
        rw [pb_n e3]
        rw [bI_0 e3] at r3
        exact ⟨h3, _, _, _, _, _, pre2 _ (sg_X6_readCommand_25 r2.2 (d := d + 6) r3 (fun _ => sg_X6_readCommand_52 r3.2 rfl) (fun q => absurd rfl q)), F13, X3, hc, p3, fun K N A B C hr => by cases hr⟩
      | some N0 =>
        rw [pb_s e3]
        rw [bI_1 e3] at r3
        have en := N3 N0 e3
        generalize (tn t p2').1 = p3' at *
        obtain ⟨h4, r4, F4, X4⟩ := sc_takeWord (g := g) (d := d + 1) r3.2 hg sw_3 wz_Sp ht X3 p3
        have p4 := tw_le (t := t) wSp p3' wz_Sp p3
        have pre3 : ∀ r, tr_L g (d + 7) m_X6_readCommand 32 [some (.ref 1093), some (.int (t.getD p 0))] [] h3 r → tr_L g (d + 7) m_X6_readCommand 0 [some (.ref 1093), none] [] h r := fun r z => pre2 _ (sg_X6_readCommand_25 r2.2 (d := d + 6) r3 (fun q => absurd q (by decide)) (fun _ => z))
        have F14 := hh_F_tr F13 F4
        cases e4 : (tw t wSp p3').2 with
        | none =>
          rw [pb_n e4]
          rw [bI_0 e4] at r4
          exact ⟨h4, _, _, _, _, _, pre3 _ (sg_X6_readCommand_32 r3.2 (d := d + 6) r4 (fun _ => sg_X6_readCommand_52 r4.2 rfl) (fun q => absurd rfl q)), F14, X4, hc, p4, fun K N A B C hr => by cases hr⟩
        | some u =>
          rw [pb_s e4]
          rw [bI_1 e4] at r4
          generalize (tw t wSp p3').1 = p4' at *
          have pre4 : ∀ r, tr_L g (d + 7) m_X6_readCommand 41 [some (.ref 1093), some (.int (t.getD p 0))] [] h4 r → tr_L g (d + 7) m_X6_readCommand 0 [some (.ref 1093), none] [] h r := fun r z => pre3 _ (sg_X6_readCommand_32 r3.2 (d := d + 6) r4 (fun q => absurd q (by decide)) (fun _ => z))
          obtain ⟨h5, a5, b5, c5, r5, F5, X5, C5, p5, N5⟩ := sc_takeRanking (g := g) (d := d) r4.2 hg ht X4 hc p4
          have F15 := hh_F_tr F14 F5
          cases e5 : (rdR t p4').2 with
          | none =>
            rw [pb_n e5]
            rw [bI_0 e5] at r5
            exact ⟨h5, _, _, _, _, _, pre4 _ (sg_X6_readCommand_41 r4.2 (d := d + 6) r5 (fun _ => sg_X6_readCommand_52 r5.2 rfl) (fun q => absurd rfl q)), F15, X5, C5, p5, fun K N A B C hr => by cases hr⟩
          | some x =>
            rw [pb_s e5]
            rw [bI_1 e5] at r5
            have en2 := N5 x e5
            refine ⟨h5, _, _, _, _, _, pre4 _ (sg_X6_readCommand_41 r4.2 (d := d + 6) r5 (fun q => absurd q (by decide)) (fun _ => sg_X6_readCommand_48 r5.2 rfl)), F15, X5, C5, p5, fun K N A B C hr => ?_⟩
            injection hr with hr
            injection hr with h1 hr
            injection hr with h2 hr
            injection hr with h3 hr
            injection hr with h4 hr
            subst h1; subst h3; subst h2; subst h4; subst hr
            exact ⟨rfl, fun _ => en, fun _ => en2.1, fun _ => en2.2⟩
  rw [if_neg h99]
  have pre54 : ∀ r, tr_L g (d + 7) m_X6_readCommand 54 [some (.ref 1093), some (.int (t.getD p 0))] [] h r → tr_L g (d + 7) m_X6_readCommand 0 [some (.ref 1093), none] [] h r := fun r z => sg_X6_readCommand_0 hL (d := d + 6) pk (fun _ => z) (fun q => absurd q h99)
  by_cases h109 : t.getD p 0 = 109
  · rw [if_pos h109]
    have pre : ∀ r, tr_L g (d + 7) m_X6_readCommand 60 [some (.ref 1093), some (.int (t.getD p 0))] [] h r → tr_L g (d + 7) m_X6_readCommand 0 [some (.ref 1093), none] [] h r := fun r z => pre54 _ (sg_X6_readCommand_54 hL (d := d + 7) (fun q => absurd h109 q) (fun _ => z))
    obtain ⟨h2, r2, F2, X2⟩ := sc_takeWord (g := g) (d := d + 1) hL hg sw_7 wz_M ht s hp
    have p2 := tw_le (t := t) wM p wz_M hp
    cases e2 : (tw t wM p).2 with
    | none =>
      rw [pb_n e2]
      rw [bI_0 e2] at r2
      exact ⟨h2, _, _, _, _, _, pre _ (sg_X6_readCommand_60 hL (d := d + 6) r2 (fun _ => sg_X6_readCommand_80 r2.2 rfl) (fun q => absurd rfl q)), F2, X2, hc, p2, fun K N A B C hr => by cases hr⟩
    | some u =>
      rw [pb_s e2]
      rw [bI_1 e2] at r2
      generalize (tw t wM p).1 = p2' at *
      obtain ⟨h3, k3, n3, a3, r3, F3, X3, C3, p3, N3⟩ := sc_readM (g := g) (d := d) r2.2 hg ht X2 hc p2
      have pre2 : ∀ r, tr_L g (d + 7) m_X6_readCommand 69 [some (.ref 1093), some (.int (t.getD p 0))] [] h2 r → tr_L g (d + 7) m_X6_readCommand 0 [some (.ref 1093), none] [] h r := fun r z => pre _ (sg_X6_readCommand_60 hL (d := d + 6) r2 (fun q => absurd q (by decide)) (fun _ => z))
      refine ⟨h3, k3, n3, a3, b, c, pre2 _ ?_, hh_F_tr F2 F3, X3, ⟨C3, hc.2⟩, p3, N3⟩
      cases e3 : (rdM t p2').2 with
      | none =>
        rw [bI_0 e3] at r3
        exact sg_X6_readCommand_69 r2.2 (d := d + 6) r3 (fun _ => sg_X6_readCommand_80 r3.2 rfl) (fun q => absurd rfl q)
      | some x =>
        rw [bI_1 e3] at r3
        exact sg_X6_readCommand_69 r2.2 (d := d + 6) r3 (fun q => absurd q (by decide)) (fun _ => sg_X6_readCommand_76 r3.2 rfl)
  rw [if_neg h109]
  have pre82 : ∀ r, tr_L g (d + 7) m_X6_readCommand 82 [some (.ref 1093), some (.int (t.getD p 0))] [] h r → tr_L g (d + 7) m_X6_readCommand 0 [some (.ref 1093), none] [] h r := fun r z => pre54 _ (sg_X6_readCommand_54 hL (d := d + 7) (fun _ => z) (fun q => absurd q h109))
  by_cases h115 : t.getD p 0 = 115
  · rw [if_pos h115]
    have pre : ∀ r, tr_L g (d + 7) m_X6_readCommand 88 [some (.ref 1093), some (.int (t.getD p 0))] [] h r → tr_L g (d + 7) m_X6_readCommand 0 [some (.ref 1093), none] [] h r := fun r z => pre82 _ (sg_X6_readCommand_82 hL (d := d + 7) (fun q => absurd h115 q) (fun _ => z))
    have X1 := xs2 (x := 2) hL s
    have L1 := xL (sl := 2) (x := 2) hL (by decide) (by decide)
    have F1 : hh_F [93] h (hh_si h 93 7 2 2) := hh_F_si (by decide)
    obtain ⟨h2, r2, F2, X2⟩ := sc_takeWord (g := g) (d := d + 1) L1 hg sw_17 wz_Say ht X1 hp
    have p2 := tw_le (t := t) wSay p wz_Say hp
    cases e2 : (tw t wSay p).2 with
    | none =>
      rw [pb_n e2]
      rw [bI_0 e2] at r2
      exact ⟨h2, _, _, _, _, _, pre _ (sg_X6_readCommand_88 hL (d := d + 6) r2 (fun _ => sg_X6_readCommand_131 r2.2 rfl) (fun q => absurd rfl q)), hh_F_tr F1 F2, X2, hc, p2, fun K N A B C hr => by cases hr⟩
    | some u =>
      rw [pb_s e2]
      rw [bI_1 e2] at r2
      generalize (tw t wSay p).1 = p2' at *
      obtain ⟨h3, n3, r3, F3, X3, N3⟩ := sc_takeNumber (g := g) (d := d + 1) r2.2 hg ht X2 p2
      have p3 := tn_le (t := t) p2
      have pre2 : ∀ r, tr_L g (d + 7) m_X6_readCommand 102 [some (.ref 1093), some (.int (t.getD p 0))] [] h2 r → tr_L g (d + 7) m_X6_readCommand 0 [some (.ref 1093), none] [] h r := fun r z => pre _ (sg_X6_readCommand_88 hL (d := d + 6) r2 (fun q => absurd q (by decide)) (fun _ => z))
      have F13 := hh_F_tr F1 (hh_F_tr F2 F3)
      cases e3 : (tn t p2').2 with
      | none =>
        rw [pb_n e3]
        rw [bI_0 e3] at r3
        exact ⟨h3, _, _, _, _, _, pre2 _ (sg_X6_readCommand_102 r2.2 (d := d + 6) r3 (fun _ => sg_X6_readCommand_131 r3.2 rfl) (fun q => absurd rfl q)), F13, X3, hc, p3, fun K N A B C hr => by cases hr⟩
      | some N0 =>
        rw [pb_s e3]
        rw [bI_1 e3] at r3
        have en := N3 N0 e3
        generalize (tn t p2').1 = p3' at *
        obtain ⟨h4, r4, F4, X4⟩ := sc_takeWord (g := g) (d := d + 1) r3.2 hg sw_3 wz_Sp ht X3 p3
        have p4 := tw_le (t := t) wSp p3' wz_Sp p3
        have pre3 : ∀ r, tr_L g (d + 7) m_X6_readCommand 109 [some (.ref 1093), some (.int (t.getD p 0))] [] h3 r → tr_L g (d + 7) m_X6_readCommand 0 [some (.ref 1093), none] [] h r := fun r z => pre2 _ (sg_X6_readCommand_102 r2.2 (d := d + 6) r3 (fun q => absurd q (by decide)) (fun _ => z))
        have F14 := hh_F_tr F13 F4
        cases e4 : (tw t wSp p3').2 with
        | none =>
          rw [pb_n e4]
          rw [bI_0 e4] at r4
          exact ⟨h4, _, _, _, _, _, pre3 _ (sg_X6_readCommand_109 r3.2 (d := d + 6) r4 (fun _ => sg_X6_readCommand_131 r4.2 rfl) (fun q => absurd rfl q)), F14, X4, hc, p4, fun K N A B C hr => by cases hr⟩
        | some u =>
          rw [pb_s e4]
          rw [bI_1 e4] at r4
          generalize (tw t wSp p3').1 = p4' at *
          have pre4 : ∀ r, tr_L g (d + 7) m_X6_readCommand 118 [some (.ref 1093), some (.int (t.getD p 0))] [] h4 r → tr_L g (d + 7) m_X6_readCommand 0 [some (.ref 1093), none] [] h r := fun r z => pre3 _ (sg_X6_readCommand_109 r3.2 (d := d + 6) r4 (fun q => absurd q (by decide)) (fun _ => z))
          obtain ⟨h5, r5, F5, X5⟩ := sc_takeFirst (g := g) (d := d + 1) r4.2 hg sw_5 wz_Opt ht X4 p4
          have p5 := tf_le (t := t) wz_Opt p4
          have F15 := hh_F_tr F14 F5
          have hx := getD_ch hc.1 (fun x e => (tf_ch X4 (w := wOpt) e).1)
          cases e5 : (tf t wOpt p4').2 with
          | none =>
            rw [pb_n e5]
            rw [bI_0 e5] at r5
            exact ⟨h5, _, _, _, _, _, pre4 _ (sg_X6_readCommand_118 r4.2 (d := d + 6) r5 (fun _ => sg_X6_readCommand_131 r5.2 rfl) (fun q => absurd rfl q)), F15, X5, ⟨hx, hc.2⟩, p5, fun K N A B C hr => by cases hr⟩
          | some x =>
            rw [pb_s e5]
            rw [bI_1 e5] at r5
            rw [e5] at X5 hx
            refine ⟨h5, _, _, _, _, _, pre4 _ (sg_X6_readCommand_118 r4.2 (d := d + 6) r5 (fun q => absurd q (by decide)) (fun _ => sg_X6_readCommand_127 r5.2 rfl)), F15, X5, ⟨hx, hc.2⟩, p5, fun K N A B C hr => ?_⟩
            injection hr with hr
            injection hr with h1 hr
            injection hr with h2 hr
            injection hr with h3 hr
            subst h1; subst h3; subst h2
            exact ⟨rfl, fun _ => en, fun _ => rfl, fun q => absurd q (by decide)⟩
  rw [if_neg h115]
  have pre133 : ∀ r, tr_L g (d + 7) m_X6_readCommand 133 [some (.ref 1093), some (.int (t.getD p 0))] [] h r → tr_L g (d + 7) m_X6_readCommand 0 [some (.ref 1093), none] [] h r := fun r z => pre82 _ (sg_X6_readCommand_82 hL (d := d + 7) (fun _ => z) (fun q => absurd q h115))
  have bb : ∀ (o : Option Unit), bI o.isSome = 0 ∨ bI o.isSome = 1 := fun o => by
    cases o with
    | none => exact Or.inl rfl
    | some _ => exact Or.inr rfl
  have bs : ∀ (m : Nat × Option Unit) (f : Unit → Nat → Nat × Option Cmd) (x : Cmd), (∀ p, f () p = (p, some x)) → (pb m f).1 = m.1 ∧ (pb m f).2.isSome = m.2.isSome ∧ ∀ y, (pb m f).2 = some y → y = x := fun m f x hf => by
    obtain ⟨m1, m2⟩ := m
    cases m2 with
    | none => exact ⟨rfl, rfl, fun y hy => by cases hy⟩
    | some u =>
      show (f () m1).1 = _ ∧ (f () m1).2.isSome = _ ∧ ∀ y, (f () m1).2 = some y → _
      rw [hf]
      exact ⟨rfl, rfl, fun y hy => by injection hy with hy; exact hy.symm⟩
  by_cases h118 : t.getD p 0 = 118
  · rw [if_pos h118]
    obtain ⟨q1, q2, q3⟩ := bs (tw t wVote p) (fun _ p => (p, some (4, 0, 0, 0, 0))) (4, 0, 0, 0, 0) (fun _ => rfl)
    have X1 := xs2 (x := 4) hL s
    have L1 := xL (sl := 2) (x := 4) hL (by decide) (by decide)
    obtain ⟨h2, r2, F2, X2⟩ := sc_takeWord (g := g) (d := d + 1) L1 hg sw_19 wz_Vote ht X1 hp
    have p2 := tw_le (t := t) wVote p wz_Vote hp
    rw [q1, q2]
    refine ⟨h2, _, _, _, _, _, pre133 _ (sg_X6_readCommand_133 hL (d := d + 7) (fun q => absurd h118 q) (fun _ => sg_X6_readCommand_139 hL (d := d + 6) r2 (bb _) rfl)), hh_F_tr (hh_F_si (by decide)) F2, X2, hc, p2, fun K N A B C hr => ?_⟩
    have hr := q3 _ hr
    injection hr with h1 hr
    subst h1
    exact ⟨rfl, fun q => absurd q (by decide), fun q => absurd q (by decide), fun q => absurd q (by decide)⟩
  · rw [if_neg h118]
    obtain ⟨q1, q2, q3⟩ := bs (tw t wRet p) (fun _ p => (p, some (5, 0, 0, 0, 0))) (5, 0, 0, 0, 0) (fun _ => rfl)
    have X1 := xs2 (x := 5) hL s
    have L1 := xL (sl := 2) (x := 5) hL (by decide) (by decide)
    obtain ⟨h2, r2, F2, X2⟩ := sc_takeWord (g := g) (d := d + 1) L1 hg sw_21 wz_Ret ht X1 hp
    have p2 := tw_le (t := t) wRet p wz_Ret hp
    rw [q1, q2]
    refine ⟨h2, _, _, _, _, _, pre133 _ (sg_X6_readCommand_133 hL (d := d + 7) (fun _ => sg_X6_readCommand_151 hL (d := d + 6) r2 (bb _) rfl) (fun q => absurd q h118)), hh_F_tr (hh_F_si (by decide)) F2, X2, hc, p2, fun K N A B C hr => ?_⟩
    have hr := q3 _ hr
    injection hr with h1 hr
    subst h1
    exact ⟨rfl, fun q => absurd q (by decide), fun q => absurd q (by decide), fun q => absurd q (by decide)⟩
/-- a command that was read is 4 characters long at least -/
theorem tw_len : ∀ (w : List Int32) (p : Nat), (tw t w p).2 = some () → (tw t w p).1 = p + w.length
  | [], p, _ => rfl
  | c :: w, p, e => by
    unfold tw at e ⊢
    split
    · rename_i hx
      rw [if_pos hx] at e
      rw [tw_len w (p + 1) e, List.length_cons]
      omega
    · rename_i hx
      rw [if_neg hx] at e
      cases e
theorem tf_len {w : List Int32} (e : (tf t w p).2 ≠ none) : (tf t w p).1 = p + 1 := by
  unfold tf at e ⊢
  split
  · rfl
  · rename_i hx
    rw [if_neg hx] at e
    exact absurd rfl e
theorem tn_len : p ≤ (tn t p).1 := by
  unfold tn
  split
  · exact Nat.le_refl _
  · split <;> simp
theorem pb_ge {α β : Type} {m : Nat × Option α} {f : α → Nat → Nat × Option β} {q j : Nat} (h : ∃ x, (pb m f).2 = some x) (hm : (∃ a, m.2 = some a) → q ≤ m.1) (hf : ∀ a r, (∃ x, (f a r).2 = some x) → r + j ≤ (f a r).1) : q + j ≤ (pb m f).1 := by
  obtain ⟨m1, m2⟩ := m
  cases m2 with
  | none =>
    obtain ⟨x, hx⟩ := h
    cases hx
  | some a =>
    have h1 := hm ⟨a, rfl⟩
    have h2 := hf a m1 h
    exact Nat.le_trans (Nat.add_le_add_right h1 j) h2
theorem rdC_len (h : ∃ x, (rdC t p).2 = some x) : p + 4 ≤ (rdC t p).1 := by
  unfold rdC at h ⊢
  have twl : ∀ (w : List Int32) (p : Nat), (∃ a, (tw t w p).2 = some a) → p + w.length ≤ (tw t w p).1 := fun w p ⟨a, ha⟩ => by rw [tw_len w p ha]; exact Nat.le_refl _
  have tfl : ∀ (w : List Int32) (p : Nat), (∃ a, (tf t w p).2 = some a) → p ≤ (tf t w p).1 := fun w p ⟨a, ha⟩ => by rw [tf_len (by rw [ha]; exact fun q => by cases q)]; omega
  split at h
  · rename_i q; rw [if_pos q]
    refine pb_ge (j := 0) h (fun e => twl wCat p e) (fun a r h1 => ?_)
    refine pb_ge (j := 0) h1 (fun _ => tn_len) (fun a r h1 => ?_)
    refine pb_ge (j := 0) h1 (fun e => Nat.le_trans (Nat.le_add_right _ _) (twl wSp r e)) (fun a r h1 => ?_)
    refine pb_ge (j := 0) h1 (fun e => ?_) (fun a r h1 => Nat.le_refl _)
    unfold rdR at e ⊢
    refine pb_ge (q := r) (j := 0) e (fun e => tfl _ _ e) (fun a r h1 => ?_)
    refine pb_ge (j := 0) h1 (fun e => tfl _ _ e) (fun a r h1 => ?_)
    exact pb_ge (j := 0) h1 (fun e => tfl _ _ e) (fun a r h1 => Nat.le_refl _)
  · rename_i q; rw [if_neg q]
    split at h
    · rename_i q; rw [if_pos q]
      refine pb_ge (q := p + 0) (j := 4) h (fun e => Nat.le_trans (Nat.le_add_right _ _) (twl wM p e)) (fun a r h1 => ?_)
      unfold rdM at h1 ⊢
      split at h1
      · rename_i q; rw [if_pos q]
        refine pb_ge (q := r + 4) (j := 0) h1 (fun e => Nat.le_trans (show r + 4 ≤ r + wEth.length by simp [wEth]) (twl wEth r e)) (fun a r h1 => ?_)
        exact pb_ge (j := 0) h1 (fun e => tfl _ _ e) (fun a r h1 => Nat.le_refl _)
      · rename_i q; rw [if_neg q]
        refine pb_ge (q := r + 4) (j := 0) h1 (fun e => Nat.le_trans (show r + 4 ≤ r + wIrr.length by simp [wIrr]) (twl wIrr r e)) (fun a r h1 => ?_)
        refine pb_ge (j := 0) h1 (fun _ => tn_len) (fun a r h1 => ?_)
        refine pb_ge (j := 0) h1 (fun e => Nat.le_trans (Nat.le_add_right _ _) (twl wSp r e)) (fun a r h1 => ?_)
        exact pb_ge (j := 0) h1 (fun e => tfl _ _ e) (fun a r h1 => Nat.le_refl _)
    · rename_i q; rw [if_neg q]
      split at h
      · rename_i q; rw [if_pos q]
        refine pb_ge (j := 0) h (fun e => twl wSay p e) (fun a r h1 => ?_)
        refine pb_ge (j := 0) h1 (fun _ => tn_len) (fun a r h1 => ?_)
        refine pb_ge (j := 0) h1 (fun e => Nat.le_trans (Nat.le_add_right _ _) (twl wSp r e)) (fun a r h1 => ?_)
        exact pb_ge (j := 0) h1 (fun e => tfl _ _ e) (fun a r h1 => Nat.le_refl _)
      · rename_i q; rw [if_neg q]
        split at h
        · rename_i q; rw [if_pos q]
          exact pb_ge (j := 0) h (fun e => twl wVote p e) (fun a r h1 => Nat.le_refl _)
        · rename_i q; rw [if_neg q]
          exact pb_ge (j := 0) h (fun e => Nat.le_trans (show p + 4 ≤ p + wRet.length by simp [wRet]) (twl wRet p e)) (fun a r h1 => Nat.le_refl _)
/-- the commands are counted -/
theorem sc_count (hg : ev_cat1 g.2 = true) (ht : t.length ≤ 60) : ∀ (m j p : Nat) (h : ev_AH) (k n a b c : Int32), j + m = 61 → 5 * j ≤ p + 5 → hh_L h → xs h t p k n a b c → xc a b c → p ≤ t.length → ∃ h' k' n' a' b' c', tr_L g (d + 8) m_X6_countCommands 7 [some (.ref 1093), some (.int (Int32.ofNat j))] [] h (.inl (some (.int (match (rdA t m p).2 with | none => -1 | some cs => Int32.ofNat (j + cs.length - 1)))), h') ∧ hh_F [93] h h' ∧ xs h' t (rdA t m p).1 k' n' a' b' c' ∧ xc a' b' c' ∧ (rdA t m p).1 ≤ t.length ∧ ∀ cs, (rdA t m p).2 = some cs → 1 ≤ cs.length := by
  intro m
  induction m with
  | zero =>
    intro j p h k n a b c hj h5 hL s hc hp
    exact absurd (Nat.le_trans hp ht) (by omega)
  | succ m ih =>
    intro j p h k n a b c hj h5 hL s hc hp
    obtain ⟨h1, k1, n1, a1, b1, c1, r1, F1, X1, C1, p1, N1⟩ := sc_read (g := g) (d := d) hL hg (by omega) s hc hp
    have hlen := rdC_len (t := t) (p := p)
    have pre : ∀ r, tr_L g (d + 8) m_X6_countCommands 13 [some (.ref 1093), some (.int (Int32.ofNat j))] [] h r → tr_L g (d + 8) m_X6_countCommands 7 [some (.ref 1093), some (.int (Int32.ofNat j))] [] h r := fun r z => sg_X6_countCommands_7 hL (d := d + 8) (fun q => absurd ((ii_lt (a := 60) (by omega) (by omega)).mp q) (by omega)) (fun _ => z)
    unfold rdA
    cases e1 : (rdC t p).2 with
    | none =>
      rw [pb_n e1]
      rw [bI_0 e1] at r1
      exact ⟨h1, _, _, _, _, _, pre _ (sg_X6_countCommands_13 hL (d := d + 7) r1 (fun q => absurd rfl q) (fun _ => sg_X6_countCommands_20 r1.2 rfl)), F1, X1, C1, p1, fun cs hcs => by cases hcs⟩
    | some x =>
      rw [pb_s e1]
      rw [bI_1 e1] at r1
      have h4 := hlen ⟨x, e1⟩
      generalize (rdC t p).1 = q1 at *
      have pre2 : ∀ r, tr_L g (d + 8) m_X6_countCommands 22 [some (.ref 1093), some (.int (Int32.ofNat j))] [] h1 r → tr_L g (d + 8) m_X6_countCommands 7 [some (.ref 1093), some (.int (Int32.ofNat j))] [] h r := fun r z => pre _ (sg_X6_countCommands_13 hL (d := d + 7) r1 (fun _ => z) (fun q => absurd q (by decide)))
      by_cases hend : t.length ≤ q1
      · rw [if_pos hend]
        refine ⟨h1, _, _, _, _, _, pre2 _ (sg_X6_countCommands_22 r1.2 (d := d + 7) (sb_len_t (d := d + 6) r1.2 X1.1) (fun q => ?_) (fun _ => sg_X6_countCommands_36 r1.2 rfl)), F1, X1, C1, p1, fun cs hcs => by injection hcs with hcs; rw [← hcs]; simp⟩
        rw [X1.2.1] at q
        exact absurd ((ii_lt (by omega) (by omega)).mp q) (by omega)
      · rw [if_neg hend]
        obtain ⟨h2, r2, F2, X2⟩ := sc_takeWord (g := g) (d := d + 2) r1.2 hg sw_23 wz_Sep (by omega) X1 p1
        have p2 := tw_le (t := t) wSep q1 wz_Sep p1
        have pre3 : ∀ r, tr_L g (d + 8) m_X6_countCommands 38 [some (.ref 1093), some (.int (Int32.ofNat j))] [] h1 r → tr_L g (d + 8) m_X6_countCommands 7 [some (.ref 1093), some (.int (Int32.ofNat j))] [] h r := fun r z => pre2 _ (sg_X6_countCommands_22 r1.2 (d := d + 7) (sb_len_t (d := d + 6) r1.2 X1.1) (fun _ => z) (fun q => by
          rw [X1.2.1] at q
          exact absurd ((ii_le (by omega) (by omega)).mp q) (by omega)))
        cases e2 : (tw t wSep q1).2 with
        | none =>
          rw [pb_n e2]
          rw [bI_0 e2] at r2
          exact ⟨h2, _, _, _, _, _, pre3 _ (sg_X6_countCommands_38 r1.2 (d := d + 7) r2 (fun q => absurd rfl q) (fun _ => sg_X6_countCommands_47 r2.2 rfl)), hh_F_tr F1 F2, X2, C1, p2, fun cs hcs => by cases hcs⟩
        | some u =>
          rw [pb_s e2]
          rw [bI_1 e2] at r2
          have h6 := tw_len wSep q1 e2
          have h7 : wSep.length = 1 := rfl
          generalize (tw t wSep q1).1 = q2 at *
          obtain ⟨h3, k3, n3, a3, b3, c3, r3, F3, X3, C3, p3, N3⟩ := ih (j + 1) q2 h2 _ _ _ _ _ (by omega) (by omega) r2.2 X2 C1 p2
          have pre4 : ∀ r, tr_L g (d + 8) m_X6_countCommands 7 [some (.ref 1093), some (.int (Int32.ofNat (j + 1)))] [] h2 r → tr_L g (d + 8) m_X6_countCommands 7 [some (.ref 1093), some (.int (Int32.ofNat j))] [] h r := fun r z => pre3 _ (sg_X6_countCommands_38 r1.2 (d := d + 7) r2 (fun _ => sg_X6_countCommands_49 r2.2 (by rw [ii_s]; exact z)) (fun q => absurd q (by decide)))
          cases e3 : (rdA t m q2).2 with
          | none =>
            rw [pb_n e3]
            rw [e3] at r3
            exact ⟨h3, _, _, _, _, _, pre4 _ r3, hh_F_tr F1 (hh_F_tr F2 F3), X3, C3, p3, fun cs hcs => by cases hcs⟩
          | some cs0 =>
            rw [pb_s e3]
            rw [e3] at r3
            have := N3 cs0 e3
            refine ⟨h3, _, _, _, _, _, pre4 _ ?_, hh_F_tr F1 (hh_F_tr F2 F3), X3, C3, p3, fun cs hcs => by injection hcs with hcs; rw [← hcs]; simp⟩
            have ee : j + (x :: cs0).length - 1 = j + 1 + cs0.length - 1 := by rw [List.length_cons]; omega
            show tr_L g (d + 8) _ _ _ _ _ (Sum.inl (some (Value.int (Int32.ofNat (j + (x :: cs0).length - 1)))), h3)
            rw [ee]
            exact r3
theorem sc_countAll (hL : hh_L h) (hg : ev_cat1 g.2 = true) (ht : t.length ≤ 60) (s : xs h t p k n a b c) (hc : xc a b c) : ∃ h' k' n' a' b' c', tr_L g (d + 8) m_X6_countCommands 0 [some (.ref 1093), none] [] h (.inl (some (.int (match (rdA t 60 0).2 with | none => -1 | some cs => Int32.ofNat cs.length))), h') ∧ hh_F [93] h h' ∧ xs h' t (rdA t 60 0).1 k' n' a' b' c' ∧ xc a' b' c' ∧ (rdA t 60 0).1 ≤ t.length := by
  have X1 := xs1 (q := 0) hL s
  have L1 := xL (sl := 1) (x := Int32.ofNat 0) hL (by decide) (by decide)
  obtain ⟨h3, k3, n3, a3, b3, c3, r3, F3, X3, C3, p3, N3⟩ := sc_count (g := g) (d := d) hg ht 60 1 0 _ _ _ _ _ _ (by omega) (by omega) L1 X1 hc (by omega)
  refine ⟨h3, k3, n3, a3, b3, c3, sg_X6_countCommands_0 hL ?_, hh_F_tr (hh_F_si (by decide)) F3, X3, C3, p3⟩
  cases e : (rdA t 60 0).2 with
  | none => rw [e] at r3; exact r3
  | some cs =>
    rw [e] at r3
    have e2 : 1 + cs.length - 1 = cs.length := by omega
    simp only [e2] at r3
    exact r3
/-- where a command begins, behind a separator -/
def skp (t : List Int32) (p : Nat) : Nat := if p = 0 then 0 else (tw t wSep p).1
theorem sc_skip (hL : hh_L h) (hg : ev_cat1 g.2 = true) (ht : t.length < 1000) (s : xs h t p k n a b c) (hp : p ≤ t.length) : ∃ h', tr_L g (d + 6) m_X6_skipSeparator 0 [some (.ref 1093)] [] h (.inl none, h') ∧ hh_F [93] h h' ∧ xs h' t (skp t p) k n a b c ∧ skp t p ≤ t.length := by
  unfold skp
  by_cases h0 : p = 0
  · rw [if_pos h0]
    subst h0
    refine ⟨h, sg_X6_skipSeparator_0 hL (d := d + 6) (fun _ => sg_X6_skipSeparator_14 hL rfl) (fun q => ?_), hh_F_rf, s, hp⟩
    rw [s.2.1] at q
    exact absurd q (by decide)
  · rw [if_neg h0]
    obtain ⟨h2, r2, F2, X2⟩ := sc_takeWord (g := g) (d := d) hL hg sw_23 wz_Sep ht s hp
    refine ⟨h2, sg_X6_skipSeparator_0 hL (d := d + 6) (fun q => ?_) (fun _ => sg_X6_skipSeparator_7 hL (d := d + 5) r2 rfl), F2, X2, tw_le wSep p wz_Sep hp⟩
    rw [s.2.1] at q
    exact absurd ((ii_le (b := 0) (by omega) (by omega)).mp q) (by omega)
/-- the commands from a place on, read one behind the other -/
def vs (t : List Int32) : Nat → List Cmd → Prop
  | _, [] => True
  | p, c :: cs => (rdC t (skp t p)).2 = some c ∧ vs t (rdC t (skp t p)).1 cs
theorem rdA_vs : ∀ (m p q : Nat) (cs : List Cmd), skp t q = p → (rdA t m p).2 = some cs → vs t q cs
  | 0, p, q, cs, _, e => by cases e
  | m + 1, p, q, cs, hq, e => by
    unfold rdA at e
    cases e1 : (rdC t p).2 with
    | none => rw [pb_n e1] at e; cases e
    | some x =>
      rw [pb_s e1] at e
      have h4 := rdC_len ⟨x, e1⟩
      split at e
      · injection e with e
        subst e
        refine ⟨by rw [hq]; exact e1, trivial⟩
      · cases e2 : (tw t wSep (rdC t p).1).2 with
        | none => rw [pb_n e2] at e; cases e
        | some u =>
          rw [pb_s e2] at e
          cases e3 : (rdA t m (tw t wSep (rdC t p).1).1).2 with
          | none => rw [pb_n e3] at e; cases e
          | some cs0 =>
            rw [pb_s e3] at e
            injection e with e
            subst e
            refine ⟨by rw [hq]; exact e1, ?_⟩
            rw [hq]
            exact rdA_vs m _ _ cs0 (by rw [skp, if_neg (by omega)]) e3
end
