/-! COURTS as they are in a run -/
theorem cat_iff {c : CT} {n : Nat} {x : Int32} : ct_cat c n x < n ↔ ∃ k, k < n ∧ (ct_ce c).getD k 0 = x := by
  have hsp := mm_find_spec (fun k => (ct_ce c).getD k 0 == x) n
  constructor
  · intro h
    exact ⟨_, h, beq_iff_eq.mp (hsp.1 h)⟩
  · rintro ⟨k, hk, e⟩
    have hle := mm_find_le (fun k => (ct_ce c).getD k 0 == x) n
    rcases Nat.lt_or_ge (ct_cat c n x) n with h | h
    · exact h
    · have := hsp.2 k (by unfold ct_cat at h; omega)
      rw [e] at this
      simp at this
def fi_perm (c : CT) (n : Nat) : Prop := ∀ k, k < n → ∃ r ∈ PERMS, ∀ p, p < 4 → (ct_fi c).getD (4 * k + p) 0 = Int32.ofNat (r.getD p 0)
def cw (c : CT) (n B : Nat) : Prop := pQ c n ∧ ct_ln c ∧ co_w c n ∧ (∀ j, j < n → ∀ k, k < n → (ct_ce c).getD j 0 = (ct_ce c).getD k 0 → j = k) ∧ fi_perm c n ∧ (∀ k, k < n → ∃ m, m ≤ B ∧ (ct_he c).getD k 0 = Int32.ofNat m) ∧ (∃ m, m ≤ B ∧ ct_i c 5 = Int32.ofNat m) ∧ (∃ m u, m ≤ B ∧ u ≤ m ∧ ct_i c 2 = Int32.ofNat m ∧ ct_i c 3 = Int32.ofNat u) ∧ (ct_i c 1 = 112 ∨ ct_i c 1 = 114 ∨ ct_i c 1 = 115)
theorem cw_B {c : CT} {n B B' : Nat} (h : B ≤ B') (w : cw c n B) : cw c n B' := by
  obtain ⟨w1, w2, w3, w4, w5, w6, ⟨m, m1, m2⟩, ⟨a, b, a1, a2, a3, a4⟩, w9⟩ := w
  exact ⟨w1, w2, w3, w4, w5, fun k hk => by obtain ⟨m, m1, m2⟩ := w6 k hk; exact ⟨m, by omega, m2⟩, ⟨m, by omega, m2⟩, ⟨a, b, by omega, a2, a3, a4⟩, w9⟩
theorem cw_cn {c : CT} {n B : Nat} (w : cw c n B) : cn c = n := by
  have h7 := w.1.2.1
  unfold cn
  rw [w.1.1, ii_cn (by omega)]
theorem perm4a : ∀ a, a < 4 → ∀ b, b < 4 → ∀ e, e < 4 → (a = b ∨ a = e ∨ b = e) ∨ PERMS.contains [a, b, e, 6 - a - b - e] = true := by decide +kernel
theorem perm4b (a b e : Nat) (h : a + b + e ≤ 6) : 6 - Int32.ofNat a - Int32.ofNat b - Int32.ofNat e = Int32.ofNat (6 - a - b - e) := by
  rw [show (6 : Int32) = Int32.ofNat 6 from rfl, ii_u _ _ (by omega), ii_u _ _ (by omega), ii_u _ _ (by omega)]
theorem perm4 (a : Nat) (ha : a < 4) (b : Nat) (hb : b < 4) (e : Nat) (he : e < 4) (h1 : a ≠ b) (h2 : a ≠ e) (h3 : b ≠ e) : ∃ r ∈ PERMS, r.getD 0 0 = a ∧ r.getD 1 0 = b ∧ r.getD 2 0 = e ∧ 6 - Int32.ofNat a - Int32.ofNat b - Int32.ofNat e = Int32.ofNat (r.getD 3 0) :=
  ⟨[a, b, e, 6 - a - b - e], List.contains_iff_mem.mp ((perm4a a ha b hb e he).resolve_left (fun t => by rcases t with t | t | t; exact h1 t; exact h2 t; exact h3 t)), rfl, rfl, rfl, perm4b a b e (by omega)⟩
theorem three_of {x y z : Int32} (h : fa_X8_areThreeOptions x y z ≠ 0) : ∃ a b e, a < 4 ∧ b < 4 ∧ e < 4 ∧ a ≠ b ∧ a ≠ e ∧ b ≠ e ∧ x - 97 = Int32.ofNat a ∧ y - 97 = Int32.ofNat b ∧ z - 97 = Int32.ofNat e := by
  unfold fa_X8_areThreeOptions at h
  by_cases h1 : fa_X8_isOption x = 0
  · rw [if_pos h1] at h; exact absurd rfl h
  · rw [if_neg h1] at h
    by_cases h2 : fa_X8_isOption y = 0
    · rw [if_pos h2] at h; exact absurd rfl h
    · rw [if_neg h2] at h
      by_cases h3 : fa_X8_isOption z = 0
      · rw [if_pos h3] at h; exact absurd rfl h
      · rw [if_neg h3] at h
        by_cases h4 : x = y
        · rw [if_pos h4] at h; exact absurd rfl h
        · rw [if_neg h4] at h
          by_cases h5 : x = z
          · rw [if_pos h5] at h; exact absurd rfl h
          · rw [if_neg h5] at h
            by_cases h6 : y = z
            · rw [if_pos h6] at h; exact absurd rfl h
            · rcases fa_option (x := x) with ⟨a, ha, ea, _⟩ | ⟨_, e⟩
              · rcases fa_option (x := y) with ⟨b, hb, eb, _⟩ | ⟨_, e⟩
                · rcases fa_option (x := z) with ⟨e, he, ee, _⟩ | ⟨_, e⟩
                  · exact ⟨a, b, e, ha, hb, he, fun t => h4 (by rw [ea, eb, t]), fun t => h5 (by rw [ea, ee, t]), fun t => h6 (by rw [eb, ee, t]), by rw [ea]; exact ii_idx ha, by rw [eb]; exact ii_idx hb, by rw [ee]; exact ii_idx he⟩
                  · exact absurd e h3
                · exact absurd e h2
              · exact absurd e h1
theorem mem_set_ch {l : List Int32} {j : Nat} {x : Int32} (h : ∀ y ∈ l, tr_ch y) (hx : tr_ch x) : ∀ y ∈ l.set j x, tr_ch y := fun y hy => by
  rcases List.mem_or_eq_of_mem_set hy with h9 | h9
  · exact h y h9
  · rw [h9]; exact hx
theorem cw_seat {c : CT} {n B q : Nat} {x y z : Int32} (w : cw c n B) (h7 : n < 7) (hq : q < 35) (hc : ¬ ct_cat c n (Int32.ofNat q) < n) (h3 : fa_X8_areThreeOptions x y z ≠ 0) : cw (ct_seat c n q (x - 97) (y - 97) (z - 97)) (n + 1) B := by
  obtain ⟨⟨p1, p2, ⟨k1, k2, k3, k4, k5⟩, p4, p5⟩, ⟨l1, l2, l3, l4, l5, l6, l7⟩, w3, w4, w5, w6, w7, w8, w9⟩ := w
  obtain ⟨a, b, e, ha, hb, he, n1, n2, n3, ea, eb, ee⟩ := three_of h3
  rw [ea, eb, ee]
  obtain ⟨r, hr, r0, r1, r2, r3⟩ := perm4 a ha b hb e he n1 n2 n3
  have ti : ∀ j, ct_i (ct_seat c n q (Int32.ofNat a) (Int32.ofNat b) (Int32.ofNat e)) j = if 7 = j then 1 else if 0 = j then Int32.ofNat (n + 1) else ct_i c j := by
    intro j
    show (((ct_in c).set 0 (Int32.ofNat (n + 1))).set 7 1).getD j 0 = _
    rw [gs (by simp; omega), gs (by omega)]
    rfl
  have tr : ∀ j, (ct_ra (ct_seat c n q (Int32.ofNat a) (Int32.ofNat b) (Int32.ofNat e))).getD j 0 = if 4 * n + 3 = j then 6 - Int32.ofNat a - Int32.ofNat b - Int32.ofNat e else if 4 * n + 2 = j then Int32.ofNat e else if 4 * n + 1 = j then Int32.ofNat b else if 4 * n = j then Int32.ofNat a else (ct_ra c).getD j 0 := by
    intro j
    show ((((((ct_ra c).set (4 * n + 0) (Int32.ofNat a)).set (4 * n + 1) (Int32.ofNat b)).set (4 * n + 2) (Int32.ofNat e)).set (4 * n + 3) (6 - Int32.ofNat a - Int32.ofNat b - Int32.ofNat e))).getD j 0 = _
    rw [gs (by simp; omega), gs (by simp; omega), gs (by simp; omega), gs (by omega)]
    rfl
  have tf : ∀ j, (ct_fi (ct_seat c n q (Int32.ofNat a) (Int32.ofNat b) (Int32.ofNat e))).getD j 0 = if 4 * n + 3 = j then 6 - Int32.ofNat a - Int32.ofNat b - Int32.ofNat e else if 4 * n + 2 = j then Int32.ofNat e else if 4 * n + 1 = j then Int32.ofNat b else if 4 * n = j then Int32.ofNat a else (ct_fi c).getD j 0 := by
    intro j
    show ((((((ct_fi c).set (4 * n + 0) (Int32.ofNat a)).set (4 * n + 1) (Int32.ofNat b)).set (4 * n + 2) (Int32.ofNat e)).set (4 * n + 3) (6 - Int32.ofNat a - Int32.ofNat b - Int32.ofNat e))).getD j 0 = _
    rw [gs (by simp; omega), gs (by simp; omega), gs (by simp; omega), gs (by omega)]
    rfl
  have tc : ∀ j, (ct_co (ct_seat c n q (Int32.ofNat a) (Int32.ofNat b) (Int32.ofNat e))).getD j 0 = if q = j then 99 else (ct_co c).getD j 0 := fun j => gs (by omega) j
  have te : ∀ j, (ct_ce (ct_seat c n q (Int32.ofNat a) (Int32.ofNat b) (Int32.ofNat e))).getD j 0 = if n = j then Int32.ofNat q else (ct_ce c).getD j 0 := fun j => gs (by omega) j
  have th : ∀ j, (ct_he (ct_seat c n q (Int32.ofNat a) (Int32.ofNat b) (Int32.ofNat e))).getD j 0 = if n = j then 0 else (ct_he c).getD j 0 := fun j => gs (by omega) j
  have noq : ∀ k, k < n → (ct_ce c).getD k 0 ≠ Int32.ofNat q := fun k hk t => hc (cat_iff.mpr ⟨k, hk, t⟩)
  have pm : ∀ f : Nat → Int32, (∀ j, f j = if 4 * n + 3 = j then 6 - Int32.ofNat a - Int32.ofNat b - Int32.ofNat e else if 4 * n + 2 = j then Int32.ofNat e else if 4 * n + 1 = j then Int32.ofNat b else if 4 * n = j then Int32.ofNat a else f j) → ∀ p, p < 4 → f (4 * n + p) = Int32.ofNat (r.getD p 0) := fun f hf p hp => by
    have : p = 0 ∨ p = 1 ∨ p = 2 ∨ p = 3 := by omega
    rw [hf]
    rcases this with rfl | rfl | rfl | rfl
    · rw [if_neg (by omega), if_neg (by omega), if_neg (by omega), if_pos (by omega), r0]
    · rw [if_neg (by omega), if_neg (by omega), if_pos (by omega), r1]
    · rw [if_neg (by omega), if_pos (by omega), r2]
    · rw [if_pos (by omega), r3]
  have same : ∀ k, k < n → ∀ p, p < 4 → ¬ 4 * n + 3 = 4 * k + p ∧ ¬ 4 * n + 2 = 4 * k + p ∧ ¬ 4 * n + 1 = 4 * k + p ∧ ¬ 4 * n = 4 * k + p := fun k hk p hp => by omega
  refine ⟨⟨by rw [ti, if_neg (by omega), if_pos rfl], by omega, ⟨mem_set_ch k1 ⟨by decide, by decide⟩, k2, by rw [ti, if_neg (by omega), if_neg (by omega)]; exact k3, by rw [ti, if_neg (by omega), if_neg (by omega)]; exact k4, by rw [ti, if_pos rfl]; exact Or.inr rfl⟩, fun k hk => ?_, fun k hk => ?_⟩, ⟨?_, ?_, ?_, ?_, ?_, l6, ?_⟩, fun q' hq' => ?_, fun j hj k hk ej => ?_, fun k hk => ?_, fun k hk => ?_, ?_, ?_, ?_⟩
  · rw [te]
    by_cases e1 : n = k
    · rw [if_pos e1]; exact ⟨q, hq, rfl⟩
    · rw [if_neg e1]; exact p4 k (by omega)
  · by_cases e1 : k = n
    · subst e1
      refine ⟨r, hr, pm (fun j => (ct_ra (ct_seat c k q (Int32.ofNat a) (Int32.ofNat b) (Int32.ofNat e))).getD j 0) (fun j => ?_)⟩
      simp only [tr]
      repeat' split
      all_goals rfl
    · obtain ⟨r', hr', hp'⟩ := p5 k (by omega)
      refine ⟨r', hr', fun p hp => ?_⟩
      obtain ⟨s1, s2, s3, s4⟩ := same k (by omega) p hp
      show (ct_ra _).getD (4 * k + p) 0 = _
      rw [tr, if_neg s1, if_neg s2, if_neg s3, if_neg s4]
      exact hp' p hp
  · show ((ct_co c).set q 99).length = 35
    rw [List.length_set]; exact l1
  · show ((ct_ce c).set n _).length = 7
    rw [List.length_set]; exact l2
  · simp [ct_seat, ct_rank, cc_in, cc_fi, cc_ra, cc_he, cc_ce, cc_co, ct_ra]
    exact l3
  · simp [ct_seat, ct_rank, cc_in, cc_fi, cc_ra, cc_he, cc_ce, cc_co, ct_fi]
    exact l4
  · show ((ct_he c).set n _).length = 7
    rw [List.length_set]; exact l5
  · show (((ct_in c).set 0 (Int32.ofNat (n + 1))).set 7 1).length = 8
    rw [List.length_set, List.length_set]; exact l7
  · obtain ⟨v1, v2⟩ := w3 q' hq'
    rw [tc]
    by_cases e1 : q = q'
    · subst e1
      rw [if_pos rfl]
      exact ⟨Or.inr (Or.inr (Or.inr rfl)), fun _ => cat_iff.mpr ⟨n, by omega, by rw [te, if_pos rfl]⟩, fun _ => rfl⟩
    · rw [if_neg e1]
      refine ⟨v1, v2.trans ?_⟩
      rw [cat_iff, cat_iff]
      constructor
      · rintro ⟨k, hk, ek⟩
        exact ⟨k, by omega, by rw [te, if_neg (by omega)]; exact ek⟩
      · rintro ⟨k, hk, ek⟩
        rw [te] at ek
        by_cases e2 : n = k
        · rw [if_pos e2] at ek
          exact absurd ((ii_eq (by omega) (by omega)).mp ek) e1
        · rw [if_neg e2] at ek
          exact ⟨k, by omega, ek⟩
  · rw [te, te] at ej
    by_cases e1 : n = j
    · by_cases e2 : n = k
      · omega
      · rw [if_pos e1, if_neg e2] at ej
        exact absurd ej.symm (noq k (by omega))
    · by_cases e2 : n = k
      · rw [if_neg e1, if_pos e2] at ej
        exact absurd ej (noq j (by omega))
      · rw [if_neg e1, if_neg e2] at ej
        exact w4 j (by omega) k (by omega) ej
  · by_cases e1 : k = n
    · subst e1
      refine ⟨r, hr, pm (fun j => (ct_fi (ct_seat c k q (Int32.ofNat a) (Int32.ofNat b) (Int32.ofNat e))).getD j 0) (fun j => ?_)⟩
      simp only [tf]
      repeat' split
      all_goals rfl
    · obtain ⟨r', hr', hp'⟩ := w5 k (by omega)
      refine ⟨r', hr', fun p hp => ?_⟩
      obtain ⟨s1, s2, s3, s4⟩ := same k (by omega) p hp
      rw [tf, if_neg s1, if_neg s2, if_neg s3, if_neg s4]
      exact hp' p hp
  · rw [th]
    by_cases e1 : n = k
    · rw [if_pos e1]; exact ⟨0, by omega, rfl⟩
    · rw [if_neg e1]; exact w6 k (by omega)
  · rw [ti, if_neg (by omega), if_neg (by omega)]; exact w7
  · rw [ti, ti, if_neg (show ¬ 7 = 2 by omega), if_neg (show ¬ 0 = 2 by omega), if_neg (show ¬ 7 = 3 by omega), if_neg (show ¬ 0 = 3 by omega)]; exact w8
  · rw [ti, if_neg (by omega), if_neg (by omega)]; exact w9
theorem ch_con {x : Int32} (hx : x = 46 ∨ x = 47 ∨ x = 92) : tr_ch x := by
  rcases hx with rfl | rfl | rfl <;> exact ⟨by decide, by decide⟩
theorem cw_chg {c : CT} {n B q : Nat} {x : Int32} (w : cw c n B) (hq : q < 35) (hc : ¬ ct_cat c n (Int32.ofNat q) < n) (hx : x = 46 ∨ x = 47 ∨ x = 92) : cw (ct_chg c q x) n B := by
  unfold ct_chg
  split
  · exact w
  · obtain ⟨⟨p1, p2, ⟨k1, k2, k3, k4, k5⟩, p4, p5⟩, hn, w3, w4, w5, w6, w7, w8, w9⟩ := w
    have hn' : ct_ln (cc_co c ((ct_co c).set q x)) := ⟨by rw [show ct_co (cc_co c ((ct_co c).set q x)) = (ct_co c).set q x from rfl, List.length_set]; exact hn.1, hn.2⟩
    have ti : ∀ j, ct_i (cc_in (cc_co c ((ct_co c).set q x)) 7 1) j = if 7 = j then 1 else ct_i c j := fun j => ci_in hn' (by omega)
    refine ⟨⟨by rw [ti, if_neg (by omega)]; exact p1, p2, ⟨mem_set_ch k1 (ch_con hx), k2, by rw [ti, if_neg (by omega)]; exact k3, by rw [ti, if_neg (by omega)]; exact k4, by rw [ti, if_pos rfl]; exact Or.inr rfl⟩, p4, p5⟩, ln_in hn', fun q' hq' => ?_, w4, w5, w6, by rw [ti, if_neg (by omega)]; exact w7, by rw [ti, ti, if_neg (show ¬ 7 = 2 by omega), if_neg (show ¬ 7 = 3 by omega)]; exact w8, by rw [ti, if_neg (by omega)]; exact w9⟩
    obtain ⟨v1, v2⟩ := w3 q' hq'
    have tc : (ct_co (cc_in (cc_co c ((ct_co c).set q x)) 7 1)).getD q' 0 = if q = q' then x else (ct_co c).getD q' 0 := gs (by rw [hn.1]; exact hq) q'
    rw [tc]
    by_cases e1 : q = q'
    · subst e1
      rw [if_pos rfl]
      refine ⟨?_, fun t => ?_, fun t => absurd t hc⟩
      · rcases hx with e | e | e
        · exact Or.inl e
        · exact Or.inr (Or.inl e)
        · exact Or.inr (Or.inr (Or.inl e))
      · rw [t] at hx
        exact absurd hx (by decide)
    · rw [if_neg e1]
      exact ⟨v1, v2⟩
theorem cw_meth {c : CT} {n B : Nat} {x : Int32} (w : cw c n B) (hx : x = 112 ∨ x = 114 ∨ x = 115) : cw (cc_in c 1 x) n B := by
  obtain ⟨⟨p1, p2, ⟨k1, k2, k3, k4, k5⟩, p4, p5⟩, hn, w3, w4, w5, w6, w7, w8, w9⟩ := w
  have ti : ∀ j, ct_i (cc_in c 1 x) j = if 1 = j then x else ct_i c j := fun j => ci_in hn (by omega)
  refine ⟨⟨by rw [ti, if_neg (by omega)]; exact p1, p2, ⟨k1, k2, ?_, by rw [ti, if_neg (by omega)]; exact k4, by rw [ti, if_neg (by omega)]; exact k5⟩, p4, p5⟩, ln_in hn, w3, w4, w5, w6, by rw [ti, if_neg (by omega)]; exact w7, by rw [ti, ti, if_neg (show ¬ 1 = 2 by omega), if_neg (show ¬ 1 = 3 by omega)]; exact w8, by rw [ti, if_pos rfl]; exact hx⟩
  rw [ti, if_pos rfl]
  rcases hx with rfl | rfl | rfl <;> exact ⟨by decide, by decide⟩
def sw4 (r : List Nat) (p : Nat) : List Nat := (r.set p (r.getD (p - 1) 0)).set (p - 1) (r.getD p 0)
theorem perm_sw' : ∀ r ∈ PERMS, ∀ p, p < 4 → 0 < p → sw4 r p ∈ PERMS ∧ (sw4 r p).getD (p - 1) 0 = r.getD p 0 ∧ (sw4 r p).getD p 0 = r.getD (p - 1) 0 := by decide +kernel
theorem perm_sw2 : ∀ r ∈ PERMS, ∀ p, p < 4 → ∀ j, j < 4 → (j = p ∨ j = p - 1) ∨ (sw4 r p).getD j 0 = r.getD j 0 := by decide +kernel
theorem perm_sw (r : List Nat) (hr : r ∈ PERMS) (p : Nat) (hp : p < 4) (h0 : 0 < p) : ∃ r' ∈ PERMS, r'.getD (p - 1) 0 = r.getD p 0 ∧ r'.getD p 0 = r.getD (p - 1) 0 ∧ ∀ j, j < 4 → j ≠ p → j ≠ p - 1 → r'.getD j 0 = r.getD j 0 :=
  ⟨sw4 r p, (perm_sw' r hr p hp h0).1, (perm_sw' r hr p hp h0).2.1, (perm_sw' r hr p hp h0).2.2, fun j hj h1 h2 => (perm_sw2 r hr p hp j hj).resolve_left (fun t => t.elim h1 h2)⟩
theorem perm_inj : ∀ r ∈ PERMS, ∀ p, p < 4 → ∀ j, j < 4 → r.getD p 0 = r.getD j 0 → p = j := by decide +kernel
/-- the place of an option is where it stands -/
theorem pl_opt {c : CT} {n k o : Nat} (hP : ct_perm c n) (hk : k < n) (ho : o < 4) : ct_opt c k (ct_pl c k (Int32.ofNat o)) = Int32.ofNat o := by
  obtain ⟨r, hr, hp⟩ := hP k hk
  obtain ⟨p0, hp0, e0⟩ := PERMS_all r hr o ho
  have e0' : ct_opt c k p0 = Int32.ofNat o := by rw [hp p0 hp0, e0]
  have hsp := mm_find_spec (fun p => ct_opt c k p == Int32.ofNat o) 3
  have hle := mm_find_le (fun p => ct_opt c k p == Int32.ofNat o) 3
  rcases Nat.lt_or_ge (ct_pl c k (Int32.ofNat o)) 3 with h | h
  · exact beq_iff_eq.mp (hsp.1 h)
  · have e3 : ct_pl c k (Int32.ofNat o) = 3 := by unfold ct_pl at h ⊢; omega
    rw [e3]
    have : p0 = 3 := by
      rcases Nat.lt_or_ge p0 3 with h2 | h2
      · have := hsp.2 p0 (by unfold ct_pl at e3; omega)
        rw [e0'] at this
        simp at this
      · omega
    rw [← this]
    exact e0'
theorem cw_hear {c : CT} {n B k o : Nat} (w : cw c n B) (hk : k < n) (ho : o < 4) : cw (ct_hear c k (Int32.ofNat o)) n (B + 1) := by
  obtain ⟨⟨p1, p2, ⟨k1, k2, k3, k4, k5⟩, p4, p5⟩, ⟨l1, l2, l3, l4, l5, l6, l7⟩, w3, w4, w5, w6, ⟨gm, gm1, gm2⟩, ⟨hm, hu, h1, h2, h3, h4⟩, w9⟩ := w
  have hp := ct_pl_le (c := c) (k := k) (x := Int32.ofNat o)
  have hpo := pl_opt p5 hk ho
  generalize hpl : ct_pl c k (Int32.ofNat o) = pl at hp hpo
  have tr : ∀ j, (ct_ra (ct_hear c k (Int32.ofNat o))).getD j 0 = if 0 < pl ∧ 4 * k + pl - 1 = j then Int32.ofNat o else if 0 < pl ∧ 4 * k + pl = j then (ct_ra c).getD (4 * k + pl - 1) 0 else (ct_ra c).getD j 0 := by
    intro j
    unfold ct_hear
    rw [hpl]
    by_cases h0 : 0 < pl
    · simp only [if_pos h0]
      show ((((ct_ra c).set (4 * k + pl) (ct_opt c k (pl - 1))).set (4 * k + pl - 1) (Int32.ofNat o))).getD j 0 = _
      rw [gs (by simp; omega), gs (by omega)]
      simp only [h0, true_and]
      rw [show ct_opt c k (pl - 1) = (ct_ra c).getD (4 * k + pl - 1) 0 by unfold ct_opt; rw [show 4 * k + (pl - 1) = 4 * k + pl - 1 by omega]]
    · simp only [if_neg h0, h0, false_and, if_false]
      rfl
  have th : ∀ j, (ct_he (ct_hear c k (Int32.ofNat o))).getD j 0 = if k = j then (ct_he c).getD k 0 + 1 else (ct_he c).getD j 0 := by
    intro j
    unfold ct_hear
    exact gs (by omega) j
  have ti : ∀ j, ct_i (ct_hear c k (Int32.ofNat o)) j = if 5 = j then ct_i c 5 + 1 else ct_i c j := by
    intro j
    unfold ct_hear
    rw [hpl]
    by_cases h0 : 0 < pl
    · simp only [if_pos h0]
      exact gs (by show 5 < (ct_in c).length; omega) j
    · simp only [if_neg h0]
      exact gs (by show 5 < (ct_in c).length; omega) j
  have re : ct_ve (ct_hear c k (Int32.ofNat o)) = ct_ve c ∧ ct_ce (ct_hear c k (Int32.ofNat o)) = ct_ce c ∧ ct_co (ct_hear c k (Int32.ofNat o)) = ct_co c ∧ ct_fi (ct_hear c k (Int32.ofNat o)) = ct_fi c := by
    unfold ct_hear
    simp only
    split <;> exact ⟨rfl, rfl, rfl, rfl⟩
  have le : (ct_ra (ct_hear c k (Int32.ofNat o))).length = 28 ∧ (ct_he (ct_hear c k (Int32.ofNat o))).length = 7 ∧ (ct_in (ct_hear c k (Int32.ofNat o))).length = 8 := by
    unfold ct_hear
    simp only
    split
    · refine ⟨?_, ?_, ?_⟩
      · show (((ct_ra c).set _ _).set _ _).length = 28
        rw [List.length_set, List.length_set]; exact l3
      · show ((ct_he c).set _ _).length = 7
        rw [List.length_set]; exact l5
      · show ((ct_in c).set _ _).length = 8
        rw [List.length_set]; exact l7
    · refine ⟨l3, ?_, ?_⟩
      · show ((ct_he c).set _ _).length = 7
        rw [List.length_set]; exact l5
      · show ((ct_in c).set _ _).length = 8
        rw [List.length_set]; exact l7
  obtain ⟨re1, re2, re3, re4⟩ := re
  refine ⟨⟨by rw [ti, if_neg (by omega)]; exact p1, p2, ⟨by rw [re3]; exact k1, by rw [re1]; exact k2, by rw [ti, if_neg (by omega)]; exact k3, by rw [ti, if_neg (by omega)]; exact k4, by rw [ti, if_neg (by omega)]; exact k5⟩, by rw [re2]; exact p4, fun j hj => ?_⟩, ⟨by rw [re3]; exact l1, by rw [re2]; exact l2, le.1, by rw [re4]; exact l4, le.2.1, by rw [re1]; exact l6, le.2.2⟩, ?_, by rw [re2]; exact w4, ?_, fun j hj => ?_, ⟨gm + 1, by omega, by rw [ti, if_pos rfl, gm2, ii_s]⟩, ⟨hm, hu, by omega, h2, by rw [ti, if_neg (by omega)]; exact h3, by rw [ti, if_neg (by omega)]; exact h4⟩, by rw [ti, if_neg (by omega)]; exact w9⟩
  · obtain ⟨r, hr, hp'⟩ := p5 j hj
    by_cases e1 : j = k ∧ 0 < pl
    · obtain ⟨rfl, h0⟩ := e1
      obtain ⟨r', hr', s1, s2, s3⟩ := perm_sw r hr pl (by omega) h0
      refine ⟨r', hr', fun p hp4 => ?_⟩
      show (ct_ra _).getD (4 * j + p) 0 = _
      rw [tr]
      by_cases e2 : p = pl - 1
      · rw [if_pos ⟨h0, by omega⟩, e2, s1, ← hp' pl (by omega), hpo]
      · rw [if_neg (by omega)]
        by_cases e3 : p = pl
        · rw [if_pos ⟨h0, by omega⟩, e3, s2, ← hp' (pl - 1) (by omega)]
          unfold ct_opt
          rw [show 4 * j + (pl - 1) = 4 * j + pl - 1 by omega]
        · rw [if_neg (by omega), s3 p hp4 e3 e2]
          exact hp' p hp4
    · refine ⟨r, hr, fun p hp4 => ?_⟩
      show (ct_ra _).getD (4 * j + p) 0 = _
      rw [tr, if_neg (by omega), if_neg (by omega)]
      exact hp' p hp4
  · intro q' hq'
    have := w3 q' hq'
    rw [re3]
    rw [cat_iff] at this ⊢
    rw [re2]
    exact this
  · intro j hj
    rw [re4]
    exact w5 j hj
  · rw [th]
    by_cases e1 : k = j
    · subst e1
      obtain ⟨m, m1, m2⟩ := w6 k hk
      rw [if_pos rfl]
      exact ⟨m + 1, by omega, by rw [m2, ii_s]⟩
    · rw [if_neg e1]
      obtain ⟨m, m1, m2⟩ := w6 j hj
      exact ⟨m, by omega, m2⟩
theorem cw_conc {c : CT} {n B : Nat} {v : Int32} (w : cw c n B) (hv : tr_ch v) : cw (ct_conc c v) n (B + 1) := by
  obtain ⟨⟨p1, p2, ⟨k1, k2, k3, k4, k5⟩, p4, p5⟩, ⟨l1, l2, l3, l4, l5, l6, l7⟩, w3, w4, w5, w6, ⟨gm, gm1, gm2⟩, ⟨hm, hu, h1, h2, h3, h4⟩, w9⟩ := w
  have ti : ∀ j, ct_i (ct_conc c v) j = if 7 = j then 0 else if 6 = j then 1 else if 3 = j ∧ v = 45 then ct_i c 3 + 1 else if 2 = j then ct_i c 2 + 1 else ct_i c j := by
    intro j
    unfold ct_conc
    by_cases hv : v = 45
    · simp only [if_pos hv]
      show (((((ct_in c).set 2 (ct_i c 2 + 1)).set 3 (ct_i c 3 + 1)).set 6 1).set 7 0).getD j 0 = _
      rw [gs (by simp; omega), gs (by simp; omega), gs (by simp; omega), gs (by omega)]
      simp only [hv, and_true]
      rfl
    · simp only [if_neg hv]
      show ((((ct_in c).set 2 (ct_i c 2 + 1)).set 6 1).set 7 0).getD j 0 = _
      rw [gs (by simp; omega), gs (by simp; omega), gs (by omega)]
      simp only [hv, and_false, if_false]
      rfl
  have re : ct_ve (ct_conc c v) = ct_shift (ct_ve c) v ∧ ct_ce (ct_conc c v) = ct_ce c ∧ ct_co (ct_conc c v) = ct_co c ∧ ct_fi (ct_conc c v) = ct_fi c ∧ ct_ra (ct_conc c v) = ct_ra c ∧ ct_he (ct_conc c v) = ct_he c ∧ (ct_in (ct_conc c v)).length = 8 := by
    unfold ct_conc
    simp only
    split
    · refine ⟨rfl, rfl, rfl, rfl, rfl, rfl, ?_⟩
      show (((((ct_in c).set 2 _).set 3 _).set 6 1).set 7 0).length = 8
      rw [List.length_set, List.length_set, List.length_set, List.length_set]; exact l7
    · refine ⟨rfl, rfl, rfl, rfl, rfl, rfl, ?_⟩
      show ((((ct_in c).set 2 _).set 6 1).set 7 0).length = 8
      rw [List.length_set, List.length_set, List.length_set]; exact l7
  obtain ⟨re1, re2, re3, re4, re5, re6, re7⟩ := re
  have o : ∀ j p, ct_opt (ct_conc c v) j p = ct_opt c j p := fun j p => by unfold ct_opt; rw [re5]
  refine ⟨⟨by rw [ti]; exact p1, p2, ⟨by rw [re3]; exact k1, ?_, by rw [ti]; exact k3, by rw [ti]; exact Or.inr rfl, by rw [ti]; exact Or.inl rfl⟩, by rw [re2]; exact p4, fun j hj => ?_⟩, ⟨by rw [re3]; exact l1, by rw [re2]; exact l2, by rw [re5]; exact l3, by rw [re4]; exact l4, by rw [re6]; exact l5, by rw [re1]; unfold ct_shift; rw [List.length_take, List.length_cons]; omega, re7⟩, fun q' hq' => ?_, by rw [re2]; exact w4, fun j hj => by rw [re4]; exact w5 j hj, fun j hj => ?_, ⟨gm, by omega, by rw [ti]; exact gm2⟩, ?_, by rw [ti]; exact w9⟩
  · rw [re1]
    intro y hy
    have := List.mem_of_mem_take hy
    rcases List.mem_cons.mp this with e | e
    · rw [e]; exact hv
    · exact k2 y e
  · obtain ⟨r, hr, hp⟩ := p5 j hj
    exact ⟨r, hr, fun p hp4 => by rw [o]; exact hp p hp4⟩
  · have := w3 q' hq'
    rw [re3]
    rw [cat_iff] at this ⊢
    rw [re2]
    exact this
  · rw [re6]
    obtain ⟨m, m1, m2⟩ := w6 j hj
    exact ⟨m, by omega, m2⟩
  · have t2 : ct_i (ct_conc c v) 2 = Int32.ofNat (hm + 1) := by
      rw [ti, if_neg (by omega), if_neg (by omega), if_neg (by omega), if_pos rfl, h3, ii_s]
    by_cases hv : v = 45
    · exact ⟨hm + 1, hu + 1, by omega, by omega, t2, by rw [ti, if_neg (by omega), if_neg (by omega), if_pos ⟨rfl, hv⟩, h4, ii_s]⟩
    · exact ⟨hm + 1, hu, by omega, by omega, t2, by rw [ti, if_neg (by omega), if_neg (by omega), if_neg (fun t => hv t.2), if_neg (by omega)]; exact h4⟩
theorem cw_again {c : CT} {n B : Nat} (w : cw c n B) : cw (ct_again c n) n B := by
  obtain ⟨⟨p1, p2, ⟨k1, k2, k3, k4, k5⟩, p4, p5⟩, ⟨l1, l2, l3, l4, l5, l6, l7⟩, w3, w4, w5, w6, w7, w8, w9⟩ := w
  have ti : ∀ j, ct_i (ct_again c n) j = if 6 = j then 0 else if 4 = j then ct_i c 4 + 1 else ct_i c j := by
    intro j
    show (((ct_in c).set 4 (ct_i c 4 + 1)).set 6 0).getD j 0 = _
    rw [gs (by simp; omega), gs (by omega)]
    rfl
  refine ⟨⟨by rw [ti]; exact p1, p2, ⟨k1, k2, by rw [ti]; exact k3, by rw [ti]; exact Or.inl rfl, by rw [ti]; exact k5⟩, p4, fun j hj => ?_⟩, ⟨l1, l2, ?_, l4, l5, l6, ?_⟩, w3, w4, w5, w6, by rw [ti]; exact w7, by rw [ti, ti]; exact w8, by rw [ti]; exact w9⟩
  · obtain ⟨r, hr, hp⟩ := w5 j hj
    refine ⟨r, hr, fun p hp4 => ?_⟩
    show (rw_k (ct_ra c) (ct_fi c) n).getD (4 * j + p) 0 = _
    rw [rw_k_get, if_pos (by omega)]
    exact hp p hp4
  · show (rw_k (ct_ra c) (ct_fi c) n).length = 28
    rw [rw_k_len]; exact l3
  · show (((ct_in c).set 4 _).set 6 0).length = 8
    rw [List.length_set, List.length_set]; exact l7
