/-! THE MODEL: execute, all commands -/
theorem cw_cmd {c : CT} {n B : Nat} {m : Cmd} (w : cw c n B) (hc : cm_ok m) (hN : m.2.1 < 100) : ∃ n', cw (cmd1 c n m).2 n' (B + 1) := by
  obtain ⟨K, N, a, b, e⟩ := m
  obtain ⟨c1, c2, c3⟩ := hc
  simp only at c1 c2 c3 hN
  have h7 := w.1.2.1
  have same : ∃ n', cw c n' (B + 1) := ⟨n, cw_B (by omega) w⟩
  unfold cmd1
  split
  · split
    · exact same
    · rename_i e1
      split
      · exact same
      · rename_i e2
        split
        · exact same
        · rename_i e3
          split
          · exact same
          · rename_i e4
            exact ⟨n + 1, cw_B (by omega) (cw_seat w (by omega) (fa_cellN e1 hN) e4 e2)⟩
  · split
    · rename_i k1
      split
      · exact same
      · rename_i e1
        split
        · exact same
        · rename_i e4
          refine ⟨n, cw_B (by omega) (cw_chg w (fa_cellN e1 hN) e4 ?_)⟩
          have := c1 k1
          simp only [wCon, List.mem_cons, List.not_mem_nil, or_false] at this
          rcases this with h | h | h
          · exact Or.inr (Or.inl h)
          · exact Or.inr (Or.inr h)
          · exact Or.inl h
    · split
      · rename_i k2
        split
        · exact same
        · rename_i e1
          split
          · exact same
          · rename_i e4
            have hk : ∃ o, o < 4 ∧ a - 97 = Int32.ofNat o := by
              have := c2 k2
              simp only [wOpt, List.mem_cons, List.not_mem_nil, or_false] at this
              rcases this with rfl | rfl | rfl | rfl
              · exact ⟨0, by decide, rfl⟩
              · exact ⟨1, by decide, rfl⟩
              · exact ⟨2, by decide, rfl⟩
              · exact ⟨3, by decide, rfl⟩
            obtain ⟨o, ho, e5⟩ := hk
            rcases ry_or w.2.2.1 h7 (R_end_of w.2.2.1) (fa_portN e1 hN) with ⟨k, hk, q1, _⟩ | ⟨_, _, _, q1, _⟩
            · simp only at e4 ⊢
              rw [q1, ii_cn (by omega), e5]
              exact ⟨n, cw_hear w hk ho⟩
            · exact absurd q1 e4
      · split
        · rename_i k3
          refine ⟨n, cw_B (by omega) (cw_meth w ?_)⟩
          have := c3 k3
          simp only [wPrs, List.mem_cons, List.not_mem_nil, or_false] at this
          rcases this with h | h | h
          · exact Or.inl h
          · exact Or.inr (Or.inl h)
          · exact Or.inr (Or.inr h)
        · split
          · split
            · exact same
            · exact ⟨n, cw_conc w verd_ch⟩
          · split
            · exact same
            · exact ⟨n, cw_B (by omega) (cw_again w)⟩
theorem cw_cmd' {c : CT} {B : Nat} {m : Cmd} (w : cw c (cn c) B) (hc : cm_ok m) (hN : m.2.1 < 100) : cw (cmd1 c (cn c) m).2 (cn (cmd1 c (cn c) m).2) (B + 1) := by
  obtain ⟨n', w'⟩ := cw_cmd w hc hN
  rw [cw_cn w']
  exact w'
/-- what every command read is -/
def cK (m : Cmd) : Prop := m.1 ≤ 5 ∧ m.2.1 < 100 ∧ cm_ok m
theorem vs_cK {t : List Int32} : ∀ (cs : List Cmd) (p : Nat), vs t p cs → ∀ m ∈ cs, cK m
  | [], _, _, _, hm => by cases hm
  | c :: cs, p, v, m, hm => by
    obtain ⟨v1, v2⟩ := v
    rcases List.mem_cons.mp hm with rfl | h
    · exact ⟨rdC_kind v1, rdC_num v1, rdC_ok v1⟩
    · exact vs_cK cs _ v2 m h
theorem cms_cw : ∀ (cs : List Cmd) (c : CT) (i B : Nat), (∀ m ∈ cs, cK m) → cw c (cn c) B → cw (cms cs c i).2 (cn (cms cs c i).2) (B + cs.length)
  | [], c, i, B, _, w => w
  | m :: cs, c, i, B, hm, w => by
    have k := hm m (List.mem_cons.mpr (Or.inl rfl))
    have w1 := cw_cmd' w k.2.2 k.2.1
    unfold cms
    split
    · have := cms_cw cs _ (i + 1) (B + 1) (fun m h => hm m (List.mem_cons.mpr (Or.inr h))) w1
      rw [List.length_cons, show B + (cs.length + 1) = B + 1 + cs.length by omega]
      exact this
    · rw [List.length_cons]
      exact cw_B (by omega) w1
/-- between two commands -/
def mX (h h' : ev_AH) (c : CT) : Prop := hh_F [99, 100, 104, 105] h h' ∧ (∀ sl, sl ≠ 7 → (sl < 12 ∨ 19 < sl) → hh_i h' 99 sl = hh_i h 99 sl) ∧ mRc (hh_a h' 100) c
section
variable {g : tr_g} {d : Nat} {h h' : ev_AH} {c : CT} {n B : Nat} {P : List CT} {S : Option CT} {y : YS} {l t : List Int32}
theorem mX_step {h1 h2 : ev_AH} {v : Int32} {o : Int32 × Int32 × Int32 × CT} (hL : hh_L h) (L2 : hh_L h2) (x : mX h1 h c) (m : mO (hh_si (hh_si h 99 8 7 0) 99 8 12 0) h2 o) : mX h1 (hh_si h2 99 8 14 v) o.2.2.2 ∧ hh_i (hh_si h2 99 8 14 v) 99 7 = o.1 ∧ hh_i (hh_si h2 99 8 14 v) 99 12 = o.2.1 := by
  obtain ⟨x1, x2, x3⟩ := x
  obtain ⟨m1, m2, m3, m4, _, _, m5⟩ := m
  have La := hh_L_si (sl := 7) (x := 0) hL ht99 rfl
  have e : ∀ j, hh_i (hh_si h2 99 8 14 v) 99 j = if 14 = j then v else hh_i h2 99 j := fun j => hh_i_sis L2 ht99 (by decide)
  have ea : ∀ j, hh_i (hh_si (hh_si h 99 8 7 0) 99 8 12 0) 99 j = if 12 = j then 0 else if 7 = j then 0 else hh_i h 99 j := fun j => by rw [hh_i_sis La ht99 (by decide), hh_i_sis hL ht99 (by decide)]
  refine ⟨⟨hh_F_tr x1 (hh_F_tr (hh_F_tr (hh_F_si (by decide)) (hh_F_si (by decide))) (hh_F_tr m1 (hh_F_si (by decide)))), fun sl a b => ?_, ?_⟩, ?_, ?_⟩
  · rw [e, if_neg (by omega), m2 sl a b, ea, if_neg (by omega), if_neg (by omega), x2 sl a b]
  · rw [hh_a_si (by decide)]
    exact m5
  · rw [e, if_neg (by omega), m3]
  · rw [e, if_neg (by omega), m4]
theorem mX_q (x : mX h h' c) (p : pQ c (cn c)) : mQ h' c (cn c) := ⟨x.2.2, p⟩
/-- the loop over the commands -/
theorem sp_mcms {h1 : ev_AH} {N : Nat} (hN : N ≤ 30) (h27 : hh_i h1 99 27 = Int32.ofNat N) : ∀ (cs : List Cmd) (i B : Nat) (c : CT) (h : ev_AH), i + cs.length = N → B + cs.length < 100000 → (∀ m ∈ cs, cK m) → (∀ j m, cs[j]? = some m → cE (hh_a h1 108) (5 * (i + j)) m) → cw c (cn c) B → hh_L h → mX h1 h c → hh_i h 99 7 = 0 → hh_i h 99 12 = 0 → ∃ h', hh_L h' ∧ mX h1 h' (cms cs c i).2 ∧ (match (cms cs c i).1 with | none => hh_i h' 99 7 = 0 ∧ hh_i h' 99 12 = 0 | some z => hh_i h' 99 12 = if z.1 = -1 then 0 else z.1) ∧ ∀ r, (match (cms cs c i).1 with | none => tr_L g (d + 8) m_X9_execute 91 [some (.ref 1099), some (.int 1), some (.int (Int32.ofNat N))] [] h' r | some z => tr_L g (d + 8) m_X9_execute 79 [some (.ref 1099), some (.int 1), some (.int (Int32.ofNat z.2))] [] h' r) → tr_L g (d + 8) m_X9_execute 43 [some (.ref 1099), some (.int 1), some (.int (Int32.ofNat i))] [] h r := by
  intro cs
  induction cs with
  | nil =>
    intro i B c h hi hB hm hE w hL x h7 h12
    have : i = N := by simpa using hi
    subst this
    have e27 : hh_i h 99 27 = Int32.ofNat i := by rw [x.2.1 27 (by omega) (by omega)]; exact h27
    exact ⟨h, hL, x, ⟨h7, h12⟩, fun r k => sg_X9_execute_43 hL (fun _ => k) (fun q => absurd (by rw [e27] at q; exact q) Int32.lt_irrefl)⟩
  | cons m cs ih =>
    intro i B c h hi hB hm hE w hL x h7 h12
    rw [List.length_cons] at hi hB
    have k := hm m (List.mem_cons.mpr (Or.inl rfl))
    have e27 : hh_i h 99 27 = Int32.ofNat N := by rw [x.2.1 27 (by omega) (by omega)]; exact h27
    have La := hh_L_si (sl := 7) (x := 0) hL ht99 rfl
    have Lb := hh_L_si (sl := 12) (x := 0) La ht99 rfl
    have Fa : hh_F [99] h (hh_si (hh_si h 99 8 7 0) 99 8 12 0) := hh_F_tr (hh_F_si (by decide)) (hh_F_si (by decide))
    have ea : ∀ j, hh_i (hh_si (hh_si h 99 8 7 0) 99 8 12 0) 99 j = if 12 = j then 0 else if 7 = j then 0 else hh_i h 99 j := fun j => by rw [hh_i_sis La ht99 (by decide), hh_i_sis hL ht99 (by decide)]
    have E0 : cE (hh_a (hh_si (hh_si h 99 8 7 0) 99 8 12 0) 108) (5 * i) m := by
      rw [hh_F_a Fa (by decide), hh_F_a x.1 (by decide)]
      exact hE 0 m rfl
    obtain ⟨h2, v, r2, m2⟩ := sp_does (g := g) (d := d) (m := m) (b := 5 * i) Lb (mQ_F Fa (by decide) (mX_q x w.1)) w (by omega) (by rw [ea, if_pos rfl]) (by rw [ea, if_neg (by decide), if_pos rfl]) (by omega) E0
    obtain ⟨x3, y7, y12⟩ := mX_step (v := v) hL r2.2 x m2
    have L3 := hh_L_si (sl := 14) (x := v) r2.2 ht99 rfl
    obtain ⟨z1, z2, z3, z4⟩ := om1_cmd (c := c) (n := cn c) k.1 k.2.1 k.2.2
    have step : ∀ r, (hh_i (hh_si h2 99 8 14 v) 99 7 = 0 → tr_L g (d + 8) m_X9_execute 85 [some (.ref 1099), some (.int 1), some (.int (Int32.ofNat i))] [] (hh_si h2 99 8 14 v) r) → (hh_i (hh_si h2 99 8 14 v) 99 7 ≠ 0 → tr_L g (d + 8) m_X9_execute 79 [some (.ref 1099), some (.int 1), some (.int (Int32.ofNat i))] [] (hh_si h2 99 8 14 v) r) → tr_L g (d + 8) m_X9_execute 43 [some (.ref 1099), some (.int 1), some (.int (Int32.ofNat i))] [] h r := fun r a b =>
      sg_X9_execute_43 hL (fun q => absurd ((ii_le (by omega) (by omega)).mp (show Int32.ofNat N ≤ Int32.ofNat i from by rw [e27] at q; exact q)) (by omega)) (fun _ => sg_X9_execute_51 hL (d := d + 7) (by rw [show (5 : Int32) * Int32.ofNat i = Int32.ofNat (5 * i) from ii_m 5 i]; exact r2) a b)
    unfold cms
    by_cases h0 : (om1 c (cn c) m).1 = 0
    · rw [h0, if_pos rfl] at z2
      rw [if_pos z2]
      rw [z1] at x3
      obtain ⟨h4, L4, x4, p4, r4⟩ := ih (i + 1) (B + 1) _ _ (by omega) (by omega) (fun m h => hm m (List.mem_cons.mpr (Or.inr h))) (fun j m hj => by have := hE (j + 1) m hj; rw [show i + (j + 1) = i + 1 + j by omega] at this; exact this) (cw_cmd' w k.2.2 k.2.1) L3 x3 (y7.trans h0) (y12.trans (z3 h0))
      exact ⟨h4, L4, x4, p4, fun r kk => step r (fun _ => sg_X9_execute_85 L3 rfl (by rw [ii_s]; exact r4 r kk)) (fun q => absurd (y7.trans h0) q)⟩
    · rw [if_neg h0] at z2
      have z0 : ¬ (cmd1 c (cn c) m).1 = 0 := by
        rw [z2]
        split
        · decide
        · assumption
      rw [if_neg z0]
      rw [z1] at x3
      refine ⟨_, L3, x3, ?_, fun r kk => step r (fun q => absurd (y7.symm.trans q) h0) (fun _ => kk)⟩
      show hh_i (hh_si h2 99 8 14 v) 99 12 = if (cmd1 c (cn c) m).1 = -1 then 0 else (cmd1 c (cn c) m).1
      rw [y12, z2]
      by_cases h8 : (om1 c (cn c) m).2.1 = 0
      · rw [if_pos h8, if_pos rfl, h8]
      · rw [if_neg h8, if_neg z4]
end
