/-! THE MODEL: execute and appendInput -/
theorem rdA_cnt {t : List Int32} : ∀ (f p : Nat) (cs : List Cmd), p ≤ t.length → (rdA t f p).2 = some cs → p + 5 * cs.length ≤ t.length + 5
  | 0, _, _, _, e => by cases e
  | f + 1, p, cs, hp, e => by
    unfold rdA at e
    cases e1 : (rdC t p).2 with
    | none => rw [pb_n e1] at e; cases e
    | some x =>
      have len := rdC_len (t := t) (p := p) ⟨x, e1⟩
      rw [pb_s e1] at e
      by_cases hend : t.length ≤ (rdC t p).1
      · rw [if_pos hend] at e
        have e := Option.some.inj e
        subst e
        simp
        omega
      · rw [if_neg hend] at e
        cases e2 : (tw t wSep (rdC t p).1).2 with
        | none => rw [pb_n e2] at e; cases e
        | some u =>
          rw [pb_s e2] at e
          have ns : (tw t wSep (rdC t p).1).1 = (rdC t p).1 + 1 := by
            have : tw t wSep (rdC t p).1 = if t.getD (rdC t p).1 0 = 59 then ((rdC t p).1 + 1, some ()) else ((rdC t p).1, none) := rfl
            rw [this] at e2 ⊢
            split at e2
            · rename_i hn
              rw [if_pos hn]
            · cases e2
          rw [ns] at e
          cases e3 : (rdA t f ((rdC t p).1 + 1)).2 with
          | none => rw [pb_n e3] at e; cases e
          | some cs0 =>
            rw [pb_s e3] at e
            have e := Option.some.inj e
            subst e
            have := rdA_cnt f _ cs0 (by omega) e3
            simp only [List.length_cons]
            omega
section
variable {g : tr_g} {d : Nat} {h h' : ev_AH} {c : CT} {n B : Nat} {P : List CT} {S : Option CT} {y : YS} {l t : List Int32}
theorem MI_mk {y' : YS} {t' : List Int32} (w : MI h c P S y l t) (a0 : hh_a h' 100 = hh_a h 100) (a2 : hh_a h' 102 = hh_a h 102) (a3 : hh_a h' 103 = hh_a h 103) (a6 : hh_a h' 106 = hh_a h 106) (e : ∀ sl, sl = 6 ∨ sl = 20 ∨ sl = 22 → hh_i h' 99 sl = hh_i h 99 sl) (hy : hh_i h' 99 9 = y'.1 ∧ hh_i h' 99 10 = y'.2.1 ∧ (y'.1 = 6 → hh_i h' 99 11 = y'.2.2.1) ∧ hh_i h' 99 8 = y'.2.2.2) (ht : hh_i h' 99 25 = Int32.ofNat t'.length ∧ ∀ k, k < t'.length → (hh_a h' 107).getD k 0 = t'.getD k 0) : MI h' c P S y' l t' := by
  obtain ⟨w1, w2, w3, w4, w5, w6, w7⟩ := w
  refine ⟨by rw [a0]; exact w1, MP_of (e 6 (Or.inl rfl)) a3 w2, ?_, hy, ?_, ht⟩
  · rw [e 20 (Or.inr (Or.inl rfl)), a2]
    exact w3
  · rw [e 22 (Or.inr (Or.inr rfl)), a6]
    exact w5
def cdX (E : Nat) : Int32 := if E = 1 then 1 else if E = 5 then 2 else 3
theorem mo_app {x : Int32} (hL : hh_L h) (w : MI h c P S y l t) (h60 : t.length ≤ 60) : ∃ h', mRes h h' (do_app t x).1 cdX c P S y l (do_app t x).2 ∧ tr_L g (d + 12) m_X9_appendInput 0 [some (.ref 1099), some (.int x)] [] h (.inl (some (.int (ans (do_app t x).1 cdX).1)), h') := by
  have r0 := sa_X9_isIn (g := g) (d := d + 11) (x0 := x) (x1 := 32) (x2 := 126) hL
  have e25 : hh_i h 99 25 = Int32.ofNat t.length := w.2.2.2.2.2.1
  have t7 := w.2.2.2.2.2.2
  unfold do_app
  by_cases hx : x < 32 ∨ 126 < x
  · rw [if_pos hx]
    have e0 : fa_X9_isIn x 32 126 = 0 := by
      unfold fa_X9_isIn
      rcases hx with hx | hx
      · rw [if_pos hx]
      · by_cases h3 : x < 32
        · rw [if_pos h3]
        · rw [if_neg h3, if_pos hx]
    rw [e0] at r0
    have r1 := sp_thr1 (g := g) (d := d + 11) (x := 1) hL
    have m1 := mT_set (x := 1) hL
    exact ⟨_, ⟨hh_F_w m1.1 (by decide), m1.2.1, MI_of (hh_F_w m1.1 (by decide)) (fun sl a _ => m1.2.2 sl a) w⟩, sg_X9_appendInput_0 hL (d := d + 11) r0 (fun q => absurd rfl q) (fun _ => sg_X9_appendInput_12 hL (d := d + 11) r1 (fun _ => sg_X9_appendInput_46 r1.2 rfl) (fun q => absurd q (by decide)))⟩
  · rw [if_neg hx]
    have e0 : fa_X9_isIn x 32 126 = 1 := by
      unfold fa_X9_isIn
      rw [if_neg (fun q => hx (Or.inl q)), if_neg (fun q => hx (Or.inr q))]
    rw [e0] at r0
    have r1 := sp_thr0 (g := g) (d := d + 11) (x := 1) hL
    have m1 := mT_set (x := 0) hL
    have L1 := r1.2
    have pre : ∀ r, tr_L g (d + 12) m_X9_appendInput 24 [some (.ref 1099), some (.int x)] [] (hh_si h 99 8 7 0) r → tr_L g (d + 12) m_X9_appendInput 0 [some (.ref 1099), some (.int x)] [] h r := fun r z => sg_X9_appendInput_0 hL (d := d + 11) r0 (fun _ => sg_X9_appendInput_16 hL (d := d + 11) r1 (fun q => absurd rfl q) (fun _ => z)) (fun q => absurd q (by decide))
    generalize hh_si h 99 8 7 0 = H at pre m1 L1
    have f25 : hh_i H 99 25 = Int32.ofNat t.length := by rw [m1.2.2 25 (by omega)]; exact e25
    have f107 : hh_a H 107 = hh_a h 107 := hh_F_a m1.1 (by decide)
    by_cases hlt : t.length < 60
    · rw [if_pos hlt]
      have r2 := sp_thr0 (g := g) (d := d + 11) (x := 2) L1
      have m2 := mT_set (x := 0) L1
      have L2 := r2.2
      have pre2 : ∀ r, tr_L g (d + 12) m_X9_appendInput 48 [some (.ref 1099), some (.int x)] [] (hh_si H 99 8 7 0) r → tr_L g (d + 12) m_X9_appendInput 24 [some (.ref 1099), some (.int x)] [] H r := fun r z => sg_X9_appendInput_24 L1 (fun _ => sg_X9_appendInput_38 L1 (d := d + 11) r2 (fun _ => z) (fun q => absurd rfl q)) (fun q => absurd ((ii_eq (b := 60) (by omega) (by omega)).mp (f25.symm.trans q)) (by omega))
      generalize hh_si H 99 8 7 0 = K at pre2 m2 L2
      have g25 : hh_i K 99 25 = Int32.ofNat t.length := by rw [m2.2.2 25 (by omega)]; exact f25
      have g107 : hh_a K 107 = hh_a h 107 := (hh_F_a m2.1 (by decide)).trans f107
      have F3 : hh_F [99, 107] K (hh_sa K 107 0 ((hh_a K 107).set t.length x)) := hh_F_sa (by decide)
      have L3 : hh_L (hh_sa K 107 0 ((hh_a K 107).set t.length x)) := hh_L_sa L2 ht107 (by rw [List.length_set]; exact (hh_arr L2 ht107).2)
      have k107 : (hh_a K 107).length = 60 := (hh_arr L2 ht107).2
      have e3 : hh_i (hh_sa K 107 0 ((hh_a K 107).set t.length x)) 99 25 = Int32.ofNat t.length := by rw [hh_i_sa (by decide)]; exact g25
      have j4 : ∀ sl, hh_i (hh_si (hh_sa K 107 0 ((hh_a K 107).set t.length x)) 99 8 25 (Int32.ofNat (t.length + 1))) 99 sl = if 25 = sl then Int32.ofNat (t.length + 1) else hh_i (hh_sa K 107 0 ((hh_a K 107).set t.length x)) 99 sl := fun sl => hh_i_sis L3 ht99 (by decide)
      have F4 : hh_F [99, 107] K (hh_si (hh_sa K 107 0 ((hh_a K 107).set t.length x)) 99 8 25 (Int32.ofNat (t.length + 1))) := hh_F_tr F3 (hh_F_si (by decide))
      have E : ∀ sl, sl ≠ 25 → sl ≠ 7 → hh_i (hh_si (hh_sa K 107 0 ((hh_a K 107).set t.length x)) 99 8 25 (Int32.ofNat (t.length + 1))) 99 sl = hh_i h 99 sl := fun sl a b => by rw [j4, if_neg (fun q => a q.symm), hh_i_sa (by decide), m2.2.2 sl b, m1.2.2 sl b]
      have F : hh_F [99, 107] h (hh_si (hh_sa K 107 0 ((hh_a K 107).set t.length x)) 99 8 25 (Int32.ofNat (t.length + 1))) := hh_F_tr (hh_F_w m1.1 (by decide)) (hh_F_tr (hh_F_w m2.1 (by decide)) F4)
      refine ⟨_, ⟨hh_F_w F (by decide), ?_, MI_mk w (hh_F_a F (by decide)) (hh_F_a F (by decide)) (hh_F_a F (by decide)) (hh_F_a F (by decide)) (fun sl a => E sl (by omega) (by omega)) ?_ ⟨?_, fun k hk => ?_⟩⟩, pre _ (pre2 _ (sg_X9_appendInput_48 L2 (j0 := t.length) g25 hlt ?_))⟩
      · rw [j4, if_neg (by decide), hh_i_sa (by decide), m2.2.1]; rfl
      · rw [E 9 (by omega) (by omega), E 10 (by omega) (by omega), E 11 (by omega) (by omega), E 8 (by omega) (by omega)]
        exact w.2.2.2.1
      · rw [j4, if_pos rfl, List.length_append]; rfl
      · rw [hh_a_si (by decide), hh_a_sa (hh_L_lt L2 (by decide)), if_pos rfl, gs (by omega), g107]
        rw [List.length_append] at hk
        by_cases ek : t.length = k
        · rw [if_pos ek, ← ek]
          simp [List.getD]
        · have : k < t.length := by simp at hk; omega
          rw [if_neg ek, t7 k this]
          rw [List.getD, List.getD, List.getElem?_append_left this]
      · rw [e3, ii_s, j4, if_pos rfl]
        rfl
    · rw [if_neg hlt]
      have h6 : t.length = 60 := by omega
      have r2 := sp_thr1 (g := g) (d := d + 11) (x := 2) L1
      have m2 := mT_set (x := 2) L1
      have F : hh_F [99] h (hh_si H 99 8 7 2) := hh_F_tr m1.1 m2.1
      exact ⟨_, ⟨hh_F_w F (by decide), m2.2.1, MI_of (hh_F_w F (by decide)) (fun sl a _ => (m2.2.2 sl a).trans (m1.2.2 sl a)) w⟩, pre _ (sg_X9_appendInput_24 L1 (fun q => absurd (by rw [f25, h6]; rfl) q) (fun _ => sg_X9_appendInput_34 L1 (d := d + 11) r2 (fun q => absurd q (by decide)) (fun _ => sg_X9_appendInput_46 r2.2 rfl)))⟩
theorem mo_exec (hL : hh_L h) (hg : ev_cat1 g.2 = true) (w : MI h c P S y l t) (q : cw c (cn c) B) (hB : B + 100 < 100000) (h60 : t.length ≤ 60) (tx : tx_ok t) : ∃ h', mRes h h' (do_exec c P y t).1 cdX (do_exec c P y t).2.1 (do_exec c P y t).2.2.1 S (do_exec c P y t).2.2.2 l [] ∧ tr_L g (d + 12) m_X9_execute 0 [some (.ref 1099), none, none] [] h (.inl (some (.int (ans (do_exec c P y t).1 cdX).1)), h') := by
  have e25 : hh_i h 99 25 = Int32.ofNat t.length := w.2.2.2.2.2.1
  have t7 := w.2.2.2.2.2.2
  obtain ⟨h1, j, r1, K1, c1⟩ := sp_isInput (g := g) (d := d + 3) hL hg e25 t7 h60 tx
  have L1 := r1.2
  have L2 := hh_L_si (sl := 25) (x := 0) L1 ht99 rfl
  have F2 : hh_F [99, 108] h (hh_si h1 99 8 25 0) := hh_F_tr K1.1 (hh_F_si (by decide))
  have i2 : ∀ sl, hh_i (hh_si h1 99 8 25 0) 99 sl = if 25 = sl then 0 else hh_i h1 99 sl := fun sl => hh_i_sis L1 ht99 (by decide)
  have E2 : ∀ sl, sl ≠ 25 → sl ≠ 26 → sl ≠ 27 → hh_i (hh_si h1 99 8 25 0) 99 sl = hh_i h 99 sl := fun sl a b e => by rw [i2, if_neg (fun q => a q.symm), K1.2.2.2 sl b e]
  have e26 : hh_i (hh_si h1 99 8 25 0) 99 26 = Int32.ofNat (rdA t 60 0).1 := by rw [i2, if_neg (by decide)]; exact K1.2.1
  have e27 : hh_i (hh_si h1 99 8 25 0) 99 27 = Int32.ofNat j := by rw [i2, if_neg (by decide)]; exact K1.2.2.1
  have W2 : MI (hh_si h1 99 8 25 0) c P S y l [] := MI_mk w (hh_F_a F2 (by decide)) (hh_F_a F2 (by decide)) (hh_F_a F2 (by decide)) (hh_F_a F2 (by decide)) (fun sl a => E2 sl (by omega) (by omega) (by omega)) (by rw [E2 9 (by omega) (by omega) (by omega), E2 10 (by omega) (by omega) (by omega), E2 11 (by omega) (by omega) (by omega), E2 8 (by omega) (by omega) (by omega)]; exact w.2.2.2.1) ⟨by rw [i2, if_pos rfl]; rfl, fun k hk => absurd hk (by simp)⟩
  have a108 : hh_a (hh_si h1 99 8 25 0) 108 = hh_a h1 108 := hh_a_si (by decide)
  have pre : ∀ r, (bI (rdA t 60 0).2.isSome ≠ 0 → tr_L g (d + 12) m_X9_execute 19 [some (.ref 1099), some (.int (bI (rdA t 60 0).2.isSome)), none] [.ref 1099] (hh_si h1 99 8 25 0) r) → (bI (rdA t 60 0).2.isSome = 0 → tr_L g (d + 12) m_X9_execute 15 [some (.ref 1099), some (.int (bI (rdA t 60 0).2.isSome)), none] [.ref 1099] (hh_si h1 99 8 25 0) r) → tr_L g (d + 12) m_X9_execute 0 [some (.ref 1099), none, none] [] h r := fun r a b => sg_X9_execute_0 hL (d := d + 11) r1 a b
  generalize hh_si h1 99 8 25 0 = H at *
  unfold do_exec
  cases hA : (rdA t 60 0).2 with
  | none =>
    rw [hA] at pre
    have r3 := sp_thr1 (g := g) (d := d + 11) (x := 1) L2
    have m3 := mT_set (x := 1) L2
    have i4 : ∀ x sl, hh_i (hh_si (hh_si H 99 8 7 1) 99 8 8 x) 99 sl = if 8 = sl then x else hh_i (hh_si H 99 8 7 1) 99 sl := fun x sl => hh_i_sis r3.2 ht99 (by decide)
    have F4 : ∀ x, hh_F [99] H (hh_si (hh_si H 99 8 7 1) 99 8 8 x) := fun x => hh_F_tr (hh_F_si (by decide)) (hh_F_si (by decide))
    have e8 : hh_i (hh_si H 99 8 7 1) 99 26 = Int32.ofNat (rdA t 60 0).1 := by rw [m3.2.2 26 (by omega)]; exact e26
    obtain ⟨y1, y2, y3, y4⟩ := W2.2.2.2.1
    have E4 : ∀ x sl, sl ≠ 7 → sl ≠ 8 → hh_i (hh_si (hh_si H 99 8 7 1) 99 8 8 x) 99 sl = hh_i H 99 sl := fun x sl a b => by rw [i4, if_neg (fun q => b q.symm), m3.2.2 sl a]
    refine ⟨_, ⟨hh_F_tr (hh_F_w F2 (by decide)) (hh_F_w (F4 _) (by decide)), ?_, MI_mk W2 (hh_F_a (F4 _) (by decide)) (hh_F_a (F4 _) (by decide)) (hh_F_a (F4 _) (by decide)) (hh_F_a (F4 _) (by decide)) (fun sl a => E4 _ sl (by omega) (by omega)) ⟨?_, ?_, fun q => ?_, ?_⟩ ⟨?_, fun k hk => absurd hk (by simp)⟩⟩, pre _ (fun q => absurd rfl q) (fun _ => sg_X9_execute_15 L2 (d := d + 11) r3 (fun q => absurd q (by decide)) (fun _ => sg_X9_execute_27 r3.2 (by rw [e8]; rfl)))⟩
    · rw [i4, if_neg (by decide), m3.2.1]; rfl
    · rw [E4 _ 9 (by omega) (by omega)]; exact y1
    · rw [E4 _ 10 (by omega) (by omega)]; exact y2
    · rw [E4 _ 11 (by omega) (by omega)]; exact y3 q
    · rw [i4, if_pos rfl]
    · rw [E4 _ 25 (by omega) (by omega)]; exact W2.2.2.2.2.2.1
  | some cs =>
    rw [hA] at pre
    obtain ⟨cj, ce⟩ := c1 cs hA
    subst cj
    have hcnt := rdA_cnt 60 0 cs (Nat.zero_le _) hA
    have hK := vs_cK cs 0 (rdA_vs 60 0 0 cs rfl hA)
    have r3 := sp_thr0 (g := g) (d := d + 11) (x := 1) L2
    have m3 := mT_set (x := 0) L2
    have W3 : MI (hh_si H 99 8 7 0) c P S y l [] := MI_of (hh_F_w m3.1 (by decide)) (fun sl a _ => m3.2.2 sl a) W2
    have pre3 : ∀ r, tr_L g (d + 12) m_X9_execute 37 [some (.ref 1099), some (.int 1), none] [] (hh_si H 99 8 7 0) r → tr_L g (d + 12) m_X9_execute 0 [some (.ref 1099), none, none] [] h r := fun r z => pre r (fun _ => sg_X9_execute_19 L2 (d := d + 11) r3 (fun _ => z) (fun q => absurd rfl q)) (fun q => bI1 q)
    have L3 := r3.2
    have F3 : hh_F [99, 108] h (hh_si H 99 8 7 0) := hh_F_tr F2 (hh_F_w m3.1 (by decide))
    have e27' : hh_i (hh_si H 99 8 7 0) 99 27 = Int32.ofNat cs.length := by rw [m3.2.2 27 (by omega)]; exact e27
    have a108' : hh_a (hh_si H 99 8 7 0) 108 = hh_a h1 108 := (hh_F_a m3.1 (by decide)).trans a108
    generalize hh_si H 99 8 7 0 = H3 at *
    obtain ⟨h4, r4, F4, A4, k7, k12, E4⟩ := sp_keeps (g := g) (d := d + 10) L3
    have L4 := r4.2
    have x4 : mX h4 h4 c := ⟨hh_F_rf, fun _ _ _ => rfl, by rw [hh_F_a F4 (by decide)]; exact W3.1⟩
    have a108'' : hh_a h4 108 = hh_a h1 108 := (hh_F_a F4 (by decide)).trans a108'
    obtain ⟨h5, L5, x5, p5, r5⟩ := sp_mcms (g := g) (d := d + 4) (h1 := h4) (N := cs.length) (by omega) (by rw [E4 27 (by omega) (by omega)]; exact e27') cs 0 B c h4 (by omega) (by omega) hK (fun j m hj => by rw [a108'', Nat.zero_add]; exact ce j m hj) q L4 x4 k7 k12
    have pre4 : ∀ r, tr_L g (d + 12) m_X9_execute 43 [some (.ref 1099), some (.int 1), some (.int (Int32.ofNat 0))] [] h4 r → tr_L g (d + 12) m_X9_execute 0 [some (.ref 1099), none, none] [] h r := fun r z => pre3 r (sg_X9_execute_37 L3 (d := d + 11) r4 rfl z)
    have F5 : hh_F kM h h5 := hh_F_tr (hh_F_w F3 (by decide)) (hh_F_tr (hh_F_w F4 (by decide)) (hh_F_w x5.1 (by decide)))
    have h27 : hh_i h5 99 27 = Int32.ofNat cs.length := by rw [x5.2.1 27 (by omega) (by omega), E4 27 (by omega) (by omega)]; exact e27'
    cases hC : (cms cs c 0).1 with
    | none =>
      rw [hC] at p5 r5
      simp only at p5 r5
      simp only [hC]
      have m5 : mO h4 h5 (0, 0, 0, (cms cs c 0).2) := ⟨x5.1, x5.2.1, p5.1, p5.2, fun e => absurd rfl e, fun e => absurd rfl e, x5.2.2⟩
      obtain ⟨h6, r6, F6, i6, M6⟩ := mo_wrap (g := g) (d := d + 10) (v := Int32.ofNat cs.length) L5 W3 F4 A4 E4 m5 (Or.inl rfl)
      refine ⟨h6, ⟨hh_F_tr (hh_F_w F3 (by decide)) F6, by rw [i6]; rfl, by unfold yO pO at M6; exact M6⟩, pre4 _ (r5 _ (sg_X9_execute_91 L5 (d := d + 11) (by rw [h27]; exact r6) rfl))⟩
    | some z =>
      rw [hC] at p5 r5
      simp only at p5 r5
      simp only [hC]
      have z0 := cms_ne cs c 0 z hC
      obtain ⟨l', s1, s2, s3, s4⟩ := sp_copies (g := g) (d := d + 10) (a := 101) (b := 100) (i := 0) (j := 0) L5 ht101 ht100 (by omega) (by omega) (by omega) (by omega) (Or.inl (by decide))
      rw [sl_self s1, sl_self (hh_arr L5 ht101).2] at s3
      subst s3
      have L6 : hh_L (hh_sa h5 100 0 (hh_a h5 101)) := s2.2
      have A6 : hh_a (hh_sa h5 100 0 (hh_a h5 101)) 100 = hh_a H3 100 := by rw [hh_a_sa (hh_L_lt L5 (by decide)), if_pos rfl, hh_F_a x5.1 (by decide), A4]
      have F6 : hh_F [100] h5 (hh_sa h5 100 0 (hh_a h5 101)) := hh_F_sa (by decide)
      have E6 : ∀ sl, sl ≠ 7 → (sl < 12 ∨ 19 < sl) → hh_i (hh_sa h5 100 0 (hh_a h5 101)) 99 sl = hh_i H3 99 sl := fun sl a b => by rw [hh_i_sa (by decide), x5.2.1 sl a b, E4 sl a (by omega)]
      have e12 : hh_i (hh_sa h5 100 0 (hh_a h5 101)) 99 12 = if z.1 = -1 then 0 else z.1 := by rw [hh_i_sa (by decide)]; exact p5
      have FA : ∀ k, k = 102 ∨ k = 103 ∨ k = 106 ∨ k = 107 → hh_a (hh_sa h5 100 0 (hh_a h5 101)) k = hh_a H3 k := fun k hk => by
        rw [hh_F_a F6 (by simp; omega), hh_F_a x5.1 (by simp; omega), hh_F_a F4 (by simp; omega)]
      have pre6 : ∀ r, (hh_i (hh_sa h5 100 0 (hh_a h5 101)) 99 12 ≠ 0 → tr_L g (d + 11) m_X9_fails 27 [some (.ref 1099), some (.int (Int32.ofNat z.2))] [] (hh_sa h5 100 0 (hh_a h5 101)) (.inl (some (.int 0)), r)) → (hh_i (hh_sa h5 100 0 (hh_a h5 101)) 99 12 = 0 → tr_L g (d + 11) m_X9_fails 20 [some (.ref 1099), some (.int (Int32.ofNat z.2))] [] (hh_sa h5 100 0 (hh_a h5 101)) (.inl (some (.int 0)), r)) → tr_L g (d + 12) m_X9_execute 0 [some (.ref 1099), none, none] [] h (.inl (some (.int 0)), r) := fun r a b => pre4 _ (r5 _ (sg_X9_execute_79 L5 (d := d + 11) (sg_X9_fails_0 L5 (d := d + 10) s2 a b) rfl))
      have F56 : hh_F kM h (hh_sa h5 100 0 (hh_a h5 101)) := hh_F_tr F5 (hh_F_w F6 (by decide))
      generalize hh_sa h5 100 0 (hh_a h5 101) = H6 at *
      have Y := W3.2.2.2.1
      have T := W3.2.2.2.2.2
      by_cases hv : z.1 = -1
      · simp only [if_pos hv]
        rw [if_pos hv] at e12
        have m7 := mT_set (x := 2) L6
        have E7 : ∀ sl, sl ≠ 7 → (sl < 12 ∨ 19 < sl) → hh_i (hh_si H6 99 8 7 2) 99 sl = hh_i H3 99 sl := fun sl a b => (m7.2.2 sl a).trans (E6 sl a b)
        refine ⟨_, ⟨hh_F_tr F56 (hh_F_w m7.1 (by decide)), m7.2.1, MI_mk W3 ((hh_F_a m7.1 (by decide)).trans A6) ((hh_F_a m7.1 (by decide)).trans (FA 102 (by omega))) ((hh_F_a m7.1 (by decide)).trans (FA 103 (by omega))) ((hh_F_a m7.1 (by decide)).trans (FA 106 (by omega))) (fun sl a => E7 sl (by omega) (by omega)) (by rw [E7 9 (by omega) (by omega), E7 10 (by omega) (by omega), E7 11 (by omega) (by omega), E7 8 (by omega) (by omega)]; exact Y) ⟨by rw [E7 25 (by omega) (by omega)]; exact T.1, fun k hk => absurd hk (by simp)⟩⟩, pre6 _ (fun e => absurd e12 e) (fun _ => sg_X9_fails_20 L6 rfl)⟩
      · simp only [if_neg hv]
        rw [if_neg hv] at e12
        have La := hh_L_si (sl := 9) (x := 6) L6 ht99 rfl
        have Lb := hh_L_si (sl := 10) (x := Int32.ofNat z.2) La ht99 rfl
        have ea : ∀ sl, hh_i (hh_si (hh_si H6 99 8 9 6) 99 8 10 (Int32.ofNat z.2)) 99 sl = if 10 = sl then Int32.ofNat z.2 else if 9 = sl then 6 else hh_i H6 99 sl := fun sl => by rw [hh_i_sis La ht99 (by decide), hh_i_sis L6 ht99 (by decide)]
        have eb : hh_i (hh_si (hh_si H6 99 8 9 6) 99 8 10 (Int32.ofNat z.2)) 99 12 = z.1 := by rw [ea, if_neg (by decide), if_neg (by decide)]; exact e12
        have Lc := hh_L_si (sl := 11) (x := z.1) Lb ht99 rfl
        have ed : ∀ sl, hh_i (hh_si (hh_si (hh_si (hh_si H6 99 8 9 6) 99 8 10 (Int32.ofNat z.2)) 99 8 11 z.1) 99 8 7 3) 99 sl = if 7 = sl then 3 else if 11 = sl then z.1 else if 10 = sl then Int32.ofNat z.2 else if 9 = sl then 6 else hh_i H6 99 sl := fun sl => by rw [hh_i_sis Lc ht99 (by decide), hh_i_sis Lb ht99 (by decide), ea]
        have F7 : hh_F [99] H6 (hh_si (hh_si (hh_si (hh_si H6 99 8 9 6) 99 8 10 (Int32.ofNat z.2)) 99 8 11 z.1) 99 8 7 3) := hh_F_tr (hh_F_tr (hh_F_si (by decide)) (hh_F_si (by decide))) (hh_F_tr (hh_F_si (by decide)) (hh_F_si (by decide)))
        have run := pre6 (hh_si (hh_si (hh_si (hh_si H6 99 8 9 6) 99 8 10 (Int32.ofNat z.2)) 99 8 11 z.1) 99 8 7 3) (fun _ => sg_X9_fails_27 L6 (by rw [eb])) (fun e => absurd (e12.symm.trans e) z0)
        generalize hh_si (hh_si (hh_si (hh_si H6 99 8 9 6) 99 8 10 (Int32.ofNat z.2)) 99 8 11 z.1) 99 8 7 3 = H7 at *
        have E7 : ∀ sl, sl ≠ 7 → sl ≠ 9 → sl ≠ 10 → sl ≠ 11 → (sl < 12 ∨ 19 < sl) → hh_i H7 99 sl = hh_i H3 99 sl := fun sl a b e f q => by rw [ed, if_neg (fun q => a q.symm), if_neg (fun q => f q.symm), if_neg (fun q => e q.symm), if_neg (fun q => b q.symm), E6 sl a q]
        refine ⟨H7, ⟨hh_F_tr F56 (hh_F_w F7 (by decide)), by rw [ed, if_pos rfl]; rfl, MI_mk W3 ((hh_F_a F7 (by decide)).trans A6) ((hh_F_a F7 (by decide)).trans (FA 102 (by omega))) ((hh_F_a F7 (by decide)).trans (FA 103 (by omega))) ((hh_F_a F7 (by decide)).trans (FA 106 (by omega))) (fun sl a => E7 sl (by omega) (by omega) (by omega) (by omega) (by omega)) ⟨?_, ?_, fun _ => ?_, ?_⟩ ⟨?_, fun k hk => absurd hk (by simp)⟩⟩, run⟩
        · rw [ed, if_neg (by decide), if_neg (by decide), if_neg (by decide), if_pos rfl]
        · rw [ed, if_neg (by decide), if_neg (by decide), if_pos rfl]
        · rw [ed, if_neg (by decide), if_pos rfl]
        · rw [E7 8 (by omega) (by omega) (by omega) (by omega) (by omega)]; exact Y.2.2.2
        · rw [E7 25 (by omega) (by omega) (by omega) (by omega) (by omega)]; exact T.1
end
