/-! EXECUTE, as a whole -/
def do_exec (c : CT) (P : List CT) (y : YS) (t : List Int32) : (Int32 ⊕ Nat) × CT × List CT × YS := match (rdA t 60 0).2 with
  | none => (.inr 1, c, P, (y.1, y.2.1, y.2.2.1, Int32.ofNat (rdA t 60 0).1))
  | some cs => match (cms cs c 0).1 with
    | none => (.inl (Int32.ofNat cs.length), (cms cs c 0).2, hi_push P c, y)
    | some z => if z.1 = -1 then (.inr 5, c, P, y) else (.inr 2, c, P, (6, Int32.ofNat z.2, z.1, y.2.2.2))
section
variable {g : tr_g} {d : Nat} {h h' : ev_AH} {c : CT} {n : Nat} {P : List CT} {S : Option CT} {y : YS} {l t : List Int32}
/-- the input is emptied -/
theorem sp_clrT {p : Nat} {k m a b e : Int32} (hL : hh_L h) (w : CI h c P S y l t) (z : xs h t p k m a b e) (zc : xc a b e) : ∃ h', tr_L g (d + 2) m_J4_setLength_d00df 0 [some (.ref 1094), some (.int 0)] [] h (.inl none, h') ∧ hh_F [94] h h' ∧ CI h' c P S y l [] := by
  obtain ⟨z0, z1, z2, z3, z4, z5, z6⟩ := z
  obtain ⟨h', r1, F, s1, _⟩ := sb_clr_t (g := g) (d := d) hL z0
  have x' : xs h' [] p k m a b e := ⟨s1, by rw [hh_F_i F (by decide)]; exact z1, by rw [hh_F_i F (by decide)]; exact z2, by rw [hh_F_i F (by decide)]; exact z3, by rw [hh_F_i F (by decide)]; exact z4, by rw [hh_F_i F (by decide)]; exact z5, by rw [hh_F_i F (by decide)]; exact z6⟩
  exact ⟨h', r1, F, CI_t F (by decide) x' zc w⟩
theorem cms_ne : ∀ (cs : List Cmd) (c : CT) (i : Nat) (z : Int32 × Nat), (cms cs c i).1 = some z → z.1 ≠ 0
  | [], c, i, z, e => by cases e
  | m :: cs, c, i, z, e => by
    unfold cms at e
    split at e
    · exact cms_ne cs _ _ z e
    · injection e with e
      rw [← e]
      assumption
theorem slot_n {j : Nat} {ks : List Nat} (hj : j < 9) (hk : ∀ k, 15 ≤ k → k < 80 → k ∉ ks) : ∀ i, i < 7 → 17 + 7 * j + i ∉ ks := fun i hi => hk _ (by omega) (by omega)
theorem op_exec (W : Nat → CT → Prop) (hq : ∀ i c, W i c → pQ c (cn c)) (hs : ∀ i c m, W i c → cm_ok m → m.2.1 < 100 → W (i + 1) (cmd1 c (cn c) m).2) (hL : hh_L h) (hg : ev_cat1 g.2 = true) (ht : t.length ≤ 60) (w : CI h c P S y l t) (hW : W 0 c) : ∃ h', hh_M 0 0 h h' ∧ tr_L g (d + 13) m_X8_execute 0 [some (.ref 1000), none, none, none, none] [] h (ro (do_exec c P y t).1 h') ∧ CI h' (do_exec c P y t).2.1 (do_exec c P y t).2.2.1 S (do_exec c P y t).2.2.2 l [] := by
  obtain ⟨p, k, m, a, b, e, z, zc⟩ := w.2.2.2.2.2
  obtain ⟨h1, k1, m1, a1, b1, e1, r1, F1, z1, zc1, p1⟩ := sc_countAll (g := g) (d := d + 4) hL hg ht z zc
  have w1 : CI h1 c P S y l t := CI_t F1 (by decide) z1 zc1 w
  have M1 : hh_M 0 0 h h1 := hh_M_F F1 (by decide)
  have ok := (hq 0 c hW).2.2.1
  unfold do_exec
  cases hA : (rdA t 60 0).2 with
  | none =>
    rw [hA] at r1
    have L2 := hh_L_si (sl := 12) (x := Int32.ofNat (rdA t 60 0).1) r1.2 ht0 rfl
    have F2 : hh_F [0] h1 (hh_si h1 0 0 12 (Int32.ofNat (rdA t 60 0).1)) := hh_F_si (by decide)
    have ei : ∀ j, hh_i (hh_si h1 0 0 12 (Int32.ofNat (rdA t 60 0).1)) 0 j = if 12 = j then Int32.ofNat (rdA t 60 0).1 else hh_i h1 0 j := fun j => hh_i_sis r1.2 ht0 (by decide)
    have w2 : CI (hh_si h1 0 0 12 (Int32.ofNat (rdA t 60 0).1)) c P S (y.1, y.2.1, y.2.2.1, Int32.ofNat (rdA t 60 0).1) l t := by
      have ww := w1
      obtain ⟨_, _, ⟨a3, a4⟩, ⟨y1, y2, y3, y4⟩, _⟩ := ww
      exact CI_0 F2 (by rw [ei, if_neg (by decide)]; exact a3) a4 ⟨by rw [ei, if_neg (by decide)]; exact y1, by rw [ei, if_neg (by decide)]; exact y2, by rw [ei, if_neg (by decide)]; exact y3, by rw [ei, if_pos rfl]⟩ w1
    have z2 := xs_F F2 (by decide) (by decide) (by decide) (by decide) z1
    obtain ⟨h3, r3, F3, w3⟩ := sp_clrT (g := g) (d := d + 10) L2 w2 z2 zc1
    have ep : hh_i h1 93 1 = Int32.ofNat (rdA t 60 0).1 := z1.2.1
    exact ⟨h3, hh_M_tr M1 (hh_M_tr (hh_M_F F2 (by decide)) (hh_M_F F3 (by decide))), sg_X8_execute_0 hL (d := d + 12) r1 (fun q => absurd rfl q) (fun _ => sg_X8_execute_13 r1.2 (d := d + 12) (by rw [ep]; exact r3) rfl), w3⟩
  | some cs =>
    rw [hA] at r1
    have hlen := rdA_len 60 0 cs hA
    obtain ⟨o, hr⟩ := w1.2.1
    have hlt : (o + P.length) % 9 < 9 := Nat.mod_lt _ (by decide)
    obtain ⟨h2, r2, F2, R2, c2⟩ := sp_markR (g := g) (d := d + 10) r1.2 w1.1 ok hr
    have K2 : ∀ k ∈ kS ((o + P.length) % 9), 15 ≤ k ∧ k < 80 := fun k hk => kS_r hlt k (List.mem_cons_of_mem _ hk)
    have w2 : CI h2 c P S y l t := CI_P F2 K2 R2 w1
    have n2 : ∀ j, 80 ≤ j → j ∉ kS ((o + P.length) % 9) := fun j hj hm => by have := K2 j hm; omega
    have z2 := xs_F F2 (n2 _ (by omega)) (n2 _ (by omega)) (n2 _ (by omega)) (fun j hj => by have := K2 j hj; omega) z1
    have X3 := xs1 (q := 0) r2.2 z2
    have L3 := xL (sl := 1) (x := Int32.ofNat 0) r2.2 (by decide) (by decide)
    have F3 : hh_F [93] h2 (hh_si h2 93 7 1 (Int32.ofNat 0)) := hh_F_si (by decide)
    have w3 : CI (hh_si h2 93 7 1 (Int32.ofNat 0)) c P S y l t := CI_t F3 (by decide) X3 zc1 w2
    have hv : vs t 0 cs := rdA_vs 60 0 0 cs rfl hA
    obtain ⟨h4, i', F4, w4, L4, r4, W4⟩ := sp_cms (g := g) (d := d + 1) W hq hs hg (by omega) cs 0 cs.length 0 0 c _ _ _ _ _ _ (by omega) (by omega) hW L3 w3 X3 zc1 (by omega) hv
    have F24 : hh_F kX h2 h4 := hh_F_tr (hh_F_w F3 (by decide)) F4
    have R4 : hi_R h4 o P := hi_R_F F24 (fun j h1 h2 => kX_n j (by omega)) R2
    have c4 : cC h4 (17 + 7 * ((o + P.length) % 9)) = c := by rw [cC_F F24 (fun j hj => kX_n _ (by omega))]; exact c2
    obtain ⟨p4, k4, m4, a4, b4, e4, z4, zc4⟩ := w4.2.2.2.2.2
    obtain ⟨h5, r5, F5, w5⟩ := sp_clrT (g := g) (d := d + 10) L4 w4 z4 zc4
    have R5 : hi_R h5 o P := hi_R_F F5 (fun j h1 h2 => by simp; omega) R4
    have c5 : cC h5 (17 + 7 * ((o + P.length) % 9)) = c := by rw [cC_F F5 (fun j hj => by simp; omega)]; exact c4
    have M5 : hh_M 0 0 h h5 := hh_M_tr M1 (hh_M_tr (hh_M_F F2 (fun k hk => by have := K2 k hk; omega)) (hh_M_tr (hh_M_F F24 (by decide)) (hh_M_F F5 (by decide))))
    have pre : ∀ r, (∀ u v : Nat, (match (cms cs c 0).1 with | none => v = cs.length | some z => u = z.2) → tr_L g (d + 13) m_X8_execute 96 [some (.ref 1000), some (.int (Int32.ofNat cs.length)), some (.int (Int32.ofNat u)), some (.int (match (cms cs c 0).1 with | none => 0 | some z => z.1)), some (.int (Int32.ofNat v))] [] h4 r) → tr_L g (d + 13) m_X8_execute 0 [some (.ref 1000), none, none, none, none] [] h r := fun r kk => by
      refine sg_X8_execute_0 hL (d := d + 12) r1 (fun _ => sg_X8_execute_46 r1.2 (d := d + 12) r2 ?_) (fun q => absurd q (ii_ne1 (by omega)))
      exact r4 r kk
    cases hC : (cms cs c 0).1 with
    | none =>
      simp only [hC] at pre ⊢
      obtain ⟨h6, o6, r6, F6, R6⟩ := sp_keepMarked (g := g) (d := d + 12) r5.2 R5 c5
      exact ⟨h6, hh_M_tr M5 (hh_M_F F6 (by decide)), pre _ (fun u v hv => sg_X8_execute_96 L4 (d := d + 12) r5 (fun q => absurd rfl q) (fun _ => sg_X8_execute_111 r5.2 (d := d + 12) r6 rfl)), CI_P F6 (by decide) R6 w5⟩
    | some q =>
      simp only [hC] at pre ⊢
      have q0 := cms_ne cs c 0 q hC
      obtain ⟨h6, r6, F6, c6⟩ := sp_return (g := g) (d := d + 10) r5.2 c5 ok hr.1 hr.2.1 R5.2.2.1 R5.2.2.2.1
      have w6 : CI h6 c P S y l [] := CI_c F6 c6 w5
      have M6 := hh_M_tr M5 (hh_M_F F6 kC99)
      by_cases hv : q.1 = -1
      · simp only [if_pos hv]
        exact ⟨h6, M6, pre _ (fun u v hu => sg_X8_execute_96 L4 (d := d + 12) r5 (fun _ => sg_X8_execute_120 r5.2 (d := d + 12) r6 (fun z => absurd hv z) (fun _ => sg_X8_execute_136 r6.2 rfl)) (fun z => absurd z q0)), w6⟩
      · simp only [if_neg hv]
        obtain ⟨h7, r7, F7, w7⟩ := sp_rejc (g := g) (d := d + 12) (x1 := 6) (x2 := Int32.ofNat q.2) r6.2 w6
        have L8 := hh_L_si (sl := 15) (x := q.1) r7.2 ht0 rfl
        have F8 : hh_F [0] h7 (hh_si h7 0 0 15 q.1) := hh_F_si (by decide)
        have ei : ∀ j, hh_i (hh_si h7 0 0 15 q.1) 0 j = if 15 = j then q.1 else hh_i h7 0 j := fun j => hh_i_sis r7.2 ht0 (by decide)
        have w8 : CI (hh_si h7 0 0 15 q.1) c P S (6, Int32.ofNat q.2, q.1, y.2.2.2) l [] := by
          have ww := w7
          obtain ⟨_, _, ⟨a3, a4⟩, ⟨y1, y2, y3, y4⟩, _⟩ := ww
          exact CI_0 F8 (by rw [ei, if_neg (by decide)]; exact a3) a4 ⟨by rw [ei, if_neg (by decide)]; exact y1, by rw [ei, if_neg (by decide)]; exact y2, by rw [ei, if_pos rfl], by rw [ei, if_neg (by decide)]; exact y4⟩ w7
        refine ⟨hh_si h7 0 0 15 q.1, hh_M_tr M6 (hh_M_tr (hh_M_F F7 (by decide)) (hh_M_F F8 (by decide))), pre _ (fun u v hu => ?_), w8⟩
        subst hu
        exact sg_X8_execute_96 L4 (d := d + 12) r5 (fun _ => sg_X8_execute_120 r5.2 (d := d + 12) r6 (fun _ => sg_X8_execute_147 r6.2 (d := d + 12) r7 rfl) (fun z => absurd z hv)) (fun z => absurd z q0)
end
