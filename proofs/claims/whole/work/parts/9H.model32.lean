/-! THE MODEL: all commands are read -/
theorem tf_nw {t w : List Int32} {p : Nat} {x : Int32} (hw : ∀ c ∈ w, gc c) (e : (tf t w p).2 = some x) : nw t p = x := by
  unfold tf at e
  split at e
  · rename_i hm
    have := gd_lt rfl (gc_ne (hw _ hm))
    rw [nw, if_pos this]
    exact Option.some.inj e
  · cases e
section
variable {g : tr_g} {d : Nat} {h h' : ev_AH} {t : List Int32} {p : Nat}
/-- the last piece of a mirror or a testimony -/
theorem sp_readsM {b : Nat} (hL : hh_L h) (hg : ev_cat1 g.2 = true) (s : iS h t p) (hb : b + 4 < 155) (h109 : (hh_a h 108).getD b 0 = 109) : ∃ h', tr_L g (d + 5) m_X9_readsM 0 [some (.ref 1099), some (.int (Int32.ofNat b))] [] h (.inl (some (.int (bI (rdM t p).2.isSome))), h') ∧ rD h h' b t.length (rdM t p) := by
  have hl := A_len hL
  have i1 : ∀ j, (Int32.ofNat b + Int32.ofNat j) = Int32.ofNat (b + j) := fun j => ii_a b j
  have a1 : Int32.ofNat b + 1 = Int32.ofNat (b + 1) := i1 1
  have a2 : Int32.ofNat b + 2 = Int32.ofNat (b + 2) := i1 2
  obtain ⟨h0, r0, M0, p0⟩ := sp_isSign (g := g) (d := d + 3) hL s gc_105
  unfold rdM
  by_cases c105 : t.getD p 0 = 105
  · -- a mirror
    rw [if_neg (by rw [c105]; decide)]
    have e0 : tw t [105] p = (p + 1, some ()) := by unfold tw; rw [if_pos c105]; rfl
    rw [e0] at r0 M0 p0
    have eI : tw t wIrr p = tw t [114, 114, 111, 114, 32] (p + 1) := by
      show tw t (105 :: [114, 114, 111, 114, 32]) p = _
      rw [tw, if_pos c105]
    rw [eI]
    have s0 := iS_N M0 p0 s
    generalize p + 1 = q0 at M0 p0 s0 ⊢
    obtain ⟨h1, r1, M1, p1⟩ := sp_isWord (g := g) (d := d) r0.2 hg sw_27 gc_rror s0
    rw [M0.2.2.2] at M1
    have M01 := mN_tr M0 M1
    have pre0 : ∀ r, tr_L g (d + 5) m_X9_readsM 9 [some (.ref 1099), some (.int (Int32.ofNat b))] [] h0 r → tr_L g (d + 5) m_X9_readsM 0 [some (.ref 1099), some (.int (Int32.ofNat b))] [] h r := fun r k => sg_X9_readsM_0 hL (d := d + 4) r0 (fun q => bI1 q) (fun _ => k)
    cases e1 : (tw t [114, 114, 111, 114, 32] q0).2 with
    | none =>
      rw [pb_n e1]
      rw [bI_0 e1] at r1
      exact ⟨h1, pre0 _ (sg_X9_readsM_9 r0.2 (d := d + 4) r1 (fun _ => sg_X9_readsM_59 r1.2 rfl) (fun q => absurd rfl q)), rD_none M01 p1 hl (fun _ _ => rfl)⟩
    | some u =>
      rw [pb_s e1]
      rw [bI_1 e1] at r1
      have s1 := iS_N M01 p1 s
      generalize (tw t [114, 114, 111, 114, 32] q0).1 = q1 at M1 M01 p1 s1 ⊢
      obtain ⟨h2, r2, M2, p2⟩ := sp_isNumber (g := g) (d := d + 3) (z := b + 1) r1.2 s1 (by omega)
      rw [M1.2.2.2] at M2
      have M02 := mN_tr M01 M2
      have l2 : ((hh_a h 108).set (b + 1) (tnV t q1)).length = 155 := by rw [List.length_set]; exact hl
      have z2 : ∀ z, z < b + 1 → ((hh_a h 108).set (b + 1) (tnV t q1)).getD z 0 = (hh_a h 108).getD z 0 := fun z hz => by rw [gs (by omega), if_neg (by omega)]
      have pre1 : ∀ r, tr_L g (d + 5) m_X9_readsM 19 [some (.ref 1099), some (.int (Int32.ofNat b))] [] h1 r → tr_L g (d + 5) m_X9_readsM 0 [some (.ref 1099), some (.int (Int32.ofNat b))] [] h r := fun r k => pre0 r (sg_X9_readsM_9 r0.2 (d := d + 4) r1 (fun q => absurd q (by decide)) (fun _ => k))
      cases e2 : (tn t q1).2 with
      | none =>
        rw [pb_n e2]
        rw [bI_0 e2] at r2
        exact ⟨h2, pre1 _ (sg_X9_readsM_19 r1.2 (d := d + 4) (by rw [a1]; exact r2) (fun _ => sg_X9_readsM_59 r2.2 rfl) (fun q => absurd rfl q)), rD_none M02 p2 l2 (fun z hz => z2 z (by omega))⟩
      | some N =>
        rw [pb_s e2]
        rw [bI_1 e2] at r2
        have s2 := iS_N M02 p2 s
        have ev : tnV t q1 = Int32.ofNat N := by unfold tnV; rw [e2]
        rw [ev] at M2 M02 l2 z2
        generalize (tn t q1).1 = q2 at M2 M02 p2 s2 ⊢
        obtain ⟨h3, r3, M3, p3⟩ := sp_isSign (g := g) (d := d + 3) r2.2 s2 gc_32
        rw [M2.2.2.2] at M3
        rw [show tw t [32] q2 = tw t wSp q2 from rfl] at r3 M3 p3
        have M03 := mN_tr M02 M3
        have pre2 : ∀ r, tr_L g (d + 5) m_X9_readsM 29 [some (.ref 1099), some (.int (Int32.ofNat b))] [] h2 r → tr_L g (d + 5) m_X9_readsM 0 [some (.ref 1099), some (.int (Int32.ofNat b))] [] h r := fun r k => pre1 r (sg_X9_readsM_19 r1.2 (d := d + 4) (by rw [a1]; exact r2) (fun q => absurd q (by decide)) (fun _ => k))
        cases e3 : (tw t wSp q2).2 with
        | none =>
          rw [pb_n e3]
          rw [bI_0 e3] at r3
          exact ⟨h3, pre2 _ (sg_X9_readsM_29 r2.2 (d := d + 4) r3 (fun _ => sg_X9_readsM_59 r3.2 rfl) (fun q => absurd rfl q)), rD_none M03 p3 l2 (fun z hz => z2 z (by omega))⟩
        | some u3 =>
          rw [pb_s e3]
          rw [bI_1 e3] at r3
          have s3 := iS_N M03 p3 s
          generalize (tw t wSp q2).1 = q3 at M3 M03 p3 s3 ⊢
          have rn3 := sp_now (g := g) (d := d + 4) r3.2 s3
          have ro3 := sa_X9_isContent (g := g) (d := d + 4) (x0 := nw t q3) r3.2
          obtain ⟨h4, r4, M4, p4⟩ := sp_takes (g := g) (d := d + 3) (z := b + 2) (w := wCon) r3.2 s3 (by omega) con_mem gc_con
          rw [M3.2.2.2] at M4
          have M04 := mN_tr M03 M4
          have l4 : (((hh_a h 108).set (b + 1) (Int32.ofNat N)).set (b + 2) (nw t q3)).length = 155 := by rw [List.length_set]; exact l2
          have z4 : ∀ z, z < b + 2 → (((hh_a h 108).set (b + 1) (Int32.ofNat N)).set (b + 2) (nw t q3)).getD z 0 = ((hh_a h 108).set (b + 1) (Int32.ofNat N)).getD z 0 := fun z hz => by rw [gs (by omega), if_neg (by omega)]
          have pre3 : ∀ r, tr_L g (d + 5) m_X9_readsM 38 [some (.ref 1099), some (.int (Int32.ofNat b))] [] h3 r → tr_L g (d + 5) m_X9_readsM 0 [some (.ref 1099), some (.int (Int32.ofNat b))] [] h r := fun r k => pre2 r (sg_X9_readsM_29 r2.2 (d := d + 4) r3 (fun q => absurd q (by decide)) (fun _ => k))
          cases e4 : (tf t wCon q3).2 with
          | none =>
            rw [pb_n e4]
            rw [bI_0 e4] at r4
            exact ⟨h4, pre3 _ (sg_X9_readsM_38 r3.2 (d := d + 4) rn3 ro3 (by rw [a2]; exact r4) (fun _ => sg_X9_readsM_59 r4.2 rfl) (fun q => absurd rfl q)), rD_none M04 p4 l4 (fun z hz => by rw [z4 z (by omega), z2 z (by omega)])⟩
          | some x =>
            rw [pb_s e4]
            rw [bI_1 e4] at r4
            have ex := tf_nw gc_con e4
            rw [ex] at M04 l4 z4
            refine ⟨h4, pre3 _ (sg_X9_readsM_38 r3.2 (d := d + 4) rn3 ro3 (by rw [a2]; exact r4) (fun q => absurd q (by decide)) (fun _ => sg_X9_readsM_55 r4.2 rfl)), _, M04, p4, l4, fun z hz => by rw [z4 z (by omega), z2 z (by omega)], fun m hm => ?_⟩
            have hm := Option.some.inj hm
            subst hm
            refine Or.inr (Or.inl ⟨rfl, ?_, ?_, ?_⟩)
            · rw [z4 b (by omega), z2 b (by omega)]; exact h109
            · rw [z4 _ (by omega), gs (by omega), if_pos rfl]
            · rw [gs (by omega), if_pos rfl]
  · -- a method
    have e0 : tw t [105] p = (p, none) := by unfold tw; rw [if_neg c105]
    rw [e0] at r0 M0 p0
    have s0 := iS_N M0 p0 s
    have L0 := r0.2
    have l0 : ((hh_a h 108).set b 101).length = 155 := by rw [List.length_set]; exact hl
    have z0 : ∀ z, z < b → ((hh_a h 108).set b 101).getD z 0 = (hh_a h 108).getD z 0 := fun z hz => by rw [gs (by omega), if_neg (by omega)]
    have Mw := mN_108 (z := b) (v := 101) L0 s0
    have Lw := hh_L_ss (j := b) (x := 101) L0 ht108
    have sw' := iS_N Mw p0 s0
    rw [M0.2.2.2] at Mw
    have M0w := mN_tr M0 Mw
    obtain ⟨h1, r1, M1, p1⟩ := sp_isWord (g := g) (d := d) Lw hg sw_29 gc_eth sw'
    have eA : hh_a (hh_sa h0 108 0 ((hh_a h0 108).set b 101)) 108 = (hh_a h 108).set b 101 := by rw [hh_a_sa (hh_L_lt L0 (by decide)), if_pos rfl, M0.2.2.2]
    rw [eA] at M1
    have M01 : mN h h1 (tw t wEth p).1 ((hh_a h 108).set b 101) := mN_tr M0 (mN_tr (mN_108 (z := b) (v := 101) L0 s0) M1)
    have pre0 : ∀ r, ((bI (tw t wEth p).2.isSome = 0) → tr_L g (d + 5) m_X9_readsM 125 [some (.ref 1099), some (.int (Int32.ofNat b))] [] h1 r) → ((bI (tw t wEth p).2.isSome ≠ 0) → tr_L g (d + 5) m_X9_readsM 79 [some (.ref 1099), some (.int (Int32.ofNat b))] [] h1 r) → tr_L g (d + 5) m_X9_readsM 0 [some (.ref 1099), some (.int (Int32.ofNat b))] [] h r := fun r k1 k2 => sg_X9_readsM_0 hL (d := d + 4) r0 (fun _ => sg_X9_readsM_61 L0 (d := d + 4) (j0 := b) rfl (by omega) r1 k1 k2) (fun q => absurd rfl q)
    by_cases c101 : t.getD p 0 = 101
    · rw [if_pos c101]
      cases e1 : (tw t wEth p).2 with
      | none =>
        rw [pb_n e1]
        exact ⟨h1, pre0 _ (fun _ => sg_X9_readsM_125 r1.2 rfl) (fun q => absurd (bI_0 e1) q), rD_none M01 p1 l0 z0⟩
      | some u =>
        rw [pb_s e1]
        have s1 := iS_N M01 p1 s
        have pre1 : ∀ r, tr_L g (d + 5) m_X9_readsM 79 [some (.ref 1099), some (.int (Int32.ofNat b))] [] h1 r → tr_L g (d + 5) m_X9_readsM 0 [some (.ref 1099), some (.int (Int32.ofNat b))] [] h r := fun r k => pre0 r (fun q => absurd q (by rw [bI_1 e1]; decide)) (fun _ => k)
        generalize (tw t wEth p).1 = q1 at M1 M01 p1 s1 ⊢
        have eA1 : hh_a h1 108 = (hh_a h 108).set b 101 := M01.2.2.2
        have rn1 := sp_now (g := g) (d := d + 4) r1.2 s1
        have tk : ∀ m, m = bI (decide (t.getD q1 0 ∈ wPrs)) → ∃ h2, tr_L g (d + 4) m_X9_takes 0 [some (.ref 1099), some (.int m), some (.int (Int32.ofNat b + 1))] [] h1 (.inl (some (.int (bI (tf t wPrs q1).2.isSome))), h2) ∧ mN h h2 (tf t wPrs q1).1 (((hh_a h 108).set b 101).set (b + 1) (nw t q1)) ∧ (tf t wPrs q1).1 ≤ t.length := fun m hm => by
          obtain ⟨h2, r2, M2, p2⟩ := sp_takes (g := g) (d := d + 3) (z := b + 1) (w := wPrs) r1.2 s1 (by omega) hm gc_prs
          rw [eA1] at M2
          exact ⟨h2, by rw [a1]; exact r2, mN_tr M01 M2, p2⟩
        have l2 : (((hh_a h 108).set b 101).set (b + 1) (nw t q1)).length = 155 := by rw [List.length_set]; exact l0
        have z2 : ∀ z, z < b + 1 → (((hh_a h 108).set b 101).set (b + 1) (nw t q1)).getD z 0 = ((hh_a h 108).set b 101).getD z 0 := fun z hz => by rw [gs (by omega), if_neg (by omega)]
        have g112 : gc 112 := gc_prs 112 (by decide)
        have g114 : gc 114 := gc_prs 114 (by decide)
        have g115 : gc 115 := gc_prs 115 (by decide)
        by_cases hm : t.getD q1 0 ∈ wPrs
        · obtain ⟨h2, r2, M2, p2⟩ := tk 1 (by rw [decide_eq_true hm]; rfl)
          have e2 : (tf t wPrs q1).2 = some (t.getD q1 0) := by unfold tf; rw [if_pos hm]
          rw [bI_1 e2] at r2
          rw [pb_s e2]
          have ex := tf_nw gc_prs e2
          have go : tr_L g (d + 5) m_X9_readsM 107 [some (.ref 1099), some (.int (Int32.ofNat b))] [.ref 1099] h1 (.inl (some (.int 1)), h2) := sg_X9_readsM_107 r1.2 (d := d + 4) r2 (fun q => absurd q (by decide)) (fun _ => sg_X9_readsM_121 r2.2 rfl)
          refine ⟨h2, pre1 _ (sg_X9_readsM_79 r1.2 (d := d + 4) rn1 (fun _ => go) (fun n1 => sg_X9_readsM_89 r1.2 (d := d + 4) rn1 (fun _ => go) (fun n2 => sg_X9_readsM_98 r1.2 (d := d + 4) rn1 (fun n3 => ?_) (fun _ => go)))), _, M2, p2, l2, fun z hz => by rw [z2 z (by omega), z0 z hz], fun m hm' => ?_⟩
          · simp only [wPrs, List.mem_cons, List.not_mem_nil, or_false] at hm
            rcases hm with e | e | e
            · exact absurd ((nw_gc g112).mpr e) n1
            · exact absurd ((nw_gc g114).mpr e) n2
            · exact absurd ((nw_gc g115).mpr e) n3
          · have hm' := Option.some.inj hm'
            subst hm'
            refine Or.inr (Or.inr (Or.inr (Or.inl ⟨rfl, ?_, ?_⟩)))
            · rw [z2 b (by omega), gs (by omega), if_pos rfl]
            · rw [gs (by omega), if_pos rfl, ex]
        · obtain ⟨h2, r2, M2, p2⟩ := tk 0 (by rw [decide_eq_false hm]; rfl)
          have e2 : (tf t wPrs q1).2 = none := by unfold tf; rw [if_neg hm]
          rw [bI_0 e2] at r2
          rw [pb_n e2]
          have no : ∀ k : Int32, gc k → k ∈ wPrs → nw t q1 ≠ k := fun k hk hkm e => hm (by rw [(nw_gc hk).mp e]; exact hkm)
          exact ⟨h2, pre1 _ (sg_X9_readsM_79 r1.2 (d := d + 4) rn1 (fun e => absurd e (no 112 g112 (by decide))) (fun _ => sg_X9_readsM_89 r1.2 (d := d + 4) rn1 (fun e => absurd e (no 114 g114 (by decide))) (fun _ => sg_X9_readsM_98 r1.2 (d := d + 4) rn1 (fun _ => sg_X9_readsM_111 r1.2 (d := d + 4) r2 (fun _ => sg_X9_readsM_125 r2.2 rfl) (fun q => absurd rfl q)) (fun e => absurd e (no 115 g115 (by decide)))))), rD_none M2 p2 l2 (fun z hz => by rw [z2 z (by omega), z0 z hz])⟩
    · rw [if_neg c101]
      have e1 : tw t wIrr p = (p, none) := by
        show tw t (105 :: [114, 114, 111, 114, 32]) p = _
        rw [tw, if_neg c105]
      have e2 : tw t wEth p = (p, none) := by
        show tw t (101 :: [116, 104, 111, 100, 32]) p = _
        rw [tw, if_neg c101]
      rw [e1]
      rw [e2] at M01 p1 pre0
      exact ⟨h1, pre0 _ (fun _ => sg_X9_readsM_125 r1.2 rfl) (fun q => absurd rfl q), rD_none M01 p1 l0 z0⟩
theorem bI_or {b : Bool} : bI b = 0 ∨ bI b = 1 := by
  cases b
  · exact Or.inl rfl
  · exact Or.inr rfl
/-- behind the first letter -/
theorem sp_readsRest {b : Nat} {x : Int32} (hL : hh_L h) (hg : ev_cat1 g.2 = true) (s : iS h t (p + 1)) (hb : b + 4 < 155) (hx : t.getD p 0 = x) (hb0 : (hh_a h 108).getD b 0 = x) (hF : fa_X9_isFirst x ≠ 0) : ∃ h', tr_L g (d + 6) m_X9_readsRest 0 [some (.ref 1099), some (.int x), some (.int (Int32.ofNat b))] [] h (.inl (some (.int (bI (rdC t p).2.isSome))), h') ∧ rD h h' b t.length (rdC t p) := by
  have hl := A_len hL
  have i1 : ∀ j, (Int32.ofNat b + Int32.ofNat j) = Int32.ofNat (b + j) := fun j => ii_a b j
  have a1 : Int32.ofNat b + 1 = Int32.ofNat (b + 1) := i1 1
  have a2 : Int32.ofNat b + 2 = Int32.ofNat (b + 2) := i1 2
  have tw1 : ∀ (c : Int32) (w : List Int32), t.getD p 0 = c → tw t (c :: w) p = tw t w (p + 1) := fun c w e => by rw [tw, if_pos e]
  unfold rdC
  by_cases c99 : x = 99
  · rw [if_pos (hx.trans c99)]
    rw [show tw t wCat p = tw t [97, 116, 32] (p + 1) from tw1 99 _ (hx.trans c99)]
    obtain ⟨h1, r1, D1⟩ := sp_readsCat (g := g) (d := d) hL hg s hb (hb0.trans c99)
    exact ⟨h1, sg_X9_readsRest_0_t99 hL c99 (sg_X9_readsRest_44 hL (d := d + 5) r1 bI_or rfl), D1⟩
  · rw [if_neg (fun e => c99 (hx.symm.trans e))]
    by_cases c109 : x = 109
    · rw [if_pos (hx.trans c109)]
      rw [show tw t wM p = (p + 1, some ()) from tw1 109 [] (hx.trans c109)]
      obtain ⟨h1, r1, D1⟩ := sp_readsM (g := g) (d := d) hL hg s hb (hb0.trans c109)
      exact ⟨h1, sg_X9_readsRest_0_t109 hL c109 (sg_X9_readsRest_50 hL (d := d + 5) r1 bI_or rfl), D1⟩
    · rw [if_neg (fun e => c109 (hx.symm.trans e))]
      by_cases c115 : x = 115
      · rw [if_pos (hx.trans c115)]
        rw [show tw t wSay p = tw t [97, 121, 32] (p + 1) from tw1 115 _ (hx.trans c115)]
        obtain ⟨h1, r1, M1, p1⟩ := sp_isWord (g := g) (d := d + 1) hL hg sw_31 gc_ay s
        generalize p + 1 = q0 at s r1 M1 p1 ⊢
        have pre0 : ∀ r, tr_L g (d + 6) m_X9_readsRest 56 [some (.ref 1099), some (.int x), some (.int (Int32.ofNat b))] [] h r → tr_L g (d + 6) m_X9_readsRest 0 [some (.ref 1099), some (.int x), some (.int (Int32.ofNat b))] [] h r := fun r k => sg_X9_readsRest_0_t115 hL c115 k
        cases e1 : (tw t [97, 121, 32] q0).2 with
        | none =>
          rw [pb_n e1]
          rw [bI_0 e1] at r1
          exact ⟨h1, pre0 _ (sg_X9_readsRest_56 hL (d := d + 5) r1 (fun _ => sg_X9_readsRest_106 r1.2 rfl) (fun q => absurd rfl q)), rD_none M1 p1 hl (fun _ _ => rfl)⟩
        | some u =>
          rw [pb_s e1]
          rw [bI_1 e1] at r1
          have s1 := iS_N M1 p1 s
          generalize (tw t [97, 121, 32] q0).1 = q1 at M1 p1 s1 ⊢
          obtain ⟨h2, r2, M2, p2⟩ := sp_isNumber (g := g) (d := d + 4) (z := b + 1) r1.2 s1 (by omega)
          rw [M1.2.2.2] at M2
          have M02 := mN_tr M1 M2
          have l2 : ((hh_a h 108).set (b + 1) (tnV t q1)).length = 155 := by rw [List.length_set]; exact hl
          have z2 : ∀ z, z < b + 1 → ((hh_a h 108).set (b + 1) (tnV t q1)).getD z 0 = (hh_a h 108).getD z 0 := fun z hz => by rw [gs (by omega), if_neg (by omega)]
          have pre1 : ∀ r, tr_L g (d + 6) m_X9_readsRest 66 [some (.ref 1099), some (.int x), some (.int (Int32.ofNat b))] [] h1 r → tr_L g (d + 6) m_X9_readsRest 0 [some (.ref 1099), some (.int x), some (.int (Int32.ofNat b))] [] h r := fun r k => pre0 r (sg_X9_readsRest_56 hL (d := d + 5) r1 (fun q => absurd q (by decide)) (fun _ => k))
          cases e2 : (tn t q1).2 with
          | none =>
            rw [pb_n e2]
            rw [bI_0 e2] at r2
            exact ⟨h2, pre1 _ (sg_X9_readsRest_66 r1.2 (d := d + 5) (by rw [a1]; exact r2) (fun _ => sg_X9_readsRest_106 r2.2 rfl) (fun q => absurd rfl q)), rD_none M02 p2 l2 (fun z hz => z2 z (by omega))⟩
          | some N =>
            rw [pb_s e2]
            rw [bI_1 e2] at r2
            have s2 := iS_N M02 p2 s
            have ev : tnV t q1 = Int32.ofNat N := by unfold tnV; rw [e2]
            rw [ev] at M2 M02 l2 z2
            generalize (tn t q1).1 = q2 at M2 M02 p2 s2 ⊢
            obtain ⟨h3, r3, M3, p3⟩ := sp_isSign (g := g) (d := d + 4) r2.2 s2 gc_32
            rw [M2.2.2.2] at M3
            rw [show tw t [32] q2 = tw t wSp q2 from rfl] at r3 M3 p3
            have M03 := mN_tr M02 M3
            have pre2 : ∀ r, tr_L g (d + 6) m_X9_readsRest 76 [some (.ref 1099), some (.int x), some (.int (Int32.ofNat b))] [] h2 r → tr_L g (d + 6) m_X9_readsRest 0 [some (.ref 1099), some (.int x), some (.int (Int32.ofNat b))] [] h r := fun r k => pre1 r (sg_X9_readsRest_66 r1.2 (d := d + 5) (by rw [a1]; exact r2) (fun q => absurd q (by decide)) (fun _ => k))
            cases e3 : (tw t wSp q2).2 with
            | none =>
              rw [pb_n e3]
              rw [bI_0 e3] at r3
              exact ⟨h3, pre2 _ (sg_X9_readsRest_76 r2.2 (d := d + 5) r3 (fun _ => sg_X9_readsRest_106 r3.2 rfl) (fun q => absurd rfl q)), rD_none M03 p3 l2 (fun z hz => z2 z (by omega))⟩
            | some u3 =>
              rw [pb_s e3]
              rw [bI_1 e3] at r3
              have s3 := iS_N M03 p3 s
              generalize (tw t wSp q2).1 = q3 at M3 M03 p3 s3 ⊢
              have rn3 := sp_now (g := g) (d := d + 5) r3.2 s3
              have ro3 := sa_X9_isOption (g := g) (d := d + 4) (x0 := nw t q3) r3.2
              obtain ⟨h4, r4, M4, p4⟩ := sp_takes (g := g) (d := d + 4) (z := b + 2) (w := wOpt) r3.2 s3 (by omega) opt_mem gc_opt
              rw [M3.2.2.2] at M4
              have M04 := mN_tr M03 M4
              have l4 : (((hh_a h 108).set (b + 1) (Int32.ofNat N)).set (b + 2) (nw t q3)).length = 155 := by rw [List.length_set]; exact l2
              have z4 : ∀ z, z < b + 2 → (((hh_a h 108).set (b + 1) (Int32.ofNat N)).set (b + 2) (nw t q3)).getD z 0 = ((hh_a h 108).set (b + 1) (Int32.ofNat N)).getD z 0 := fun z hz => by rw [gs (by omega), if_neg (by omega)]
              have pre3 : ∀ r, tr_L g (d + 6) m_X9_readsRest 85 [some (.ref 1099), some (.int x), some (.int (Int32.ofNat b))] [] h3 r → tr_L g (d + 6) m_X9_readsRest 0 [some (.ref 1099), some (.int x), some (.int (Int32.ofNat b))] [] h r := fun r k => pre2 r (sg_X9_readsRest_76 r2.2 (d := d + 5) r3 (fun q => absurd q (by decide)) (fun _ => k))
              cases e4 : (tf t wOpt q3).2 with
              | none =>
                rw [pb_n e4]
                rw [bI_0 e4] at r4
                exact ⟨h4, pre3 _ (sg_X9_readsRest_85 r3.2 (d := d + 5) rn3 ro3 (by rw [a2]; exact r4) (fun _ => sg_X9_readsRest_106 r4.2 rfl) (fun q => absurd rfl q)), rD_none M04 p4 l4 (fun z hz => by rw [z4 z (by omega), z2 z (by omega)])⟩
              | some y =>
                rw [pb_s e4]
                rw [bI_1 e4] at r4
                have ex := tf_nw gc_opt e4
                rw [ex] at M04 l4 z4
                refine ⟨h4, pre3 _ (sg_X9_readsRest_85 r3.2 (d := d + 5) rn3 ro3 (by rw [a2]; exact r4) (fun q => absurd q (by decide)) (fun _ => sg_X9_readsRest_102 r4.2 rfl)), _, M04, p4, l4, fun z hz => by rw [z4 z (by omega), z2 z (by omega)], fun m hm => ?_⟩
                have hm := Option.some.inj hm
                subst hm
                refine Or.inr (Or.inr (Or.inl ⟨rfl, ?_, ?_, ?_⟩))
                · rw [z4 b (by omega), z2 b (by omega)]; exact hb0.trans c115
                · rw [z4 _ (by omega), gs (by omega), if_pos rfl]
                · rw [gs (by omega), if_pos rfl]
      · rw [if_neg (fun e => c115 (hx.symm.trans e))]
        by_cases c118 : x = 118
        · rw [if_pos (hx.trans c118)]
          rw [show tw t wVote p = tw t [111, 116, 101] (p + 1) from tw1 118 _ (hx.trans c118)]
          obtain ⟨h1, r1, M1, p1⟩ := sp_isWord (g := g) (d := d + 1) hL hg sw_33 gc_ote s
          cases e1 : (tw t [111, 116, 101] (p + 1)).2 with
          | none =>
            rw [pb_n e1]
            rw [bI_0 e1] at r1
            exact ⟨h1, sg_X9_readsRest_0_t118 hL c118 (sg_X9_readsRest_108 hL (d := d + 5) r1 (Or.inl rfl) rfl), rD_none M1 p1 hl (fun _ _ => rfl)⟩
          | some u =>
            rw [pb_s e1]
            rw [bI_1 e1] at r1
            refine ⟨h1, sg_X9_readsRest_0_t118 hL c118 (sg_X9_readsRest_108 hL (d := d + 5) r1 (Or.inr rfl) rfl), _, M1, p1, hl, fun _ _ => rfl, fun m hm => ?_⟩
            have hm := Option.some.inj hm
            subst hm
            exact Or.inr (Or.inr (Or.inr (Or.inr (Or.inl ⟨rfl, hb0.trans c118⟩))))
        · rw [if_neg (fun e => c118 (hx.symm.trans e))]
          have c114 : x = 114 := by
            refine Classical.byContradiction (fun n => hF ?_)
            unfold fa_X9_isFirst
            rw [if_neg c99, if_neg c109, if_neg c115, if_neg c118, if_neg n]
          rw [show tw t wRet p = tw t [101, 116, 114, 121] (p + 1) from tw1 114 _ (hx.trans c114)]
          obtain ⟨h1, r1, M1, p1⟩ := sp_isWord (g := g) (d := d + 1) hL hg sw_35 gc_etry s
          have off : Op.lookupswitch.offset [(99, 43), (109, 49), (115, 55), (118, 107)] 115 x.toInt = 115 := by rw [c114]; decide
          cases e1 : (tw t [101, 116, 114, 121] (p + 1)).2 with
          | none =>
            rw [pb_n e1]
            rw [bI_0 e1] at r1
            exact ⟨h1, sg_X9_readsRest_0_td hL off (sg_X9_readsRest_116 hL (d := d + 5) r1 (Or.inl rfl) rfl), rD_none M1 p1 hl (fun _ _ => rfl)⟩
          | some u =>
            rw [pb_s e1]
            rw [bI_1 e1] at r1
            refine ⟨h1, sg_X9_readsRest_0_td hL off (sg_X9_readsRest_116 hL (d := d + 5) r1 (Or.inr rfl) rfl), _, M1, p1, hl, fun _ _ => rfl, fun m hm => ?_⟩
            have hm := Option.some.inj hm
            subst hm
            exact Or.inr (Or.inr (Or.inr (Or.inr (Or.inr ⟨rfl, hb0.trans c114⟩))))
/-- behind a command: the place, the number of commands; all else but the commands is as it was -/
def mK (h h' : ev_AH) (p k : Nat) : Prop := hh_F [99, 108] h h' ∧ hh_i h' 99 26 = Int32.ofNat p ∧ hh_i h' 99 27 = Int32.ofNat k ∧ (∀ sl, sl ≠ 26 → sl ≠ 27 → hh_i h' 99 sl = hh_i h 99 sl)
theorem mK_tr {h1 h2 h3 : ev_AH} {p q k j : Nat} (a : mK h1 h2 p k) (b : mK h2 h3 q j) : mK h1 h3 q j := ⟨hh_F_tr a.1 b.1, b.2.1, b.2.2.1, fun sl h1 h2 => (b.2.2.2 sl h1 h2).trans (a.2.2.2 sl h1 h2)⟩
theorem iS_K {p q k : Nat} (a : mK h h' q k) (hq : q ≤ t.length) (s : iS h t p) : iS h' t q := ⟨by rw [a.2.2.2 25 (by omega) (by omega)]; exact s.1, fun k hk => by rw [hh_F_a a.1 (by decide)]; exact s.2.1 k hk, a.2.1, hq, s.2.2.2.2⟩
theorem sp_readsCommand {k : Nat} (hL : hh_L h) (hg : ev_cat1 g.2 = true) (s : iS h t p) (hk : hh_i h 99 27 = Int32.ofNat k) (hk30 : k ≤ 30) : ∃ h' j, tr_L g (d + 7) m_X9_readsCommand 0 [some (.ref 1099), none, none] [] h (.inl (some (.int (bI (rdC t p).2.isSome))), h') ∧ mK h h' (rdC t p).1 j ∧ (rdC t p).1 ≤ t.length ∧ (∀ z, z < 5 * k → (hh_a h' 108).getD z 0 = (hh_a h 108).getD z 0) ∧ ∀ m, (rdC t p).2 = some m → j = k + 1 ∧ cE (hh_a h' 108) (5 * k) m := by
  have rn := sp_now (g := g) (d := d + 6) hL s
  have rf := sa_X9_isFirst (g := g) (d := d + 6) (x0 := nw t p) hL
  have e5 : (5 : Int32) * hh_i h 99 27 = Int32.ofNat (5 * k) := by rw [hk, show (5 : Int32) = Int32.ofNat 5 from rfl, ii_m]
  have hl := A_len hL
  by_cases hF : fa_X9_isFirst (nw t p) = 0
  · have ec : rdC t p = (p, none) := by
      unfold fa_X9_isFirst at hF
      have n : ∀ c : Int32, gc c → nw t p ≠ c → t.getD p 0 ≠ c := fun c hc h e => h ((nw_gc hc).mpr e)
      have n99 : nw t p ≠ 99 := fun e => by rw [if_pos e] at hF; exact absurd hF (by decide)
      rw [if_neg n99] at hF
      have n109 : nw t p ≠ 109 := fun e => by rw [if_pos e] at hF; exact absurd hF (by decide)
      rw [if_neg n109] at hF
      have n115 : nw t p ≠ 115 := fun e => by rw [if_pos e] at hF; exact absurd hF (by decide)
      rw [if_neg n115] at hF
      have n118 : nw t p ≠ 118 := fun e => by rw [if_pos e] at hF; exact absurd hF (by decide)
      rw [if_neg n118] at hF
      have n114 : nw t p ≠ 114 := fun e => by rw [if_pos e] at hF; exact absurd hF (by decide)
      unfold rdC
      rw [if_neg (n 99 ⟨99, by decide, by decide, rfl⟩ n99), if_neg (n 109 ⟨109, by decide, by decide, rfl⟩ n109), if_neg (n 115 ⟨115, by decide, by decide, rfl⟩ n115), if_neg (n 118 ⟨118, by decide, by decide, rfl⟩ n118)]
      have : tw t wRet p = (p, none) := by
        show tw t (114 :: [101, 116, 114, 121]) p = _
        rw [tw, if_neg (n 114 ⟨114, by decide, by decide, rfl⟩ n114)]
      rw [this]
      rfl
    rw [ec]
    exact ⟨h, k, sg_X9_readsCommand_0 hL (d := d + 6) rn rf (fun q => absurd hF q) (fun _ => sg_X9_readsCommand_19 hL rfl), ⟨hh_F_rf, s.2.2.1, hk, fun _ _ _ => rfl⟩, s.2.2.2.1, fun _ _ => rfl, fun m hm => by cases hm⟩
  · have hp : p < t.length := by
      refine Classical.byContradiction (fun n => hF ?_)
      rw [nw, if_neg n]
      decide
    have en : nw t p = t.getD p 0 := by rw [nw, if_pos hp]
    have L1 := hh_L_ss (j := 5 * k) (x := nw t p) hL ht108
    have e26 : hh_i (hh_sa h 108 0 ((hh_a h 108).set (5 * k) (nw t p))) 99 26 = Int32.ofNat p := by rw [hh_i_sa (by decide)]; exact s.2.2.1
    have L2 := ht99_7 (sl := 26) (x := Int32.ofNat (p + 1)) L1 (by omega)
    have j2 : ∀ sl, hh_i (hh_si (hh_sa h 108 0 ((hh_a h 108).set (5 * k) (nw t p))) 99 8 26 (Int32.ofNat (p + 1))) 99 sl = if 26 = sl then Int32.ofNat (p + 1) else hh_i (hh_sa h 108 0 ((hh_a h 108).set (5 * k) (nw t p))) 99 sl := fun sl => hh_i_sis L1 ht99 (by decide)
    have e27 : hh_i (hh_si (hh_sa h 108 0 ((hh_a h 108).set (5 * k) (nw t p))) 99 8 26 (Int32.ofNat (p + 1))) 99 27 = Int32.ofNat k := by rw [j2, if_neg (by decide), hh_i_sa (by decide)]; exact hk
    have L3 := ht99_7 (sl := 27) (x := Int32.ofNat (k + 1)) L2 (by omega)
    have j3 : ∀ sl, hh_i (hh_si (hh_si (hh_sa h 108 0 ((hh_a h 108).set (5 * k) (nw t p))) 99 8 26 (Int32.ofNat (p + 1))) 99 8 27 (Int32.ofNat (k + 1))) 99 sl = if 27 = sl then Int32.ofNat (k + 1) else hh_i (hh_si (hh_sa h 108 0 ((hh_a h 108).set (5 * k) (nw t p))) 99 8 26 (Int32.ofNat (p + 1))) 99 sl := fun sl => hh_i_sis L2 ht99 (by decide)
    have A3 : hh_a (hh_si (hh_si (hh_sa h 108 0 ((hh_a h 108).set (5 * k) (nw t p))) 99 8 26 (Int32.ofNat (p + 1))) 99 8 27 (Int32.ofNat (k + 1))) 108 = (hh_a h 108).set (5 * k) (nw t p) := by rw [hh_a_si (by decide), hh_a_si (by decide), hh_a_sa (hh_L_lt hL (by decide)), if_pos rfl]
    have F3 : hh_F [99, 108] h (hh_si (hh_si (hh_sa h 108 0 ((hh_a h 108).set (5 * k) (nw t p))) 99 8 26 (Int32.ofNat (p + 1))) 99 8 27 (Int32.ofNat (k + 1))) := hh_F_tr (hh_F_sa (by decide)) (hh_F_tr (hh_F_si (by decide)) (hh_F_si (by decide)))
    have K3 : mK h (hh_si (hh_si (hh_sa h 108 0 ((hh_a h 108).set (5 * k) (nw t p))) 99 8 26 (Int32.ofNat (p + 1))) 99 8 27 (Int32.ofNat (k + 1))) (p + 1) (k + 1) := ⟨F3, by rw [j3, if_neg (by decide), j2, if_pos rfl], by rw [j3, if_pos rfl], fun sl a b => by rw [j3, if_neg (fun e => b e.symm), j2, if_neg (fun e => a e.symm), hh_i_sa (by decide)]⟩
    have s3 := iS_K K3 hp s
    obtain ⟨h4, r4, A', M4, p4, l4, z4, c4⟩ := sp_readsRest (g := g) (d := d) (b := 5 * k) (x := nw t p) L3 hg s3 (by omega) en.symm (by rw [A3, gs (by omega), if_pos rfl]) hF
    refine ⟨h4, k + 1, sg_X9_readsCommand_0 hL (d := d + 6) rn rf (fun _ => sg_X9_readsCommand_21 hL (d := d + 6) (j0 := 5 * k) e5 (by omega) (by rw [e26, ii_s, e27, ii_s, e5]; exact r4) bI_or rfl) (fun q => absurd q hF), ⟨hh_F_tr F3 M4.1, M4.2.1, by rw [M4.2.2.1 27 (by omega)]; exact K3.2.2.1, fun sl a b => by rw [M4.2.2.1 sl a]; exact K3.2.2.2 sl a b⟩, p4, fun z hz => ?_, fun m hm => ⟨rfl, ?_⟩⟩
    · rw [M4.2.2.2, z4 z hz, A3, gs (by omega), if_neg (by omega)]
    · rw [M4.2.2.2]
      exact c4 m hm
theorem sp_isInput (hL : hh_L h) (hg : ev_cat1 g.2 = true) (sa : hh_i h 99 25 = Int32.ofNat t.length) (sb : ∀ k, k < t.length → (hh_a h 107).getD k 0 = t.getD k 0) (h60 : t.length ≤ 60) (tx : tx_ok t) : ∃ h' j, tr_L g (d + 8) m_X9_isInput 0 [some (.ref 1099), none] [] h (.inl (some (.int (bI (rdA t 60 0).2.isSome))), h') ∧ mK h h' (rdA t 60 0).1 j ∧ ∀ cs, (rdA t 60 0).2 = some cs → j = cs.length ∧ ∀ i m, cs[i]? = some m → cE (hh_a h' 108) (5 * i) m := by
  -- behind a command
  have key : ∀ (f k p : Nat) (h : ev_AH), t.length < p + 4 * f → 5 * k ≤ p → k ≤ 30 → hh_L h → iS h t p → hh_i h 99 27 = Int32.ofNat k → ∃ h1 h' j, tr_L g (d + 7) m_X9_readsCommand 0 [some (.ref 1099), none, none] [] h (.inl (some (.int (bI (rdC t p).2.isSome))), h1) ∧ tr_L g (d + 8) m_X9_isInput 15 [some (.ref 1099), some (.int (bI (rdC t p).2.isSome))] [] h1 (.inl (some (.int (bI (rdA t f p).2.isSome))), h') ∧ mK h h' (rdA t f p).1 j ∧ (∀ z, z < 5 * k → (hh_a h' 108).getD z 0 = (hh_a h 108).getD z 0) ∧ ∀ cs, (rdA t f p).2 = some cs → j = k + cs.length ∧ ∀ i m, cs[i]? = some m → cE (hh_a h' 108) (5 * (k + i)) m := by
    intro f
    induction f with
    | zero =>
      intro k p h hf _ _ _ s _
      have := s.2.2.2.1
      omega
    | succ f ih =>
      intro k p h hf h5 hk hL s hk27
      obtain ⟨h1, j1, r1, K1, p1, z1, c1⟩ := sp_readsCommand (g := g) (d := d) hL hg s hk27 hk
      have L1 := r1.2
      unfold rdA
      cases e1 : (rdC t p).2 with
      | none =>
        rw [pb_n e1]
        rw [bI_0 e1] at r1
        refine ⟨h1, h1, j1, r1, sg_X9_isInput_15 L1 (fun _ => sg_X9_isInput_36 L1 (fun _ => sg_X9_isInput_55 L1 rfl) (fun q => absurd rfl q)) (fun q => absurd rfl q), K1, z1, fun cs hc => by cases hc⟩
      | some m =>
        rw [pb_s e1]
        rw [bI_1 e1] at r1
        obtain ⟨jk, cm⟩ := c1 m e1
        subst jk
        have len := rdC_len (t := t) (p := p) ⟨m, e1⟩
        have s1 := iS_K K1 p1 s
        obtain ⟨h2, r2, M2, p2⟩ := sp_isSign (g := g) (d := d + 6) L1 s1 gc_59
        rw [show tw t [59] (rdC t p).1 = tw t wSep (rdC t p).1 from rfl] at r2 M2 p2
        have e25 : hh_i h1 99 25 = Int32.ofNat t.length := s1.1
        have h60 := s.2.2.2.2.1
        refine ⟨h1, ?_⟩
        by_cases hend : t.length ≤ (rdC t p).1
        · rw [if_pos hend]
          have ep : (rdC t p).1 = t.length := by omega
          have ns : tw t wSep (rdC t p).1 = ((rdC t p).1, none) := by
            show tw t (59 :: []) (rdC t p).1 = _
            rw [tw, if_neg]
            rw [List.getD, List.getElem?_eq_none hend]
            decide
          rw [ns] at r2 M2 p2
          have L2 := r2.2
          have K2 : mK h1 h2 (rdC t p).1 (k + 1) := ⟨hh_F_w M2.1 (by decide), M2.2.1, by rw [M2.2.2.1 27 (by omega)]; exact K1.2.2.1, fun sl a _ => M2.2.2.1 sl a⟩
          refine ⟨h2, k + 1, r1, sg_X9_isInput_15 L1 (fun q => bI1 q) (fun _ => sg_X9_isInput_19 L1 (d := d + 7) r2 (fun _ => sg_X9_isInput_36 L2 (fun q => bI1 q) (fun _ => sg_X9_isInput_40 L2 (fun q => ?_) (fun _ => sg_X9_isInput_51 L2 rfl))) (fun q => absurd rfl q)), mK_tr K1 K2, fun z hz => by rw [M2.2.2.2]; exact z1 z hz, fun cs hc => ?_⟩
          · rw [M2.2.1, M2.2.2.1 25 (by omega), e25, ep] at q
            exact absurd rfl q
          · have hc := Option.some.inj hc
            subst hc
            refine ⟨rfl, fun i m' hm' => ?_⟩
            cases i with
            | zero =>
              have hm' := Option.some.inj hm'
              rw [← hm', M2.2.2.2]
              exact cm
            | succ i => simp at hm'
        · rw [if_neg hend]
          cases e2 : (tw t wSep (rdC t p).1).2 with
          | none =>
            rw [pb_n e2]
            have ns : (tw t wSep (rdC t p).1).1 = (rdC t p).1 := by
              have : tw t wSep (rdC t p).1 = if t.getD (rdC t p).1 0 = 59 then ((rdC t p).1 + 1, some ()) else ((rdC t p).1, none) := rfl
              rw [this] at e2 ⊢
              split at e2
              · cases e2
              · rename_i hn
                rw [if_neg hn]
            rw [bI_0 e2] at r2
            rw [ns] at M2 p2
            rw [ns]
            have L2 := r2.2
            have K2 : mK h1 h2 (rdC t p).1 (k + 1) := ⟨hh_F_w M2.1 (by decide), M2.2.1, by rw [M2.2.2.1 27 (by omega)]; exact K1.2.2.1, fun sl a _ => M2.2.2.1 sl a⟩
            refine ⟨h2, k + 1, r1, sg_X9_isInput_15 L1 (fun q => bI1 q) (fun _ => sg_X9_isInput_19 L1 (d := d + 7) r2 (fun _ => sg_X9_isInput_36 L2 (fun q => bI1 q) (fun _ => sg_X9_isInput_40 L2 (fun _ => sg_X9_isInput_55 L2 rfl) (fun q => ?_))) (fun q => absurd rfl q)), mK_tr K1 K2, fun z hz => by rw [M2.2.2.2]; exact z1 z hz, fun cs hc => by cases hc⟩
            rw [M2.2.1, M2.2.2.1 25 (by omega), e25] at q
            have := (ii_eq (by omega) (by omega)).mp q
            omega
          | some u =>
            rw [pb_s e2]
            have ns : (tw t wSep (rdC t p).1).1 = (rdC t p).1 + 1 := by
              have : tw t wSep (rdC t p).1 = if t.getD (rdC t p).1 0 = 59 then ((rdC t p).1 + 1, some ()) else ((rdC t p).1, none) := rfl
              rw [this] at e2 ⊢
              split at e2
              · rename_i hn
                rw [if_pos hn]
              · cases e2
            rw [bI_1 e2] at r2
            rw [ns] at M2 p2
            rw [ns]
            have L2 := r2.2
            have K2 : mK h1 h2 ((rdC t p).1 + 1) (k + 1) := ⟨hh_F_w M2.1 (by decide), M2.2.1, by rw [M2.2.2.1 27 (by omega)]; exact K1.2.2.1, fun sl a _ => M2.2.2.1 sl a⟩
            have s2 := iS_K K2 p2 s1
            obtain ⟨h3, h4, j4, r3, r4, K4, z4, c4⟩ := ih (k + 1) ((rdC t p).1 + 1) h2 (by omega) (by omega) (by omega) L2 s2 K2.2.2.1
            refine ⟨h4, j4, r1, ?_⟩
            have run : tr_L g (d + 8) m_X9_isInput 15 [some (.ref 1099), some (.int (bI (some m).isSome))] [] h1 (.inl (some (.int (bI (rdA t f ((rdC t p).1 + 1)).2.isSome))), h4) := sg_X9_isInput_15 L1 (fun q => bI1 q) (fun _ => sg_X9_isInput_19 L1 (d := d + 7) r2 (fun q => absurd q (by decide)) (fun _ => sg_X9_isInput_28 L2 (d := d + 7) r3 r4))
            have K14 := mK_tr K1 (mK_tr K2 K4)
            have z14 : ∀ z, z < 5 * k → (hh_a h4 108).getD z 0 = (hh_a h 108).getD z 0 := fun z hz => by rw [z4 z (by omega), M2.2.2.2]; exact z1 z hz
            cases e3 : (rdA t f ((rdC t p).1 + 1)).2 with
            | none =>
              rw [pb_n e3]
              rw [bI_0 e3] at run
              exact ⟨run, K14, z14, fun cs hc => by cases hc⟩
            | some cs =>
              rw [pb_s e3]
              rw [bI_1 e3] at run
              obtain ⟨c41, c42⟩ := c4 cs e3
              refine ⟨run, K14, z14, fun cs' hc => ?_⟩
              have hc := Option.some.inj hc
              subst hc
              refine ⟨by rw [c41]; simp; omega, fun i m' hm' => ?_⟩
              cases i with
              | zero =>
                have hm' : m = m' := by simpa using hm'
                subst hm'
                have cE_mono : ∀ (A A' : List Int32), (∀ z, z < 5 * (k + 1) → A'.getD z 0 = A.getD z 0) → cE A (5 * k) m → cE A' (5 * (k + 0)) m := fun A A' hA hE => by
                  unfold cE at hE ⊢
                  rw [Nat.add_zero, hA (5 * k) (by omega), hA (5 * k + 1) (by omega), hA (5 * k + 2) (by omega), hA (5 * k + 3) (by omega), hA (5 * k + 4) (by omega)]
                  exact hE
                exact cE_mono (hh_a h1 108) _ (fun z hz => by rw [z4 z hz, M2.2.2.2]) cm
              | succ i =>
                have := c42 i m' (by simpa using hm')
                rw [show k + 1 + i = k + (i + 1) by omega] at this
                exact this
  have L1 := ht99_7 (sl := 26) (x := 0) hL (by omega)
  have L2 := ht99_7 (sl := 27) (x := 0) L1 (by omega)
  have j1 : ∀ sl, hh_i (hh_si h 99 8 26 0) 99 sl = if 26 = sl then 0 else hh_i h 99 sl := fun sl => hh_i_sis hL ht99 (by decide)
  have j2 : ∀ sl, hh_i (hh_si (hh_si h 99 8 26 0) 99 8 27 0) 99 sl = if 27 = sl then 0 else hh_i (hh_si h 99 8 26 0) 99 sl := fun sl => hh_i_sis L1 ht99 (by decide)
  have K0 : mK h (hh_si (hh_si h 99 8 26 0) 99 8 27 0) 0 0 := ⟨hh_F_tr (hh_F_si (by decide)) (hh_F_si (by decide)), by rw [j2, if_neg (by decide), j1, if_pos rfl]; rfl, by rw [j2, if_pos rfl]; rfl, fun sl a b => by rw [j2, if_neg (fun e => b e.symm), j1, if_neg (fun e => a e.symm)]⟩
  obtain ⟨h1, h', j, r1, r2, K, _, c⟩ := key 60 0 0 _ (by omega) (by omega) (by omega) L2 ⟨by rw [K0.2.2.2 25 (by omega) (by omega)]; exact sa, fun k hk => by rw [hh_F_a K0.1 (by decide)]; exact sb k hk, K0.2.1, Nat.zero_le _, h60, tx⟩ K0.2.2.1
  refine ⟨h', j, sg_X9_isInput_0 hL (d := d + 7) r1 r2, mK_tr K0 K, fun cs hc => ?_⟩
  obtain ⟨c1, c2⟩ := c cs hc
  refine ⟨by omega, fun i m hm => ?_⟩
  have := c2 i m hm
  rw [Nat.zero_add] at this
  exact this
end
