/-! THE MODEL: a command is read -/
theorem sw_25 {g : tr_g} : sw g 25 [97, 116, 32] := ⟨26, _, fun _ => rfl, rfl, rfl, fun _ => rfl, by decide, sb_all [97, 116, 32] rfl⟩
theorem sw_27 {g : tr_g} : sw g 27 [114, 114, 111, 114, 32] := ⟨28, _, fun _ => rfl, rfl, rfl, fun _ => rfl, by decide, sb_all [114, 114, 111, 114, 32] rfl⟩
theorem sw_29 {g : tr_g} : sw g 29 wEth := ⟨30, _, fun _ => rfl, rfl, rfl, fun _ => rfl, by decide, sb_all [101, 116, 104, 111, 100, 32] rfl⟩
theorem sw_31 {g : tr_g} : sw g 31 [97, 121, 32] := ⟨32, _, fun _ => rfl, rfl, rfl, fun _ => rfl, by decide, sb_all [97, 121, 32] rfl⟩
theorem sw_33 {g : tr_g} : sw g 33 [111, 116, 101] := ⟨34, _, fun _ => rfl, rfl, rfl, fun _ => rfl, by decide, sb_all [111, 116, 101] rfl⟩
theorem sw_35 {g : tr_g} : sw g 35 [101, 116, 114, 121] := ⟨36, _, fun _ => rfl, rfl, rfl, fun _ => rfl, by decide, sb_all [101, 116, 114, 121] rfl⟩
theorem gc_all : ∀ (ks : List Nat), ks.all (fun k => Nat.ble 1 k && Nat.blt k 1000) = true → ∀ x ∈ ks.map Int32.ofNat, gc x := by
  intro ks h x hx
  obtain ⟨k, hk, rfl⟩ := List.mem_map.mp hx
  have := List.all_eq_true.mp h k hk
  rw [Bool.and_eq_true] at this
  exact ⟨k, Nat.le_of_ble_eq_true this.1, Nat.le_of_ble_eq_true this.2, rfl⟩
theorem gc_at : ∀ c ∈ ([97, 116, 32] : List Int32), gc c := gc_all [97, 116, 32] rfl
theorem gc_rror : ∀ c ∈ ([114, 114, 111, 114, 32] : List Int32), gc c := gc_all [114, 114, 111, 114, 32] rfl
theorem gc_eth : ∀ c ∈ wEth, gc c := gc_all [101, 116, 104, 111, 100, 32] rfl
theorem gc_ay : ∀ c ∈ ([97, 121, 32] : List Int32), gc c := gc_all [97, 121, 32] rfl
theorem gc_ote : ∀ c ∈ ([111, 116, 101] : List Int32), gc c := gc_all [111, 116, 101] rfl
theorem gc_etry : ∀ c ∈ ([101, 116, 114, 121] : List Int32), gc c := gc_all [101, 116, 114, 121] rfl
theorem gc_opt : ∀ c ∈ wOpt, gc c := gc_all [97, 98, 99, 100] rfl
theorem gc_con : ∀ c ∈ wCon, gc c := gc_all [47, 92, 46] rfl
theorem gc_prs : ∀ c ∈ wPrs, gc c := gc_all [112, 114, 115] rfl
theorem gc_32 : gc 32 := ⟨32, by decide, by decide, rfl⟩
theorem gc_105 : gc 105 := ⟨105, by decide, by decide, rfl⟩
theorem gc_59 : gc 59 := ⟨59, by decide, by decide, rfl⟩
/-- how a command stands among the commands -/
def cE (A : List Int32) (b : Nat) (m : Cmd) : Prop := (m.1 = 0 ∧ A.getD b 0 = 99 ∧ A.getD (b + 1) 0 = Int32.ofNat m.2.1 ∧ A.getD (b + 2) 0 = m.2.2.1 ∧ A.getD (b + 3) 0 = m.2.2.2.1 ∧ A.getD (b + 4) 0 = m.2.2.2.2) ∨ (m.1 = 1 ∧ A.getD b 0 = 109 ∧ A.getD (b + 1) 0 = Int32.ofNat m.2.1 ∧ A.getD (b + 2) 0 = m.2.2.1) ∨ (m.1 = 2 ∧ A.getD b 0 = 115 ∧ A.getD (b + 1) 0 = Int32.ofNat m.2.1 ∧ A.getD (b + 2) 0 = m.2.2.1) ∨ (m.1 = 3 ∧ A.getD b 0 = 101 ∧ A.getD (b + 1) 0 = m.2.2.1) ∨ (m.1 = 4 ∧ A.getD b 0 = 118) ∨ (m.1 = 5 ∧ A.getD b 0 = 114)
/-- what reading a command gives -/
def rD (h h' : ev_AH) (b len : Nat) (R : Nat × Option Cmd) : Prop := ∃ A', mN h h' R.1 A' ∧ R.1 ≤ len ∧ A'.length = 155 ∧ (∀ z, z < b → A'.getD z 0 = (hh_a h 108).getD z 0) ∧ ∀ m, R.2 = some m → cE A' b m
theorem rD_none {h h' : ev_AH} {b len p : Nat} {A' : List Int32} (M : mN h h' p A') (hp : p ≤ len) (hl : A'.length = 155) (hz : ∀ z, z < b → A'.getD z 0 = (hh_a h 108).getD z 0) : rD h h' b len (p, none) := ⟨A', M, hp, hl, hz, fun m hm => by cases hm⟩
section
variable {g : tr_g} {d : Nat} {h h' : ev_AH} {t : List Int32} {p : Nat}
theorem sp_readsCat {b : Nat} (hL : hh_L h) (hg : ev_cat1 g.2 = true) (s : iS h t p) (hb : b + 4 < 155) (h99 : (hh_a h 108).getD b 0 = 99) : ∃ h', tr_L g (d + 5) m_X9_readsCat 0 [some (.ref 1099), some (.int (Int32.ofNat b))] [] h (.inl (some (.int (bI (pb (tw t [97, 116, 32] p) fun _ p => pb (tn t p) fun n p => pb (tw t wSp p) fun _ p => pb (rdR t p) fun r p => ((p, some (0, n, r.1, r.2.1, r.2.2)) : Nat × Option Cmd)).2.isSome))), h') ∧ rD h h' b t.length (pb (tw t [97, 116, 32] p) fun _ p => pb (tn t p) fun n p => pb (tw t wSp p) fun _ p => pb (rdR t p) fun r p => ((p, some (0, n, r.1, r.2.1, r.2.2)) : Nat × Option Cmd)) := by
  have hl := A_len hL
  have i1 : ∀ j, (Int32.ofNat b + Int32.ofNat j) = Int32.ofNat (b + j) := fun j => ii_a b j
  obtain ⟨h1, r1, M1, p1⟩ := sp_isWord (g := g) (d := d) hL hg sw_25 gc_at s
  cases e1 : (tw t [97, 116, 32] p).2 with
  | none =>
    rw [pb_n e1]
    rw [bI_0 e1] at r1
    exact ⟨h1, sg_X9_readsCat_0 hL (d := d + 4) r1 (fun _ => sg_X9_readsCat_29 r1.2 rfl) (fun q => absurd rfl q), rD_none M1 p1 hl (fun _ _ => rfl)⟩
  | some u =>
    rw [pb_s e1]
    rw [bI_1 e1] at r1
    have s1 := iS_N M1 p1 s
    generalize (tw t [97, 116, 32] p).1 = q1 at M1 p1 s1 ⊢
    obtain ⟨h2, r2, M2, p2⟩ := sp_isNumber (g := g) (d := d + 3) (z := b + 1) r1.2 s1 (by omega)
    rw [M1.2.2.2] at M2
    have l2 : ((hh_a h 108).set (b + 1) (tnV t q1)).length = 155 := by rw [List.length_set]; exact hl
    have z2 : ∀ z, z < b + 1 → ((hh_a h 108).set (b + 1) (tnV t q1)).getD z 0 = (hh_a h 108).getD z 0 := fun z hz => by rw [gs (by omega), if_neg (by omega)]
    have pre1 : ∀ r, tr_L g (d + 5) m_X9_readsCat 10 [some (.ref 1099), some (.int (Int32.ofNat b))] [] h1 r → tr_L g (d + 5) m_X9_readsCat 0 [some (.ref 1099), some (.int (Int32.ofNat b))] [] h r := fun r k => sg_X9_readsCat_0 hL (d := d + 4) r1 (fun q => absurd q (by decide)) (fun _ => k)
    cases e2 : (tn t q1).2 with
    | none =>
      rw [pb_n e2]
      rw [bI_0 e2] at r2
      exact ⟨h2, pre1 _ (sg_X9_readsCat_10 r1.2 (d := d + 4) (by rw [show Int32.ofNat b + 1 = Int32.ofNat (b + 1) from i1 1]; exact r2) (fun _ => sg_X9_readsCat_29 r2.2 rfl) (fun q => absurd rfl q)), rD_none (mN_tr M1 M2) p2 l2 (fun z hz => z2 z (by omega))⟩
    | some N =>
      rw [pb_s e2]
      rw [bI_1 e2] at r2
      have s2 := iS_N M2 p2 s1
      have ev : tnV t q1 = Int32.ofNat N := by unfold tnV; rw [e2]
      rw [ev] at M2 l2 z2
      generalize (tn t q1).1 = q2 at M2 p2 s2 ⊢
      obtain ⟨h3, r3, M3, p3⟩ := sp_isSign (g := g) (d := d + 3) r2.2 s2 gc_32
      rw [M2.2.2.2] at M3
      have pre2 : ∀ r, tr_L g (d + 5) m_X9_readsCat 20 [some (.ref 1099), some (.int (Int32.ofNat b))] [] h2 r → tr_L g (d + 5) m_X9_readsCat 0 [some (.ref 1099), some (.int (Int32.ofNat b))] [] h r := fun r k => pre1 r (sg_X9_readsCat_10 r1.2 (d := d + 4) (by rw [show Int32.ofNat b + 1 = Int32.ofNat (b + 1) from i1 1]; exact r2) (fun q => absurd q (by decide)) (fun _ => k))
      cases e3 : (tw t wSp q2).2 with
      | none =>
        rw [pb_n e3]
        rw [show tw t [32] q2 = tw t wSp q2 from rfl, bI_0 e3] at r3
        exact ⟨h3, pre2 _ (sg_X9_readsCat_20 r2.2 (d := d + 4) r3 (fun q => absurd rfl q) (fun _ => sg_X9_readsCat_29 r3.2 rfl)), rD_none (mN_tr M1 (mN_tr M2 M3)) p3 l2 (fun z hz => z2 z (by omega))⟩
      | some u3 =>
        rw [pb_s e3]
        rw [show tw t [32] q2 = tw t wSp q2 from rfl] at r3 M3 p3
        rw [bI_1 e3] at r3
        have s3 := iS_N M3 p3 s2
        generalize (tw t wSp q2).1 = q3 at M3 p3 s3 ⊢
        have rn3 := sp_now (g := g) (d := d + 4) r3.2 s3
        have ro3 := sa_X9_isOption (g := g) (d := d + 3) (x0 := nw t q3) r3.2
        obtain ⟨h4, r4, M4, p4⟩ := sp_takes (g := g) (d := d + 3) (z := b + 2) (w := wOpt) r3.2 s3 (by omega) opt_mem gc_opt
        rw [M3.2.2.2] at M4
        have M14 := mN_tr M1 (mN_tr M2 (mN_tr M3 M4))
        have l4 : (((hh_a h 108).set (b + 1) (Int32.ofNat N)).set (b + 2) (nw t q3)).length = 155 := by rw [List.length_set]; exact l2
        have z4 : ∀ z, z < b + 2 → (((hh_a h 108).set (b + 1) (Int32.ofNat N)).set (b + 2) (nw t q3)).getD z 0 = ((hh_a h 108).set (b + 1) (Int32.ofNat N)).getD z 0 := fun z hz => by rw [gs (by omega), if_neg (by omega)]
        have pre3 : ∀ r, tr_L g (d + 5) m_X9_readsCat 31 [some (.ref 1099), some (.int (Int32.ofNat b))] [] h3 r → tr_L g (d + 5) m_X9_readsCat 0 [some (.ref 1099), some (.int (Int32.ofNat b))] [] h r := fun r k => pre2 r (sg_X9_readsCat_20 r2.2 (d := d + 4) r3 (fun _ => k) (fun q => absurd q (by decide)))
        have a2 : Int32.ofNat b + 2 = Int32.ofNat (b + 2) := i1 2
        have a3 : Int32.ofNat b + 3 = Int32.ofNat (b + 3) := i1 3
        have a4 : Int32.ofNat b + 4 = Int32.ofNat (b + 4) := i1 4
        unfold rdR
        cases e4 : (tf t wOpt q3).2 with
        | none =>
          rw [pb_n e4, pb_n rfl]
          rw [bI_0 e4] at r4
          exact ⟨h4, pre3 _ (sg_X9_readsCat_31 r3.2 (d := d + 4) rn3 ro3 (by rw [a2]; exact r4) (fun _ => sg_X9_readsCat_86 r4.2 rfl) (fun q => absurd rfl q)), rD_none M14 p4 l4 (fun z hz => by rw [z4 z (by omega), z2 z (by omega)])⟩
        | some x =>
          rw [pb_s e4]
          rw [bI_1 e4] at r4
          have ex : nw t q3 = x := by
            unfold tf at e4
            split at e4
            · rename_i hm
              have := gd_lt rfl (gc_ne (gc_opt _ hm))
              rw [nw, if_pos this]
              exact Option.some.inj e4
            · cases e4
          rw [ex] at M4 M14 l4 z4
          have s4 := iS_N M4 p4 s3
          generalize (tf t wOpt q3).1 = q4 at M4 M14 p4 s4 ⊢
          have rn4 := sp_now (g := g) (d := d + 4) r4.2 s4
          have ro4 := sa_X9_isOption (g := g) (d := d + 3) (x0 := nw t q4) r4.2
          obtain ⟨h5, r5, M5, p5⟩ := sp_takes (g := g) (d := d + 3) (z := b + 3) (w := wOpt) r4.2 s4 (by omega) opt_mem gc_opt
          rw [M4.2.2.2] at M5
          have M15 := mN_tr M14 M5
          have l5 : ((((hh_a h 108).set (b + 1) (Int32.ofNat N)).set (b + 2) x).set (b + 3) (nw t q4)).length = 155 := by rw [List.length_set]; exact l4
          have z5 : ∀ z, z < b + 3 → ((((hh_a h 108).set (b + 1) (Int32.ofNat N)).set (b + 2) x).set (b + 3) (nw t q4)).getD z 0 = (((hh_a h 108).set (b + 1) (Int32.ofNat N)).set (b + 2) x).getD z 0 := fun z hz => by rw [gs (by omega), if_neg (by omega)]
          have pre4 : ∀ r, tr_L g (d + 5) m_X9_readsCat 48 [some (.ref 1099), some (.int (Int32.ofNat b))] [] h4 r → tr_L g (d + 5) m_X9_readsCat 0 [some (.ref 1099), some (.int (Int32.ofNat b))] [] h r := fun r k => pre3 r (sg_X9_readsCat_31 r3.2 (d := d + 4) rn3 ro3 (by rw [a2]; exact r4) (fun q => absurd q (by decide)) (fun _ => k))
          cases e5 : (tf t wOpt q4).2 with
          | none =>
            rw [pb_n e5, pb_n rfl]
            rw [bI_0 e5] at r5
            exact ⟨h5, pre4 _ (sg_X9_readsCat_48 r4.2 (d := d + 4) rn4 ro4 (by rw [a3]; exact r5) (fun _ => sg_X9_readsCat_86 r5.2 rfl) (fun q => absurd rfl q)), rD_none M15 p5 l5 (fun z hz => by rw [z5 z (by omega), z4 z (by omega), z2 z (by omega)])⟩
          | some y =>
            rw [pb_s e5]
            rw [bI_1 e5] at r5
            have ey : nw t q4 = y := by
              unfold tf at e5
              split at e5
              · rename_i hm
                have := gd_lt rfl (gc_ne (gc_opt _ hm))
                rw [nw, if_pos this]
                exact Option.some.inj e5
              · cases e5
            rw [ey] at M5 M15 l5 z5
            have s5 := iS_N M5 p5 s4
            generalize (tf t wOpt q4).1 = q5 at M5 M15 p5 s5 ⊢
            have rn5 := sp_now (g := g) (d := d + 4) r5.2 s5
            have ro5 := sa_X9_isOption (g := g) (d := d + 3) (x0 := nw t q5) r5.2
            obtain ⟨h6, r6, M6, p6⟩ := sp_takes (g := g) (d := d + 3) (z := b + 4) (w := wOpt) r5.2 s5 (by omega) opt_mem gc_opt
            rw [M5.2.2.2] at M6
            have M16 := mN_tr M15 M6
            have l6 : (((((hh_a h 108).set (b + 1) (Int32.ofNat N)).set (b + 2) x).set (b + 3) y).set (b + 4) (nw t q5)).length = 155 := by rw [List.length_set]; exact l5
            have z6 : ∀ z, z < b + 4 → (((((hh_a h 108).set (b + 1) (Int32.ofNat N)).set (b + 2) x).set (b + 3) y).set (b + 4) (nw t q5)).getD z 0 = ((((hh_a h 108).set (b + 1) (Int32.ofNat N)).set (b + 2) x).set (b + 3) y).getD z 0 := fun z hz => by rw [gs (by omega), if_neg (by omega)]
            have pre5 : ∀ r, tr_L g (d + 5) m_X9_readsCat 65 [some (.ref 1099), some (.int (Int32.ofNat b))] [] h5 r → tr_L g (d + 5) m_X9_readsCat 0 [some (.ref 1099), some (.int (Int32.ofNat b))] [] h r := fun r k => pre4 r (sg_X9_readsCat_48 r4.2 (d := d + 4) rn4 ro4 (by rw [a3]; exact r5) (fun q => absurd q (by decide)) (fun _ => k))
            cases e6 : (tf t wOpt q5).2 with
            | none =>
              rw [pb_n e6, pb_n rfl]
              rw [bI_0 e6] at r6
              exact ⟨h6, pre5 _ (sg_X9_readsCat_65 r5.2 (d := d + 4) rn5 ro5 (by rw [a4]; exact r6) (fun _ => sg_X9_readsCat_86 r6.2 rfl) (fun q => absurd rfl q)), rD_none M16 p6 l6 (fun z hz => by rw [z6 z (by omega), z5 z (by omega), z4 z (by omega), z2 z (by omega)])⟩
            | some v =>
              rw [pb_s e6, pb_s rfl]
              rw [bI_1 e6] at r6
              have ev' : nw t q5 = v := by
                unfold tf at e6
                split at e6
                · rename_i hm
                  have := gd_lt rfl (gc_ne (gc_opt _ hm))
                  rw [nw, if_pos this]
                  exact Option.some.inj e6
                · cases e6
              rw [ev'] at M16 l6 z6
              refine ⟨h6, pre5 _ (sg_X9_readsCat_65 r5.2 (d := d + 4) rn5 ro5 (by rw [a4]; exact r6) (fun q => absurd q (by decide)) (fun _ => sg_X9_readsCat_82 r6.2 rfl)), _, M16, p6, l6, fun z hz => by rw [z6 z (by omega), z5 z (by omega), z4 z (by omega), z2 z (by omega)], fun m hm => ?_⟩
              have hm := Option.some.inj hm
              subst hm
              refine Or.inl ⟨rfl, ?_, ?_, ?_, ?_, ?_⟩
              · rw [z6 b (by omega), z5 b (by omega), z4 b (by omega), z2 b (by omega)]; exact h99
              · rw [z6 _ (by omega), z5 _ (by omega), z4 _ (by omega), gs (by omega), if_pos rfl]
              · rw [z6 _ (by omega), z5 _ (by omega), gs (by omega), if_pos rfl]
              · rw [z6 _ (by omega), gs (by omega), if_pos rfl]
              · rw [gs (by omega), if_pos rfl]
end
