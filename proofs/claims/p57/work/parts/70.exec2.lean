/-! EXECUTE: all commands -/
theorem pb_e {α β : Type} {m : Nat × Option α} {f : α → Nat → Nat × Option β} {x : β} (h : (pb m f).2 = some x) : ∃ a, m.2 = some a ∧ (f a m.1).2 = some x := by
  obtain ⟨m1, m2⟩ := m
  cases m2 with
  | none => cases h
  | some a => exact ⟨a, rfl, h⟩
theorem rdC_num {t : List Int32} {p : Nat} {x : Cmd} (h : (rdC t p).2 = some x) : x.2.1 < 100 := by
  unfold rdC at h
  split at h
  · obtain ⟨_, _, h⟩ := pb_e h
    obtain ⟨N, e, h⟩ := pb_e h
    have := rdC_N e
    obtain ⟨_, _, h⟩ := pb_e h
    obtain ⟨_, _, h⟩ := pb_e h
    exact rd_x (Q := fun x => x.2.1 < 100) h this
  · split at h
    · obtain ⟨_, _, h⟩ := pb_e h
      unfold rdM at h
      split at h
      · obtain ⟨_, _, h⟩ := pb_e h
        obtain ⟨_, _, h⟩ := pb_e h
        exact rd_x (Q := fun x => x.2.1 < 100) h (show (0 : Nat) < 100 from by decide)
      · obtain ⟨_, _, h⟩ := pb_e h
        obtain ⟨N, e, h⟩ := pb_e h
        have := rdC_N e
        obtain ⟨_, _, h⟩ := pb_e h
        obtain ⟨_, _, h⟩ := pb_e h
        exact rd_x (Q := fun x => x.2.1 < 100) h this
    · split at h
      · obtain ⟨_, _, h⟩ := pb_e h
        obtain ⟨N, e, h⟩ := pb_e h
        have := rdC_N e
        obtain ⟨_, _, h⟩ := pb_e h
        obtain ⟨_, _, h⟩ := pb_e h
        exact rd_x (Q := fun x => x.2.1 < 100) h this
      · split at h
        · obtain ⟨_, _, h⟩ := pb_e h
          exact rd_x (Q := fun x => x.2.1 < 100) h (show (0 : Nat) < 100 from by decide)
        · obtain ⟨_, _, h⟩ := pb_e h
          exact rd_x (Q := fun x => x.2.1 < 100) h (show (0 : Nat) < 100 from by decide)
section
variable {g : tr_g} {d : Nat} {h h' : ev_AH} {c : CT} {n : Nat} {P : List CT} {S : Option CT} {y : YS} {l t : List Int32}
theorem kCW_X : ∀ k ∈ kC ++ kW, k ∈ kX := by decide
theorem sp_next {p : Nat} {k m a b e : Int32} {x : Cmd} (hL : hh_L h) (hg : ev_cat1 g.2 = true) (ht : t.length < 1000) (w : CI h c P S y l t) (q : cQ h c n) (z : xs h t p k m a b e) (zc : xc a b e) (hp : p ≤ t.length) (hx : (rdC t (skp t p)).2 = some x) : ∃ h' k' m' a' b' e', hh_F kX h h' ∧ tr_L g (d + 11) m_X8_runNextCommand 0 [some (.ref 1000)] [] h (.inl (some (.int (cmd1 c n x).1)), h') ∧ CI h' (cmd1 c n x).2 P S y l t ∧ xs h' t (rdC t (skp t p)).1 k' m' a' b' e' ∧ xc a' b' e' ∧ (rdC t (skp t p)).1 ≤ t.length := by
  obtain ⟨K, N, A, B, C⟩ := x
  have hK : K ≤ 5 := rdC_kind hx
  have hN : N < 100 := rdC_num hx
  obtain ⟨h1, s1, F1, z1, p1⟩ := sc_skip (g := g) (d := d + 4) hL hg ht z hp
  obtain ⟨h2, k', m', a', b', e', s2, F2, z2, zc2, p2, N2⟩ := sc_read (g := g) (d := d + 3) s1.2 hg ht z1 zc p1
  have F12 := hh_F_tr F1 F2
  have w2 : CI h2 c P S y l t := CI_t F12 (by decide) z2 zc2 w
  have q2 := CI_q w2 q
  obtain ⟨n1, n2, n3, n4⟩ := N2 K N A B C hx
  have e2 : hh_i h2 93 2 = k' := z2.2.2.1
  have F12X : hh_F kX h h2 := hh_F_w F12 (by decide)
  have done : ∀ (h3 : ev_AH) (c3 : CT) (v : Int32), hh_F (kC ++ kW) h2 h3 → tr_L g (d + 11) m_X8_runNextCommand 0 [some (.ref 1000)] [] h (.inl (some (.int v)), h3) → CI h3 c3 P S y l t → ∃ h' k' m' a' b' e', hh_F kX h h' ∧ tr_L g (d + 11) m_X8_runNextCommand 0 [some (.ref 1000)] [] h (.inl (some (.int v)), h') ∧ CI h' c3 P S y l t ∧ xs h' t (rdC t (skp t p)).1 k' m' a' b' e' ∧ xc a' b' e' ∧ (rdC t (skp t p)).1 ≤ t.length := fun h3 c3 v F r w3 => ⟨h3, k', m', a', b', e', hh_F_tr F12X (hh_F_w F kCW_X), r, w3, xs_X F (fun _ h => h) z2, zc2, p2⟩
  have h6 : K = 0 ∨ K = 1 ∨ K = 2 ∨ K = 3 ∨ K = 4 ∨ K = 5 := by omega
  rcases h6 with rfl | rfl | rfl | rfl | rfl | rfl
  · rw [n2 (by omega), n3 (by omega), (n4 rfl).1, (n4 rfl).2] at z2
    obtain ⟨h3, F3, s3, w3⟩ := sp_runCat (g := g) (d := d + 1) s2.2 w2 q2 z2 hN
    refine ⟨h3, k', Int32.ofNat N, A, B, C, hh_F_tr F12X (hh_F_w F3 kCW_X), sg_X8_runNextCommand_0_t0 hL (d := d + 10) s1 s2 (by rw [e2, n1]; rfl) (sg_X8_runNextCommand_56 s2.2 (d := d + 10) s3 rfl), w3, xs_X F3 (fun _ h => h) z2, ?_, p2⟩
    rw [n3 (by omega), (n4 rfl).1, (n4 rfl).2] at zc2
    exact zc2
  · have a1 := n3 (by omega)
    rw [n2 (by omega)] at z2
    rw [← a1]
    obtain ⟨h3, F3, s3, w3⟩ := sp_runMir (g := g) (d := d + 1) s2.2 w2 q2 z2 zc2.1 hN B C
    exact ⟨h3, k', Int32.ofNat N, a', b', e', hh_F_tr F12X (hh_F_w F3 kCW_X), sg_X8_runNextCommand_0_t1 hL (d := d + 10) s1 s2 (by rw [e2, n1]; rfl) (sg_X8_runNextCommand_61 s2.2 (d := d + 10) s3 rfl), w3, xs_X F3 (fun _ h => h) z2, zc2, p2⟩
  · have a1 := n3 (by omega)
    rw [n2 (by omega)] at z2
    rw [← a1]
    obtain ⟨h3, F3, s3, w3⟩ := sp_runSay (g := g) (d := d + 1) s2.2 w2 q2 z2 hN B C
    exact ⟨h3, k', Int32.ofNat N, a', b', e', hh_F_tr F12X (hh_F_w F3 kCW_X), sg_X8_runNextCommand_0_t2 hL (d := d + 10) s1 s2 (by rw [e2, n1]; rfl) (sg_X8_runNextCommand_66 s2.2 (d := d + 10) s3 rfl), w3, xs_X F3 (fun _ h => h) z2, zc2, p2⟩
  · have a1 := n3 (by omega)
    rw [← a1]
    have e4 : hh_i h2 93 4 = a' := z2.2.2.2.2.1
    have c3 : cC (hh_si h2 1 1 7 a') 1 = cc_in c 1 a' := by rw [cC_si (j := 1) s2.2 (by decide), w2.1]
    have F3 : hh_F kC h2 (hh_si h2 1 1 7 a') := hh_F_si (by decide)
    exact done _ _ _ (hh_F_w F3 (by decide)) (sg_X8_runNextCommand_0_t3 hL (d := d + 10) s1 s2 (by rw [e2, n1]; rfl) (sg_X8_runNextCommand_71 s2.2 (by rw [e4]; exact zc2.1) (by rw [e4]; rfl))) (CI_c F3 c3 w2)
  · have e6 : hh_i h2 1 6 = Int32.ofNat n := by rw [← q.2.1]; exact cq_i q2 (k := 0) (by omega)
    have h7 := q.2.2.1
    by_cases hn : n = 0
    · have ec : cmd1 c n (4, N, A, B, C) = (4, c) := by simp [cmd1, hn]
      rw [ec]
      exact done h2 c 4 hh_F_rf (sg_X8_runNextCommand_0_t4 hL (d := d + 10) s1 s2 (by rw [e2, n1]; rfl) (sg_X8_runNextCommand_87 s2.2 (fun z => absurd (by rw [e6, hn]; rfl) z) (fun _ => sg_X8_runNextCommand_97 s2.2 rfl))) w2
    · have ec : cmd1 c n (4, N, A, B, C) = (0, ct_vote c n) := by simp [cmd1, hn]
      rw [ec]
      obtain ⟨h3, F3, s3, w3⟩ := sp_holdF (g := g) (d := d + 3) s2.2 w2 q2 (by omega)
      exact done h3 _ 0 F3 (sg_X8_runNextCommand_0_t4 hL (d := d + 10) s1 s2 (by rw [e2, n1]; rfl) (sg_X8_runNextCommand_87 s2.2 (fun _ => sg_X8_runNextCommand_99 s2.2 (d := d + 10) s3 rfl) (fun z => absurd ((ii_eq (b := 0) (by omega) (by omega)).mp (by rw [e6] at z; exact z)) hn))) w3
  · have r3 := sp_mayRetry (g := g) (d := d + 9) s2.2 q2.1 q2.2.2.2.1.2.1
    have ek : (hh_i h2 93 2).toInt < 0 ∨ 4 < (hh_i h2 93 2).toInt := by
      rw [e2, n1]
      exact Or.inr (by decide)
    by_cases hm : ct_may c = 0
    · have ec : cmd1 c n (5, N, A, B, C) = (5, c) := by simp [cmd1, hm]
      rw [ec]
      exact done h2 c 5 hh_F_rf (sg_X8_runNextCommand_0_td hL (d := d + 10) s1 s2 ek (sg_X8_runNextCommand_105 s2.2 (d := d + 10) r3 (fun z => absurd hm z) (fun _ => sg_X8_runNextCommand_115 s2.2 rfl))) w2
    · have ec : cmd1 c n (5, N, A, B, C) = (0, ct_again c n) := by simp [cmd1, hm]
      rw [ec]
      obtain ⟨h3, s3, F3, c3⟩ := sp_startAgain (g := g) (d := d + 7) s2.2 w2.1 q.2.1 q.2.2.1
      exact done h3 _ 0 (hh_F_w F3 (by decide)) (sg_X8_runNextCommand_0_td hL (d := d + 10) s1 s2 ek (sg_X8_runNextCommand_105 s2.2 (d := d + 10) r3 (fun _ => sg_X8_runNextCommand_117 s2.2 (d := d + 10) s3 rfl) (fun z => absurd z hm))) (CI_c F3 c3 w2)
/-- how many cats there are -/
def cn (c : CT) : Nat := (ct_i c 0).toNatClampNeg
/-- the commands, one behind the other: the outcome and the number of the one that failed, if one did; the court -/
def cms : List Cmd → CT → Nat → Option (Int32 × Nat) × CT
  | [], c, _ => (none, c)
  | m :: cs, c, i => if (cmd1 c (cn c) m).1 = 0 then cms cs (cmd1 c (cn c) m).2 (i + 1) else (some ((cmd1 c (cn c) m).1, i), (cmd1 c (cn c) m).2)
def pQ (c : CT) (n : Nat) : Prop := ct_i c 0 = Int32.ofNat n ∧ n ≤ 7 ∧ ct_ok c ∧ (∀ k, k < n → ∃ q, q < 35 ∧ (ct_ce c).getD k 0 = Int32.ofNat q) ∧ ct_perm c n
/-- letters of a command are such as may stand there -/
def cm_ok (m : Cmd) : Prop := (m.1 = 1 → m.2.2.1 ∈ wCon) ∧ (m.1 = 2 → m.2.2.1 ∈ wOpt) ∧ (m.1 = 3 → m.2.2.1 ∈ wPrs)
theorem cmk {K N : Nat} {A B C : Int32} (h1 : K = 1 → A ∈ wCon) (h2 : K = 2 → A ∈ wOpt) (h3 : K = 3 → A ∈ wPrs) : cm_ok (K, N, A, B, C) := ⟨h1, h2, h3⟩
theorem tf_mem {w : List Int32} {p : Nat} {x : Int32} (e : (tf t w p).2 = some x) : x ∈ w := by
  unfold tf at e
  split at e
  · injection e with e
    rw [← e]
    assumption
  · cases e
theorem rdC_ok {p : Nat} {x : Cmd} (h : (rdC t p).2 = some x) : cm_ok x := by
  unfold rdC at h
  split at h
  · obtain ⟨_, _, h⟩ := pb_e h
    obtain ⟨N, e, h⟩ := pb_e h
    obtain ⟨_, _, h⟩ := pb_e h
    obtain ⟨_, _, h⟩ := pb_e h
    exact rd_x (Q := cm_ok) h (cmk (fun q => absurd q (by decide)) (fun q => absurd q (by decide)) (fun q => absurd q (by decide)))
  · split at h
    · obtain ⟨_, _, h⟩ := pb_e h
      unfold rdM at h
      split at h
      · obtain ⟨_, _, h⟩ := pb_e h
        obtain ⟨a, e, h⟩ := pb_e h
        exact rd_x (Q := cm_ok) h (cmk (fun q => absurd q (by decide)) (fun q => absurd q (by decide)) (fun _ => tf_mem e))
      · obtain ⟨_, _, h⟩ := pb_e h
        obtain ⟨N, _, h⟩ := pb_e h
        obtain ⟨_, _, h⟩ := pb_e h
        obtain ⟨a, e, h⟩ := pb_e h
        exact rd_x (Q := cm_ok) h (cmk (fun _ => tf_mem e) (fun q => absurd q (by decide)) (fun q => absurd q (by decide)))
    · split at h
      · obtain ⟨_, _, h⟩ := pb_e h
        obtain ⟨N, _, h⟩ := pb_e h
        obtain ⟨_, _, h⟩ := pb_e h
        obtain ⟨a, e, h⟩ := pb_e h
        exact rd_x (Q := cm_ok) h (cmk (fun q => absurd q (by decide)) (fun _ => tf_mem e) (fun q => absurd q (by decide)))
      · split at h
        · obtain ⟨_, _, h⟩ := pb_e h
          exact rd_x (Q := cm_ok) h (cmk (fun q => absurd q (by decide)) (fun q => absurd q (by decide)) (fun q => absurd q (by decide)))
        · obtain ⟨_, _, h⟩ := pb_e h
          exact rd_x (Q := cm_ok) h (cmk (fun q => absurd q (by decide)) (fun q => absurd q (by decide)) (fun q => absurd q (by decide)))
theorem rdA_len : ∀ (m p : Nat) (cs : List Cmd), (rdA t m p).2 = some cs → cs.length ≤ m
  | 0, p, cs, e => by cases e
  | m + 1, p, cs, e => by
    unfold rdA at e
    obtain ⟨x, e1, e⟩ := pb_e e
    split at e
    · injection e with e
      rw [← e]
      simp
    · obtain ⟨_, _, e⟩ := pb_e e
      obtain ⟨cs0, e2, e⟩ := pb_e e
      injection e with e
      have := rdA_len m _ _ e2
      rw [← e, List.length_cons]
      omega
theorem kX_n : ∀ j, (j = 0 ∨ (8 ≤ j ∧ j < 80) ∨ (93 < j ∧ j < 98) ∨ 98 < j) → j ∉ kX := fun j hj hm => by
  simp at hm
  omega
/-- the loop over the commands -/
theorem sp_cms (W : Nat → CT → Prop) (hq : ∀ i c, W i c → pQ c (cn c)) (hs : ∀ i c m, W i c → cm_ok m → m.2.1 < 100 → W (i + 1) (cmd1 c (cn c) m).2) (hg : ev_cat1 g.2 = true) (ht : t.length < 1000) : ∀ (cs : List Cmd) (i N la p : Nat) (c : CT) (h : ev_AH) (k m a b e : Int32), i + cs.length = N → N < 1000 → W i c → hh_L h → CI h c P S y l t → xs h t p k m a b e → xc a b e → p ≤ t.length → vs t p cs → ∃ h' i', hh_F kX h h' ∧ CI h' (cms cs c i).2 P S y l t ∧ hh_L h' ∧ (∀ r, (∀ u v : Nat, (match (cms cs c i).1 with | none => v = N | some z => u = z.2) → tr_L g (d + 12) m_X8_execute 96 [some (.ref 1000), some (.int (Int32.ofNat N)), some (.int (Int32.ofNat u)), some (.int (match (cms cs c i).1 with | none => 0 | some z => z.1)), some (.int (Int32.ofNat v))] [] h' r) → tr_L g (d + 12) m_X8_execute 72 [some (.ref 1000), some (.int (Int32.ofNat N)), some (.int (Int32.ofNat la)), some (.int 0), some (.int (Int32.ofNat i))] [] h r) ∧ W i' (cms cs c i).2 := by
  intro cs
  induction cs with
  | nil =>
    intro i N la p c h k m a b e hi hN hW hL w z zc hp hv
    have : i = N := by simpa using hi
    subst this
    exact ⟨h, i, hh_F_rf, w, hL, fun r kk => sg_X8_execute_72 hL (fun _ => kk la i rfl) (fun q => absurd ((ii_lt (by omega) (by omega)).mp q) (by omega)), hW⟩
  | cons x cs ih =>
    intro i N la p c h k m a b e hi hN hW hL w z zc hp hv
    rw [List.length_cons] at hi
    obtain ⟨h1, k1, m1, a1, b1, e1, F1, r1, w1, z1, zc1, p1⟩ := sp_next (g := g) (d := d) hL hg ht w ⟨w.1, hq i c hW⟩ z zc hp hv.1
    have W1 := hs i c x hW (rdC_ok hv.1) (rdC_num hv.1)
    have pre : ∀ r, tr_L g (d + 12) m_X8_execute 72 [some (.ref 1000), some (.int (Int32.ofNat N)), some (.int (Int32.ofNat i)), some (.int (cmd1 c (cn c) x).1), some (.int (Int32.ofNat (i + 1)))] [] h1 r → tr_L g (d + 12) m_X8_execute 72 [some (.ref 1000), some (.int (Int32.ofNat N)), some (.int (Int32.ofNat la)), some (.int 0), some (.int (Int32.ofNat i))] [] h r := fun r kk =>
      sg_X8_execute_72 hL (fun q => absurd ((ii_le (by omega) (by omega)).mp q) (by omega)) (fun _ => sg_X8_execute_78 hL (fun q => absurd rfl q) (fun _ => sg_X8_execute_82 hL (d := d + 11) r1 (by rw [ii_s]; exact kk)))
    unfold cms
    by_cases h0 : (cmd1 c (cn c) x).1 = 0
    · rw [if_pos h0]
      obtain ⟨h2, i', F2, w2, L2, r2, W2⟩ := ih (i + 1) N i _ _ h1 _ _ _ _ _ (by omega) hN W1 r1.2 w1 z1 zc1 p1 hv.2
      exact ⟨h2, i', hh_F_tr F1 F2, w2, L2, fun r kk => pre r (by rw [h0]; exact r2 r kk), W2⟩
    · rw [if_neg h0]
      refine ⟨h1, i + 1, F1, w1, r1.2, fun r kk => pre r ?_, W1⟩
      by_cases hl : N ≤ i + 1
      · exact sg_X8_execute_72 r1.2 (fun _ => kk i (i + 1) rfl) (fun q => absurd ((ii_lt (by omega) (by omega)).mp q) (by omega))
      · exact sg_X8_execute_72 r1.2 (fun q => absurd ((ii_le (by omega) (by omega)).mp q) hl) (fun _ => sg_X8_execute_78 r1.2 (fun _ => kk i (i + 1) rfl) (fun q => absurd q h0))
end
