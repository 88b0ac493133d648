/-! THE LAW: what is seen -/
section
variable {c : CT} {n : Nat}
theorem e_cellOf {k : Nat} (h7 : n ≤ 7) (hk : k < n) : an_cellOf c n (Int32.ofNat k) = .inl ((ct_ce c).getD k 0) := by
  unfold an_cellOf
  rw [idx_k (by omega) hk]
theorem e_heardBy {k : Nat} (h7 : n ≤ 7) (hk : k < n) : an_heardBy c n (Int32.ofNat k) = .inl ((ct_he c).getD k 0) := by
  unfold an_heardBy
  rw [idx_k (by omega) hk]
theorem e_contentOf {q : Nat} (hq : q < 35) : an_contentOf c (Int32.ofNat q) = .inl ((ct_co c).getD q 0) := by
  unfold an_contentOf
  rw [idx_k (by omega) hq]
theorem e_optionAt {k p : Nat} (h7 : n ≤ 7) (hk : k < n) (hp : p < 4) : an_optionAt c n (Int32.ofNat k) (Int32.ofNat p) = .inl (fa_X8_letterOf (ct_opt c k p)) := by
  unfold an_optionAt
  rw [idx_k (by omega) hk]
  simp only
  rw [idx_k (by omega) hp]
theorem ox_k {o : Nat} (ho : o < 4) : ox (Int32.ofNat (97 + o)) = some o := by
  rcases ox_c (Int32.ofNat (97 + o)) with ⟨p, hp, e, e2⟩ | ⟨_, e⟩
  · have : 97 + o = 97 + p := (ii_eq (by omega) (by omega)).mp e
    rw [e2]
    congr 1
    omega
  · exact absurd rfl (e o ho)
theorem e_placeOf {k o : Nat} (h7 : n ≤ 7) (hk : k < n) (ho : o < 4) : an_placeOf c n (Int32.ofNat k) (Int32.ofNat (97 + o)) = .inl (Int32.ofNat (ct_pl c k (Int32.ofNat o))) := by
  unfold an_placeOf
  rw [idx_k (by omega) hk]
  simp only
  rw [ox_k ho]
/-- k numbers in a row -/
def sF (f : Nat → Int32) (o : Nat) : Nat → List Int32 → List Int32
  | 0, l => l
  | k + 1, l => (sF f o k l).set (o + k) (f k)
theorem sF_len {f : Nat → Int32} {o : Nat} {l : List Int32} : ∀ k, (sF f o k l).length = l.length
  | 0 => rfl
  | k + 1 => by
    show ((sF f o k l).set (o + k) (f k)).length = l.length
    rw [List.length_set, sF_len k]
/-- what is told of k cats -/
def sC (c : CT) : Nat → List Int32 → List Int32
  | 0, l => l
  | k + 1, l => sF (fun p => fa_X8_letterOf (ct_opt c k p)) (46 + 8 * k) 4 (((sC c k l).set (44 + 8 * k) ((ct_ce c).getD k 0)).set (45 + 8 * k) ((ct_he c).getD k 0))
theorem sC_len {l : List Int32} : ∀ k, (sC c k l).length = l.length
  | 0 => rfl
  | k + 1 => by
    show (sF _ _ 4 _).length = l.length
    rw [sF_len, List.length_set, List.length_set, sC_len k]
def s_head (c : CT) : List Int32 := ((((((((List.replicate 120 (0 : Int32)).set 0 (ct_i c 0)).set 1 (ct_i c 1)).set 2 (ct_i c 2)).set 3 (ct_i c 3)).set 4 (ct_i c 4)).set 5 (ct_i c 5))).set 6 (if ct_may c = 0 then 0 else 1)
/-- all that is seen of a court with n cats -/
def seenL (c : CT) (n : Nat) : List Int32 := sF (fun k => wv (an_verdict c (Int32.ofNat k)) cd_verdictAt) 104 10 (sC c n (sF (fun q => (ct_co c).getD q 0) 8 35 (s_head c)))
theorem s_head_len : (s_head c).length = 120 := by simp [s_head]
theorem seenL_len : (seenL c n).length = 120 := by
  unfold seenL
  rw [sF_len, sC_len, sF_len, s_head_len]
end
/-- an array of numbers stands behind what was -/
def sI (h0 h' : ev_AH) (m q : Nat) (l : List Int32) : Prop := 99 ≤ h0.1.length ∧ hh_L h' ∧ hh_U h0.1.length m q h0 h' ∧ h'.1[h0.1.length]? = some (.inl (0, l))
section
variable {g : tr_g} {d : Nat} {h h0 h' : ev_AH} {c : CT} {n B m q : Nat} {P : List CT} {S : Option CT} {l : List Int32}
theorem sI_w {l' : List Int32} (a : sI h0 h' m q l) : sI h0 (ev_wr h' (h0.1.length + 1000) (.inl (0, l'))) m q l' := ⟨a.1, wr_L a.2.1 a.1, hh_U_tr a.2.2.1 (hh_U_wr (Nat.le_refl _)), wr_at a.2.2.2⟩
theorem sI_ro {A : Int32 ⊕ Nat} (a : sI h0 h' m q l) : sI h0 (ro A h').2 (m + 1) (q + 6) l := by
  cases A with
  | inl v => exact ⟨a.1, a.2.1, hh_U_w a.2.2.1 (by omega) (by omega), a.2.2.2⟩
  | inr E => exact ⟨a.1, a.2.1, hh_U_tr a.2.2.1 ⟨Nat.le_refl _, Nat.le_refl _, Nat.le_refl _, fun _ _ => rfl⟩, a.2.2.2⟩
theorem sI_q (a : sI h0 h' m q l) (w : cQ h0 c n) : cQ h' c n := ⟨by rw [cC_E a.2.2.1.2.2.2 (by have := a.1; omega)]; exact w.1, w.2⟩
/-- contents -/
theorem seen_co (w : cQ h0 c n) {w3 : Option Value} : ∀ (j k : Nat) (l : List Int32) (h' : ev_AH), k + j = 35 → l.length = 120 → sI h0 h' m q l → ∃ h2, sI h0 h2 m q (sF (fun q => (ct_co c).getD (k + q) 0) (8 + k) j l) ∧ ∀ r, tr_L g (d + 15) m_L_seen 88 [some (.ref 1000), some (.ref (h0.1.length + 1000)), some (.int 35), w3] [] h2 r → tr_L g (d + 15) m_L_seen 65 [some (.ref 1000), some (.ref (h0.1.length + 1000)), some (.int (Int32.ofNat k)), w3] [] h' r := by
  intro j
  induction j with
  | zero =>
    intro k l h' hk hl a
    have e : k = 35 := by omega
    subst e
    exact ⟨h', a, fun r z => sg_L_seen_65 a.2.1 (fun _ => z) (fun t => absurd t (by decide))⟩
  | succ j ih =>
    intro k l h' hk hl a
    have r0 := op_contentOf (g := g) (d := d + 2) (x := Int32.ofNat k) a.2.1 (sI_q a w)
    rw [e_contentOf (by omega)] at r0
    have a2 := sI_w (l' := l.set (8 + k) ((ct_co c).getD k 0)) a
    obtain ⟨h2, b, z⟩ := ih (k + 1) (l.set (8 + k) ((ct_co c).getD k 0)) _ (by omega) (by rw [List.length_set]; exact hl) a2
    have key : ∀ i, sF (fun q => (ct_co c).getD (k + 1 + q) 0) (8 + (k + 1)) i (l.set (8 + k) ((ct_co c).getD k 0)) = sF (fun q => (ct_co c).getD (k + q) 0) (8 + k) (i + 1) l := by
      intro i
      induction i with
      | zero => rfl
      | succ i ih2 =>
        show (sF (fun q => (ct_co c).getD (k + 1 + q) 0) (8 + (k + 1)) i (l.set (8 + k) ((ct_co c).getD k 0))).set (8 + (k + 1) + i) ((ct_co c).getD (k + 1 + i) 0) = (sF (fun q => (ct_co c).getD (k + q) 0) (8 + k) (i + 1) l).set (8 + k + (i + 1)) ((ct_co c).getD (k + (i + 1)) 0)
        rw [ih2, show 8 + (k + 1) + i = 8 + k + (i + 1) by omega, show k + 1 + i = k + (i + 1) by omega]
    refine ⟨h2, by rw [← key]; exact b, fun r y => ?_⟩
    refine sg_L_seen_65 a.2.1 (fun t => absurd ((ii_le (a := 35) (by omega) (by omega)).mp t) (by omega)) (fun _ => ?_)
    exact sg_L_seen_71 a.2.1 (c_0 := r0) (e0 := ii_a 8 k) (m0 := a.2.2.2) (z0 := by omega) (b0 := by omega) (eh0 := rfl) (hLs0 := a2.2.1) (by rw [ii_s]; exact z r y)
/-- one cat's options -/
theorem seen_op (w : cQ h0 c n) {i : Nat} (hi : i < n) : ∀ (j k : Nat) (h' : ev_AH), k + j = 4 → l.length = 120 → sI h0 h' m q (sF (fun p => fa_X8_letterOf (ct_opt c i p)) (46 + 8 * i) k l) → ∃ h2, sI h0 h2 m q (sF (fun p => fa_X8_letterOf (ct_opt c i p)) (46 + 8 * i) 4 l) ∧ ∀ r, tr_L g (d + 15) m_L_seen 156 [some (.ref 1000), some (.ref (h0.1.length + 1000)), some (.int (Int32.ofNat i)), some (.int 4)] [] h2 r → tr_L g (d + 15) m_L_seen 128 [some (.ref 1000), some (.ref (h0.1.length + 1000)), some (.int (Int32.ofNat i)), some (.int (Int32.ofNat k))] [] h' r := by
  intro j
  have h7 := w.2.2.1
  induction j with
  | zero =>
    intro k h' hk hl a
    have e : k = 4 := by omega
    subst e
    exact ⟨h', a, fun r z => sg_L_seen_128 a.2.1 (fun _ => z) (fun t => absurd t (by decide))⟩
  | succ j ih =>
    intro k h' hk hl a
    have r0 := op_optionAt (g := g) (d := d + 2) (x := Int32.ofNat i) (y := Int32.ofNat k) a.2.1 (sI_q a w)
    rw [e_optionAt h7 hi (by omega)] at r0
    have a2 := sI_w (l' := (sF (fun p => fa_X8_letterOf (ct_opt c i p)) (46 + 8 * i) k l).set (46 + 8 * i + k) (fa_X8_letterOf (ct_opt c i k))) a
    obtain ⟨h2, b, z⟩ := ih (k + 1) _ (by omega) hl a2
    refine ⟨h2, b, fun r y => ?_⟩
    refine sg_L_seen_128 a.2.1 (fun t => absurd ((ii_le (a := 4) (by omega) (by omega)).mp t) (by omega)) (fun _ => ?_)
    have e0 : 46 + 8 * Int32.ofNat i + Int32.ofNat k = Int32.ofNat (46 + 8 * i + k) := by
      rw [show (8 : Int32) * Int32.ofNat i = Int32.ofNat (8 * i) from ii_m 8 i, show (46 : Int32) + Int32.ofNat (8 * i) = Int32.ofNat (46 + 8 * i) from ii_a 46 _, ii_a]
    exact sg_L_seen_133 a.2.1 (c_0 := r0) (e0 := e0) (m0 := a.2.2.2) (z0 := by rw [sF_len]; omega) (b0 := by rw [sF_len]; omega) (eh0 := rfl) (hLs0 := a2.2.1) (by rw [ii_s]; exact z r y)
/-- the cats -/
theorem seen_ca (w : cQ h0 c n) (hl : l.length = 120) : ∀ (j k : Nat) (h' : ev_AH) (w3 : Option Value), k + j = n → sI h0 h' m q (sC c k l) → ∃ h2 w3', sI h0 h2 m q (sC c n l) ∧ ∀ r, tr_L g (d + 15) m_L_seen 162 [some (.ref 1000), some (.ref (h0.1.length + 1000)), some (.int (Int32.ofNat n)), w3'] [] h2 r → tr_L g (d + 15) m_L_seen 90 [some (.ref 1000), some (.ref (h0.1.length + 1000)), some (.int (Int32.ofNat k)), w3] [] h' r := by
  intro j
  have h7 := w.2.2.1
  induction j with
  | zero =>
    intro k h' w3 hk a
    have e : k = n := by omega
    subst e
    have rc := op_catCount (g := g) (d := d + 14) a.2.1 (sI_q a w)
    rw [w.2.1] at rc
    exact ⟨h', w3, a, fun r z => sg_L_seen_90 a.2.1 (c_0 := rc) (fun _ => z) (fun t => absurd t Int32.lt_irrefl)⟩
  | succ j ih =>
    intro k h' w3 hk a
    have hlt : k < n := by omega
    have rc := op_catCount (g := g) (d := d + 14) a.2.1 (sI_q a w)
    rw [w.2.1] at rc
    have r0 := op_cellOf (g := g) (d := d + 2) (x := Int32.ofNat k) a.2.1 (sI_q a w)
    rw [e_cellOf h7 hlt] at r0
    have a2 := sI_w (l' := (sC c k l).set (44 + 8 * k) ((ct_ce c).getD k 0)) a
    have r1 := op_heardBy (g := g) (d := d + 2) (x := Int32.ofNat k) a2.2.1 (sI_q a2 w)
    rw [e_heardBy h7 hlt] at r1
    have a3 := sI_w (l' := ((sC c k l).set (44 + 8 * k) ((ct_ce c).getD k 0)).set (45 + 8 * k) ((ct_he c).getD k 0)) a2
    obtain ⟨h2, b, z⟩ := seen_op (g := g) (d := d) (l := ((sC c k l).set (44 + 8 * k) ((ct_ce c).getD k 0)).set (45 + 8 * k) ((ct_he c).getD k 0)) w hlt 4 0 _ (by omega) (by rw [List.length_set, List.length_set, sC_len]; exact hl) a3
    obtain ⟨h3, w3', b2, z2⟩ := ih (k + 1) h2 (some (.int 4)) (by omega) b
    refine ⟨h3, w3', b2, fun r y => ?_⟩
    refine sg_L_seen_90 a.2.1 (c_0 := rc) (fun t => absurd ((ii_le (by omega) (by omega)).mp t) (by omega)) (fun _ => ?_)
    have e8 : (8 : Int32) * Int32.ofNat k = Int32.ofNat (8 * k) := ii_m 8 k
    have e0 : 44 + 8 * Int32.ofNat k = Int32.ofNat (44 + 8 * k) := by rw [e8]; exact ii_a 44 _
    have e1 : 45 + 8 * Int32.ofNat k = Int32.ofNat (45 + 8 * k) := by rw [e8]; exact ii_a 45 _
    exact sg_L_seen_98 a.2.1 (c_0 := r0) (e0 := e0) (m0 := a.2.2.2) (z0 := by rw [sC_len]; omega) (b0 := by rw [sC_len]; omega) (eh0 := rfl) (hLs0 := a2.2.1) (c_1 := r1) (e1 := e1) (m1 := a2.2.2.2) (z1 := by rw [List.length_set, sC_len]; omega) (b1 := by rw [List.length_set, sC_len]; omega) (eh1 := rfl) (hLs1 := a3.2.1) (z _ (sg_L_seen_156 b.2.1 (by rw [ii_s]; exact z2 r y)))
/-- the verdicts -/
theorem seen_ve (w : cQ h0 c n) (hl : l.length = 120) {w3 : Option Value} : ∀ (j k m q : Nat) (h' : ev_AH), k + j = 10 → sI h0 h' m q (sF (fun k => wv (an_verdict c (Int32.ofNat k)) cd_verdictAt) 104 k l) → ∃ h2, sI h0 h2 (m + j) (q + 6 * j) (sF (fun k => wv (an_verdict c (Int32.ofNat k)) cd_verdictAt) 104 10 l) ∧ tr_L g (d + 15) m_L_seen 164 [some (.ref 1000), some (.ref (h0.1.length + 1000)), some (.int (Int32.ofNat k)), w3] [] h' (.inl (some (.ref (h0.1.length + 1000))), h2) := by
  intro j
  induction j with
  | zero =>
    intro k m q h' hk a
    have e : k = 10 := by omega
    subst e
    exact ⟨h', a, sg_L_seen_164 a.2.1 (fun _ => sg_L_seen_187 a.2.1 rfl) (fun t => absurd t (by decide))⟩
  | succ j ih =>
    intro k m q h' hk a
    have r0 := wr_verdictAt a.2.1 (op_verdict (g := g) (d := d + 1) (x := Int32.ofNat k) a.2.1 (sI_q a w)) (fun E => ax_verdict)
    have a1 := sI_ro (A := an_verdict c (Int32.ofNat k)) a
    have a2 := sI_w (l' := (sF (fun k => wv (an_verdict c (Int32.ofNat k)) cd_verdictAt) 104 k l).set (104 + k) (wv (an_verdict c (Int32.ofNat k)) cd_verdictAt)) a1
    obtain ⟨h2, b, z⟩ := ih (k + 1) (m + 1) (q + 6) _ (by omega) a2
    refine ⟨h2, ?_, ?_⟩
    · rw [show m + (j + 1) = m + 1 + j by omega, show q + 6 * (j + 1) = q + 6 + 6 * j by omega]
      exact b
    · refine sg_L_seen_164 a.2.1 (fun t => absurd ((ii_le (a := 10) (by omega) (by omega)).mp t) (by omega)) (fun _ => ?_)
      exact sg_L_seen_170 a.2.1 (c_0 := r0) (e0 := ii_a 104 k) (m0 := a1.2.2.2) (z0 := by rw [sF_len]; omega) (b0 := by rw [sF_len]; omega) (eh0 := rfl) (hLs0 := a2.2.1) (by rw [ii_s]; exact z)
theorem sp_seen (s : st h c P S B) : ∃ h2, tr_L g (d + 15) m_L_seen 0 [some (.ref 1000), none, none, none] [] h (.inl (some (.ref (h.1.length + 1000))), h2) ∧ hh_U h.1.length 11 180 h h2 ∧ h2.1[h.1.length]? = some (.inl (0, seenL c (cn c))) ∧ hh_L h2 := by
  have h9 := st_len s
  obtain ⟨hL, y, l, n, w, qv, p1, p2⟩ := s
  have q : cQ h c n := ⟨w.1, qv.1.1⟩
  rw [cv_cn qv]
  obtain ⟨h1, eh⟩ : ∃ h1, h1 = hh_push h (.inl (0, List.replicate 120 (0 : Int32))) 120 := ⟨_, rfl⟩
  have a1 : sI h h1 1 120 (List.replicate 120 (0 : Int32)) := by
    rw [eh]
    exact ⟨h9, hh_L_push hL, hh_U_push (Nat.le_refl _), push_at⟩
  have len : ∀ (l : List Int32) (i : Nat) (x : Int32), l.length = 120 → (l.set i x).length = 120 := fun l i x e => by rw [List.length_set]; exact e
  have n0 : (List.replicate 120 (0 : Int32)).length = 120 := by simp
  have k1 := op_catCount (g := g) (d := d + 14) a1.2.1 (sI_q a1 q)
  have a2 := sI_w (l' := (List.replicate 120 (0 : Int32)).set 0 (ct_i c 0)) a1
  have n1 := len _ 0 (ct_i c 0) n0
  have k2 := op_method (g := g) (d := d + 14) a2.2.1 (sI_q a2 q)
  have a3 := sI_w (l' := ((List.replicate 120 (0 : Int32)).set 0 (ct_i c 0)).set 1 (ct_i c 1)) a2
  have n2 := len _ 1 (ct_i c 1) n1
  have k3 := op_deliberations (g := g) (d := d + 14) a3.2.1 (sI_q a3 q)
  have a4 := sI_w (l' := (((List.replicate 120 (0 : Int32)).set 0 (ct_i c 0)).set 1 (ct_i c 1)).set 2 (ct_i c 2)) a3
  have n3 := len _ 2 (ct_i c 2) n2
  have k4 := op_hungCount (g := g) (d := d + 14) a4.2.1 (sI_q a4 q)
  have a5 := sI_w (l' := ((((List.replicate 120 (0 : Int32)).set 0 (ct_i c 0)).set 1 (ct_i c 1)).set 2 (ct_i c 2)).set 3 (ct_i c 3)) a4
  have n4 := len _ 3 (ct_i c 3) n3
  have k5 := op_retrials (g := g) (d := d + 14) a5.2.1 (sI_q a5 q)
  have a6 := sI_w (l' := (((((List.replicate 120 (0 : Int32)).set 0 (ct_i c 0)).set 1 (ct_i c 1)).set 2 (ct_i c 2)).set 3 (ct_i c 3)).set 4 (ct_i c 4)) a5
  have n5 := len _ 4 (ct_i c 4) n4
  have k6 := op_testimonies (g := g) (d := d + 14) a6.2.1 (sI_q a6 q)
  have a7 := sI_w (l' := ((((((List.replicate 120 (0 : Int32)).set 0 (ct_i c 0)).set 1 (ct_i c 1)).set 2 (ct_i c 2)).set 3 (ct_i c 3)).set 4 (ct_i c 4)).set 5 (ct_i c 5)) a6
  have n6 := len _ 5 (ct_i c 5) n5
  have k7 := op_hasCause (g := g) (d := d + 2) a7.2.1 (sI_q a7 q)
  have a8 := sI_w (l' := s_head c) a7
  obtain ⟨g1, b1, z1⟩ := seen_co (g := g) (d := d) q (w3 := none) 35 0 (s_head c) _ (by omega) s_head_len a8
  have e1 : sF (fun q => (ct_co c).getD (0 + q) 0) (8 + 0) 35 (s_head c) = sF (fun q => (ct_co c).getD q 0) 8 35 (s_head c) := by
    simp only [Nat.zero_add, Nat.add_zero]
  rw [e1] at b1
  have n8 : (sF (fun q => (ct_co c).getD q 0) 8 35 (s_head c)).length = 120 := by rw [sF_len, s_head_len]
  obtain ⟨g2, w3', b2, z2⟩ := seen_ca (g := g) (d := d) (l := sF (fun q => (ct_co c).getD q 0) 8 35 (s_head c)) q n8 n 0 g1 none (by omega) b1
  obtain ⟨g3, b3, z3⟩ := seen_ve (g := g) (d := d) (l := sC c n (sF (fun q => (ct_co c).getD q 0) 8 35 (s_head c))) q (by rw [sC_len, n8]) (w3 := w3') 10 0 _ _ g2 (by omega) b2
  refine ⟨g3, ?_, hh_U_w b3.2.2.1 (by omega) (by omega), b3.2.2.2, b3.2.1⟩
  have rest := z1 _ (sg_L_seen_88 b1.2.1 (z2 _ (sg_L_seen_162 b2.2.1 z3)))
  have pre := sg_L_seen_0 hL (d := d + 14) (j0 := 120) (j1 := 0) (j2 := 1) (j3 := 2) (j4 := 3) (j5 := 4) (j6 := 5) (e0 := rfl) (b0 := by omega) (eh0 := eh) (ec0 := rfl) (c_0 := k1) (e1 := rfl) (m0 := a1.2.2.2) (z0 := by omega) (b1 := by omega) (eh1 := rfl) (hLs0 := a2.2.1) (c_1 := k2) (e2 := rfl) (m1 := a2.2.2.2) (z1 := by omega) (b2 := by omega) (eh2 := rfl) (hLs1 := a3.2.1) (c_2 := k3) (e3 := rfl) (m2 := a3.2.2.2) (z2 := by omega) (b3 := by omega) (eh3 := rfl) (hLs2 := a4.2.1) (c_3 := k4) (e4 := rfl) (m3 := a4.2.2.2) (z3 := by omega) (b4 := by omega) (eh4 := rfl) (hLs3 := a5.2.1) (c_4 := k5) (e5 := rfl) (m4 := a5.2.2.2) (z4 := by omega) (b5 := by omega) (eh5 := rfl) (hLs4 := a6.2.1) (c_5 := k6) (e6 := rfl) (m5 := a6.2.2.2) (z5 := by omega) (b6 := by omega) (eh6 := rfl) (hLs5 := a7.2.1) (c_6 := k7) (r := (.inl (some (.ref (h.1.length + 1000))), g3))
  by_cases hm : ct_may c = 0
  · refine pre (fun _ => ?_) (fun t => absurd hm t)
    have eh6 : s_head c = (((((((List.replicate 120 (0 : Int32)).set 0 (ct_i c 0)).set 1 (ct_i c 1)).set 2 (ct_i c 2)).set 3 (ct_i c 3)).set 4 (ct_i c 4)).set 5 (ct_i c 5)).set 6 0 := by
      unfold s_head
      rw [if_pos hm]
    rw [eh6] at rest a8
    exact sg_L_seen_61 a7.2.1 (j0 := 6) (e0 := rfl) (m0 := a7.2.2.2) (z0 := by omega) (b0 := by omega) (eh0 := rfl) (hLs0 := a8.2.1) rest
  · refine pre (fun t => absurd t hm) (fun _ => ?_)
    have eh6 : s_head c = (((((((List.replicate 120 (0 : Int32)).set 0 (ct_i c 0)).set 1 (ct_i c 1)).set 2 (ct_i c 2)).set 3 (ct_i c 3)).set 4 (ct_i c 4)).set 5 (ct_i c 5)).set 6 1 := by
      unfold s_head
      rw [if_neg hm]
    rw [eh6] at rest a8
    exact sg_L_seen_57 a7.2.1 (j0 := 6) (e0 := rfl) (m0 := a7.2.2.2) (z0 := by omega) (b0 := by omega) (eh0 := rfl) (hLs0 := a8.2.1) rest
/-- what was seen twice alike is alike -/
theorem sp_alike {a b : Nat} (hL : hh_L h) (ha : h.1[a]? = some (.inl (0, l))) (hb : h.1[b]? = some (.inl (0, l))) (hl : l.length < 1000) : tr_L g d m_L_areAlike 0 [some (.ref (a + 1000)), some (.ref (b + 1000)), none] [] h (.inl (some (.int 1)), h) := by
  have key : ∀ j k, k + j = l.length → tr_L g d m_L_areAlike 2 [some (.ref (a + 1000)), some (.ref (b + 1000)), some (.int (Int32.ofNat k))] [] h (.inl (some (.int 1)), h) := by
    intro j
    induction j with
    | zero =>
      intro k hk
      have e : k = l.length := by omega
      subst e
      exact sg_L_areAlike_2 hL (m0 := ha) (z0 := by omega) (fun _ => sg_L_areAlike_25 hL rfl) (fun t => absurd t Int32.lt_irrefl)
    | succ j ih =>
      intro k hk
      refine sg_L_areAlike_2 hL (m0 := ha) (z0 := by omega) (fun t => absurd ((ii_le (by omega) (by omega)).mp t) (by omega)) (fun _ => ?_)
      exact sg_L_areAlike_8 hL (e0 := rfl) (m0 := ha) (z0 := by omega) (b0 := by omega) (e1 := rfl) (m1 := hb) (z1 := by omega) (b1 := by omega) (fun _ => sg_L_areAlike_19 hL (by rw [ii_s]; exact ih (k + 1) (by omega))) (fun t => absurd rfl t)
  exact sg_L_areAlike_0 hL (key l.length 0 (by omega))
end
