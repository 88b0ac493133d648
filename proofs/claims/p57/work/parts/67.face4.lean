/-! THE FACE: calls that change the court -/
abbrev YS : Type := Int32 × Int32 × Int32 × Int32
/-- what the class's cells say: court, kept courts, snapshot, (why, detail, cause, offset), output, input -/
def CI (h : ev_AH) (c : CT) (P : List CT) (S : Option CT) (y : YS) (l t : List Int32) : Prop := cC h 1 = c ∧ (∃ o, hi_R h o P) ∧ (hh_i h 0 11 = bI S.isSome ∧ ∀ e, S = some e → cC h 8 = e) ∧ (hh_i h 0 13 = y.1 ∧ hh_i h 0 14 = y.2.1 ∧ hh_i h 0 15 = y.2.2.1 ∧ hh_i h 0 12 = y.2.2.2) ∧ sbo h l ∧ ∃ p k n a b e, xs h t p k n a b e ∧ xc a b e
/-- the model's cells, and out, are as they were; what was made is bounded -/
def hh_M (m n : Nat) (h h' : ev_AH) : Prop := h.1.length ≤ h'.1.length ∧ h'.2.1 ≤ h.2.1 + m ∧ h'.2.2 ≤ h.2.2 + n ∧ ∀ k : Nat, 99 ≤ k → ∀ c, h.1[k]? = some c → hk_ok c → h'.1[k]? = some c
theorem hh_M_F {ks : List Nat} {h h' : ev_AH} (a : hh_F ks h h') (hk : ∀ k ∈ ks, k < 99) : hh_M 0 0 h h' := ⟨by rw [a.1]; exact Nat.le_refl _, by rw [a.2.1]; exact Nat.le_refl _, by rw [a.2.1]; exact Nat.le_refl _, fun k h1 c hc _ => by rw [a.2.2 k (fun hk' => absurd (hk k hk') (by omega))]; exact hc⟩
theorem hh_M_G {ks : List Nat} {m n : Nat} {h h' : ev_AH} (a : hh_G ks m n h h') : hh_M m n h h' := ⟨a.1, a.2.1, a.2.2.1, a.2.2.2.2⟩
theorem hh_M_tr {m n m' n' : Nat} {h1 h2 h3 : ev_AH} (a : hh_M m n h1 h2) (b : hh_M m' n' h2 h3) : hh_M (m + m') (n + n') h1 h3 := ⟨Nat.le_trans a.1 b.1, by have := a.2.1; have := b.2.1; omega, by have := a.2.2.1; have := b.2.2.1; omega, fun k h1 c hc hk => b.2.2.2 k h1 c (a.2.2.2 k h1 c hc hk) hk⟩
theorem hh_M_w {m n m' n' : Nat} {h1 h2 : ev_AH} (a : hh_M m n h1 h2) (hm : m ≤ m') (hn : n ≤ n') : hh_M m' n' h1 h2 := ⟨a.1, Nat.le_trans a.2.1 (by omega), Nat.le_trans a.2.2.1 (by omega), a.2.2.2⟩
theorem hh_M_x {h : ev_AH} : hh_M 1 6 h (hh_x h) := ⟨Nat.le_refl _, Nat.le_refl _, Nat.le_refl _, fun _ _ _ hc _ => hc⟩
theorem hh_M_rf {h : ev_AH} : hh_M 0 0 h h := ⟨Nat.le_refl _, Nat.le_refl _, Nat.le_refl _, fun _ _ _ hc _ => hc⟩
theorem ro_M {m n : Nat} {h h' : ev_AH} {A : Int32 ⊕ Nat} (a : hh_M m n h h') : hh_M (m + 1) (n + 6) h (ro A h').2 := by
  cases A with
  | inl v => exact hh_M_w a (by omega) (by omega)
  | inr E => exact hh_M_tr a hh_M_x
section
variable {g : tr_g} {d : Nat} {h h' : ev_AH} {c : CT} {n : Nat} {P : List CT} {S : Option CT} {y : YS} {l t : List Int32}
theorem CI_x (a : CI h c P S y l t) : CI (hh_x h) c P S y l t := a
theorem xs_F {ks : List Nat} {p : Nat} {k n a b e : Int32} (hF : hh_F ks h h') (h1 : 93 ∉ ks) (h2 : 94 ∉ ks) (h3 : 95 ∉ ks) (h4 : ∀ j ∈ ks, j < 99) (x : xs h t p k n a b e) : xs h' t p k n a b e := by
  obtain ⟨s0, s1, s2, s3, s4, s5, s6⟩ := x
  refine ⟨sb_F hF h2 h3 h4 s0, ?_, ?_, ?_, ?_, ?_, ?_⟩ <;> rw [hh_F_i hF h1] <;> assumption
/-- cells of work rows, of the model and of out may change -/
theorem CI_F {ks : List Nat} (hF : hh_F ks h h') (hk : ∀ k ∈ ks, ((80 ≤ k ∧ k ≤ 92) ∨ 98 ≤ k) ∧ k < 99) (a : CI h c P S y l t) : CI h' c P S y l t := by
  obtain ⟨a1, ⟨o, a2⟩, ⟨a3, a4⟩, ⟨y1, y2, y3, y4⟩, a5, p, k, m, e1, e2, e3, a6, a7⟩ := a
  have nk : ∀ j, (j < 80 ∨ (93 ≤ j ∧ j < 98)) → j ∉ ks := fun j hj hm => by have := hk j hm; omega
  refine ⟨by rw [cC_F hF (fun j hj => nk _ (by omega))]; exact a1, ⟨o, hi_R_F hF (fun j h1 h2 => nk j (by omega)) a2⟩, ⟨by rw [hh_F_i hF (nk _ (by omega))]; exact a3, fun e he => by rw [cC_F hF (fun j hj => nk _ (by omega))]; exact a4 e he⟩, ⟨?_, ?_, ?_, ?_⟩, sbo_F hF (nk _ (by omega)) (nk _ (by omega)) (fun j hj => (hk j hj).2) a5, p, k, m, e1, e2, e3, xs_F hF (nk _ (by omega)) (nk _ (by omega)) (nk _ (by omega)) (fun j hj => (hk j hj).2) a6, a7⟩
  all_goals rw [hh_F_i hF (nk _ (by omega))]; assumption
theorem CI_W (hF : hh_F kW h h') (a : CI h c P S y l t) : CI h' c P S y l t := CI_F hF (by decide) a
/-- the court alone changes -/
theorem CI_c {c' : CT} (hF : hh_F kC h h') (e : cC h' 1 = c') (a : CI h c P S y l t) : CI h' c' P S y l t := by
  obtain ⟨a1, ⟨o, a2⟩, ⟨a3, a4⟩, ⟨y1, y2, y3, y4⟩, a5, p, k, m, e1, e2, e3, a6, a7⟩ := a
  have nk : ∀ j, (j = 0 ∨ 8 ≤ j) → j ∉ kC := fun j hj hm => by simp at hm; omega
  refine ⟨e, ⟨o, hi_R_F hF (fun j h1 h2 => nk j (by omega)) a2⟩, ⟨by rw [hh_F_i hF (nk _ (by omega))]; exact a3, fun e he => by rw [cC_F hF (fun j hj => nk _ (by omega))]; exact a4 e he⟩, ⟨?_, ?_, ?_, ?_⟩, sbo_F hF (nk _ (by omega)) (nk _ (by omega)) (by decide) a5, p, k, m, e1, e2, e3, xs_F hF (nk _ (by omega)) (nk _ (by omega)) (nk _ (by omega)) (by decide) a6, a7⟩
  all_goals rw [hh_F_i hF (nk _ (by omega))]; assumption
/-- the kept courts alone change -/
theorem CI_P {P' : List CT} {ks : List Nat} {o : Nat} (hF : hh_F ks h h') (hk : ∀ k ∈ ks, 15 ≤ k ∧ k < 80) (e : hi_R h' o P') (a : CI h c P S y l t) : CI h' c P' S y l t := by
  obtain ⟨a1, _, ⟨a3, a4⟩, ⟨y1, y2, y3, y4⟩, a5, p, k, m, e1, e2, e3, a6, a7⟩ := a
  have nk : ∀ j, (j < 15 ∨ 80 ≤ j) → j ∉ ks := fun j hj hm => by have := hk j hm; omega
  refine ⟨by rw [cC_F hF (fun j hj => nk _ (by omega))]; exact a1, ⟨o, e⟩, ⟨by rw [hh_F_i hF (nk _ (by omega))]; exact a3, fun e he => by rw [cC_F hF (fun j hj => nk _ (by omega))]; exact a4 e he⟩, ⟨?_, ?_, ?_, ?_⟩, sbo_F hF (nk _ (by omega)) (nk _ (by omega)) (fun j hj => by have := hk j hj; omega) a5, p, k, m, e1, e2, e3, xs_F hF (nk _ (by omega)) (nk _ (by omega)) (nk _ (by omega)) (fun j hj => by have := hk j hj; omega) a6, a7⟩
  all_goals rw [hh_F_i hF (nk _ (by omega))]; assumption
/-- the output alone changes -/
theorem CI_o {l' : List Int32} (hF : hh_F [96, 97] h h') (e : sbo h' l') (a : CI h c P S y l t) : CI h' c P S y l' t := by
  obtain ⟨a1, ⟨o, a2⟩, ⟨a3, a4⟩, ⟨y1, y2, y3, y4⟩, a5, p, k, m, e1, e2, e3, a6, a7⟩ := a
  have nk : ∀ j, (j < 96 ∨ 98 ≤ j) → j ∉ [96, 97] := fun j hj hm => by simp at hm; omega
  refine ⟨by rw [cC_F hF (fun j hj => nk _ (by omega))]; exact a1, ⟨o, hi_R_F hF (fun j h1 h2 => nk j (by omega)) a2⟩, ⟨by rw [hh_F_i hF (nk _ (by omega))]; exact a3, fun e he => by rw [cC_F hF (fun j hj => nk _ (by omega))]; exact a4 e he⟩, ⟨?_, ?_, ?_, ?_⟩, e, p, k, m, e1, e2, e3, xs_F hF (nk _ (by omega)) (nk _ (by omega)) (nk _ (by omega)) (by decide) a6, a7⟩
  all_goals rw [hh_F_i hF (nk _ (by omega))]; assumption
/-- the script alone changes -/
theorem CI_t {ks : List Nat} {p : Nat} {t' : List Int32} {k m a b e : Int32} (hF : hh_F ks h h') (hk : ∀ j ∈ ks, j = 93 ∨ j = 94 ∨ j = 95) (x : xs h' t' p k m a b e) (x2 : xc a b e) (w : CI h c P S y l t) : CI h' c P S y l t' := by
  obtain ⟨a1, ⟨o, a2⟩, ⟨a3, a4⟩, ⟨y1, y2, y3, y4⟩, a5, _⟩ := w
  have nk : ∀ j, (j < 93 ∨ 96 ≤ j) → j ∉ ks := fun j hj hm => by have := hk j hm; omega
  refine ⟨by rw [cC_F hF (fun j hj => nk _ (by omega))]; exact a1, ⟨o, hi_R_F hF (fun j h1 h2 => nk j (by omega)) a2⟩, ⟨by rw [hh_F_i hF (nk _ (by omega))]; exact a3, fun e he => by rw [cC_F hF (fun j hj => nk _ (by omega))]; exact a4 e he⟩, ⟨?_, ?_, ?_, ?_⟩, sbo_F hF (nk _ (by omega)) (nk _ (by omega)) (fun j hj => by have := hk j hj; omega) a5, p, k, m, a, b, e, x, x2⟩
  all_goals rw [hh_F_i hF (nk _ (by omega))]; assumption
/-- fields of the face change -/
theorem CI_0 {S' : Option CT} {y' : YS} (hF : hh_F [0] h h') (s1 : hh_i h' 0 11 = bI S'.isSome) (s2 : ∀ e, S' = some e → cC h 8 = e) (z : hh_i h' 0 13 = y'.1 ∧ hh_i h' 0 14 = y'.2.1 ∧ hh_i h' 0 15 = y'.2.2.1 ∧ hh_i h' 0 12 = y'.2.2.2) (w : CI h c P S y l t) : CI h' c P S' y' l t := by
  obtain ⟨a1, ⟨o, a2⟩, _, _, a5, p, k, m, e1, e2, e3, a6, a7⟩ := w
  have nk : ∀ j, 1 ≤ j → j ∉ [0] := fun j hj hm => by simp at hm; omega
  exact ⟨by rw [cC_F hF (fun j hj => nk _ (by omega))]; exact a1, ⟨o, hi_R_F hF (fun j h1 h2 => nk j (by omega)) a2⟩, ⟨s1, fun e he => by rw [cC_F hF (fun j hj => nk _ (by omega))]; exact s2 e he⟩, z, sbo_F hF (nk _ (by omega)) (nk _ (by omega)) (by decide) a5, p, k, m, e1, e2, e3, xs_F hF (nk _ (by omega)) (nk _ (by omega)) (nk _ (by omega)) (by decide) a6, a7⟩
theorem ht0 : hh_t[0]? = some (.inr (0, [1001, 1008, 1015, 1080, 1081, 1083, 1086, 1089, 1093, 1096, 1098, 0, 0, 0, 0, 0])) := rfl
/-- a rejection is noted -/
theorem sp_rejc {x1 x2 : Int32} (hL : hh_L h) (w : CI h c P S y l t) : ∃ h', tr_L g d m_X8_reject 0 [some (.ref 1000), some (.int x1), some (.int x2)] [] h (.inl none, h') ∧ hh_F [0] h h' ∧ CI h' c P S (x1, x2, y.2.2) l t := by
  have L1 := hh_L_si (sl := 13) (x := x1) hL ht0 rfl
  have F : hh_F [0] h (hh_si (hh_si h 0 0 13 x1) 0 0 14 x2) := hh_F_tr (h2 := hh_si h 0 0 13 x1) (hh_F_si (by decide)) (hh_F_si (by decide))
  refine ⟨_, sg_X8_reject_0 hL rfl, F, ?_⟩
  have e : ∀ j, hh_i (hh_si (hh_si h 0 0 13 x1) 0 0 14 x2) 0 j = if 14 = j then x2 else if 13 = j then x1 else hh_i h 0 j := fun j => by
    rw [hh_i_sis L1 ht0 (by decide), hh_i_sis hL ht0 (by decide)]
  have w' := w
  obtain ⟨_, _, ⟨a3, a4⟩, ⟨y1, y2, y3, y4⟩, _⟩ := w'
  exact CI_0 F (by rw [e, if_neg (by decide), if_neg (by decide)]; exact a3) a4 ⟨by rw [e, if_neg (by decide), if_pos rfl], by rw [e, if_pos rfl], by rw [e, if_neg (by decide), if_neg (by decide)]; exact y3, by rw [e, if_neg (by decide), if_neg (by decide)]; exact y4⟩ w
theorem kS_r {j : Nat} (hj : j < 9) : ∀ k ∈ 15 :: kS j, 15 ≤ k ∧ k < 80 := fun k hk => by
  simp at hk
  omega
/-- the court is kept -/
theorem sp_keepc (hL : hh_L h) (w : CI h c P S y l t) (ok : ct_ok c) : ∃ h', tr_L g (d + 3) m_X3_keep 0 [some (.ref 1015), some (.ref 1001)] [] h (.inl none, h') ∧ hh_M 0 0 h h' ∧ CI h' c (hi_push P c) S y l t := by
  obtain ⟨o, hr⟩ := w.2.1
  have hlt : (o + P.length) % 9 < 9 := Nat.mod_lt _ (by decide)
  obtain ⟨h', o', r1, r2, r3⟩ := sp_keep (g := g) (d := d) hL w.1 ok hr
  exact ⟨h', r1, hh_M_F r2 (fun k hk => by have := kS_r hlt k hk; omega), CI_P r2 (kS_r hlt) r3 w⟩
theorem CI_q {h' : ev_AH} {P' : List CT} {S' : Option CT} {y' : YS} {l' t' : List Int32} (w : CI h' c P' S' y' l' t') (q : cQ h c n) : cQ h' c n := ⟨w.1, q.2⟩
theorem kC99 : ∀ k ∈ kC, k < 99 := by decide
theorem kW99 : ∀ k ∈ kW, k < 99 := by decide
/-! addCat -/
def do_add (c : CT) (P : List CT) (y : YS) (n : Nat) (x a b e : Int32) : (Int32 ⊕ Nat) × CT × List CT × YS := match idx 35 x with
  | none => (.inr 0, c, P, y)
  | some q => if fa_X8_areThreeOptions a b e = 0 then (.inr 1, c, P, y) else if n = 7 then (.inr 2, c, P, (1, 7, y.2.2)) else if ct_cat c n x < n then (.inr 2, c, P, (2, Int32.ofNat (ct_cat c n x), y.2.2)) else (.inl (ct_i (ct_seat c n q (a - 97) (b - 97) (e - 97)) 0 - 1), ct_seat c n q (a - 97) (b - 97) (e - 97), hi_push P c, y)
theorem op_add {x a b e : Int32} (hL : hh_L h) (w : CI h c P S y l t) (q : cQ h c n) : ∃ h', hh_M 0 0 h h' ∧ tr_L g (d + 12) m_X8_addCat 0 [some (.ref 1000), some (.int x), some (.int a), some (.int b), some (.int e), none] [] h (ro (do_add c P y n x a b e).1 h') ∧ CI h' (do_add c P y n x a b e).2.1 (do_add c P y n x a b e).2.2.1 S (do_add c P y n x a b e).2.2.2 l t := by
  have r := rq_cell (g := g) (d := d + 10) (x := x) hL
  have h7 := q.2.2.1
  unfold do_add
  rcases idx_c (m := 35) (by omega) x with ⟨k, hk, e3, e4⟩ | ⟨e3, e4⟩
  · simp only [e4]
    have r1 := sa_X8_areThreeOptions (g := g) (d := d + 10) (x0 := a) (x1 := b) (x2 := e) hL
    by_cases h3 : fa_X8_areThreeOptions a b e = 0
    · simp only [if_pos h3]
      exact ⟨h, hh_M_rf, sg_X8_addCat_0 hL (d := d + 11) (r.2 k e4) r1 (fun z => absurd h3 z) (fun _ => sg_X8_addCat_14 hL rfl), w⟩
    · simp only [if_neg h3]
      have r2 := sp_reasonCat (g := g) (d := d + 8) (x := x) hL q.1 q.2.1 h7
      have pre : ∀ r', tr_L g (d + 12) m_X8_addCat 24 [some (.ref 1000), some (.int x), some (.int a), some (.int b), some (.int e), none] [] h r' → tr_L g (d + 12) m_X8_addCat 0 [some (.ref 1000), some (.int x), some (.int a), some (.int b), some (.int e), none] [] h r' := fun r' z => sg_X8_addCat_0 hL (d := d + 11) (r.2 k e4) r1 (fun _ => z) (fun z => absurd z h3)
      by_cases hn : n = 7
      · simp only [if_pos hn]
        rw [if_pos hn] at r2
        obtain ⟨h1, s1, F1, w1⟩ := sp_rejc (g := g) (d := d + 11) (x1 := 1) (x2 := 7) hL w
        exact ⟨h1, hh_M_F F1 (by decide), pre _ (sg_X8_addCat_24 hL (d := d + 11) r2 (fun z => absurd z (by decide)) (fun _ => sg_X8_addCat_39 hL (fun z => absurd rfl z) (fun _ => sg_X8_addCat_48 hL (d := d + 11) s1 rfl))), w1⟩
      · simp only [if_neg hn]
        rw [if_neg hn] at r2
        by_cases hc : ct_cat c n x < n
        · simp only [if_pos hc]
          rw [if_pos hc] at r2
          have f := sp_findCat (g := g) (d := d + 10) (x := x) hL q.1 q.2.1 h7
          rw [ii_o, if_pos hc] at f
          obtain ⟨h1, s1, F1, w1⟩ := sp_rejc (g := g) (d := d + 11) (x1 := 2) (x2 := Int32.ofNat (ct_cat c n x)) hL w
          exact ⟨h1, hh_M_F F1 (by decide), pre _ (sg_X8_addCat_24 hL (d := d + 11) r2 (fun z => absurd z (by decide)) (fun _ => sg_X8_addCat_39 hL (fun _ => sg_X8_addCat_53 hL (d := d + 11) f s1 rfl) (fun z => absurd z (by decide)))), w1⟩
        · simp only [if_neg hc]
          rw [if_neg hc] at r2
          obtain ⟨h1, s1, M1, w1⟩ := sp_keepc (g := g) (d := d + 8) hL w q.2.2.2.1
          obtain ⟨h2, s2, F2, c2⟩ := sp_seat (g := g) (d := d + 9) (x := a) (y := b) (z := e) s1.2 w1.1 q.2.1 h7 (show k < 1000 by omega)
          have e6 : hh_i h2 1 6 = ct_i (ct_seat c n k (a - 97) (b - 97) (e - 97)) 0 := by rw [← c2]; rfl
          refine ⟨h2, hh_M_tr M1 (hh_M_F F2 kC99), pre _ (sg_X8_addCat_24 hL (d := d + 11) r2 (fun _ => sg_X8_addCat_74 hL (d := d + 11) s1 (by rw [e3]; exact s2) (by rw [e6]; rfl)) (fun z => absurd rfl z)), CI_c F2 c2 w1⟩
  · simp only [e3]
    exact ⟨h, hh_M_rf, sx_X8_addCat_0_1 (h1 := h) hL (cx := r.1 e3) (hr := rfl), w⟩
/-! setMirror -/
def do_mir (c : CT) (P : List CT) (y : YS) (n : Nat) (x a : Int32) : (Int32 ⊕ Nat) × CT × List CT × YS := match idx 35 x with
  | none => (.inr 0, c, P, y)
  | some q => if fa_X8_isContent a = 0 then (.inr 1, c, P, y) else if ct_cat c n x < n then (.inr 2, c, P, (2, Int32.ofNat (ct_cat c n x), y.2.2)) else (.inl (ct_mir (ct_chg c q a)), ct_chg c q a, hi_push P c, y)
theorem op_mir {x a : Int32} (hL : hh_L h) (w : CI h c P S y l t) (q : cQ h c n) (ha : tr_ch a) : ∃ h', hh_M 0 0 h h' ∧ tr_L g (d + 12) m_X8_setMirror 0 [some (.ref 1000), some (.int x), some (.int a), none] [] h (ro (do_mir c P y n x a).1 h') ∧ CI h' (do_mir c P y n x a).2.1 (do_mir c P y n x a).2.2.1 S (do_mir c P y n x a).2.2.2 l t := by
  have r := rq_cell (g := g) (d := d + 10) (x := x) hL
  have h7 := q.2.2.1
  unfold do_mir
  rcases idx_c (m := 35) (by omega) x with ⟨k, hk, e3, e4⟩ | ⟨e3, e4⟩
  · simp only [e4]
    have r1 := sa_X8_isContent (g := g) (d := d + 11) (x0 := a) hL
    by_cases h3 : fa_X8_isContent a = 0
    · simp only [if_pos h3]
      exact ⟨h, hh_M_rf, sg_X8_setMirror_0 hL (d := d + 11) (r.2 k e4) r1 (fun z => absurd h3 z) (fun _ => sg_X8_setMirror_11 hL rfl), w⟩
    · simp only [if_neg h3]
      have r2 := sp_reasonMirror (g := g) (d := d + 9) (x := x) hL q.1 q.2.1 h7
      have pre : ∀ r', tr_L g (d + 12) m_X8_setMirror 21 [some (.ref 1000), some (.int x), some (.int a), none] [] h r' → tr_L g (d + 12) m_X8_setMirror 0 [some (.ref 1000), some (.int x), some (.int a), none] [] h r' := fun r' z => sg_X8_setMirror_0 hL (d := d + 11) (r.2 k e4) r1 (fun _ => z) (fun z => absurd z h3)
      by_cases hc : ct_cat c n x < n
      · simp only [if_pos hc]
        rw [if_pos hc] at r2
        have f := sp_findCat (g := g) (d := d + 10) (x := x) hL q.1 q.2.1 h7
        rw [ii_o, if_pos hc] at f
        obtain ⟨h1, s1, F1, w1⟩ := sp_rejc (g := g) (d := d + 11) (x1 := 2) (x2 := Int32.ofNat (ct_cat c n x)) hL w
        exact ⟨h1, hh_M_F F1 (by decide), pre _ (sg_X8_setMirror_21 hL (d := d + 11) r2 (fun z => absurd z (by decide)) (fun _ => sg_X8_setMirror_34 hL (d := d + 11) f s1 rfl)), w1⟩
      · simp only [if_neg hc]
        rw [if_neg hc] at r2
        obtain ⟨h1, s1, M1, w1⟩ := sp_keepc (g := g) (d := d + 8) hL w q.2.2.2.1
        obtain ⟨h2, s2, F2, c2⟩ := sp_change (g := g) (d := d + 10) (x := a) s1.2 w1.1 (show k < 1000 by omega) ha q.2.2.2.1.1
        have s3 := sp_countMirrors (g := g) (d := d + 11) s2.2 c2
        exact ⟨h2, hh_M_tr M1 (hh_M_F F2 kC99), pre _ (sg_X8_setMirror_21 hL (d := d + 11) r2 (fun _ => sg_X8_setMirror_57 hL (d := d + 11) s1 (by rw [e3]; exact s2) s3 rfl) (fun z => absurd rfl z)), CI_c F2 c2 w1⟩
  · simp only [e3]
    exact ⟨h, hh_M_rf, sx_X8_setMirror_0_1 (h1 := h) hL (cx := r.1 e3) (hr := rfl), w⟩
end
