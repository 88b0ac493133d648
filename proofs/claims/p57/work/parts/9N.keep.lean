/-! WHAT THE CALLS KEEP; laid by a program (wip/p57/gen/gen9n.py), in part out of the rows of whole -/
section
variable {c : CT} {n : Nat}
theorem ry_res {co : Nat → Int32} : ∀ (m q w len b : Nat), q < 35 → w < 4 → (∀ z, (ry co m q w len b).1 = some (.inl z) → z < 35 ∧ co z = 99) ∧ (∀ e, (ry co m q w len b).1 = some (.inr e) → e < 24) := by
  intro m
  induction m with
  | zero =>
    intro q w len b _ _
    exact ⟨fun z h => (by cases h), fun e h => (by cases h)⟩
  | succ m ih =>
    intro q w len b hq hw
    unfold ry
    by_cases h99 : co q = 99
    · rw [if_pos h99]
      exact ⟨fun z h => by
        have h := Sum.inl.inj (Option.some.inj h)
        rw [← h]
        exact ⟨hq, h99⟩, fun e h => (by cases h)⟩
    · rw [if_neg h99]
      have hw2 : bx_refl (co q) w < 4 := bx_refl_lt hw
      by_cases hn : bx_nb q (bx_refl (co q) w) = 35
      · rw [if_pos hn]
        exact ⟨fun z h => (by cases h), fun e h => by
          have h := Sum.inr.inj (Option.some.inj h)
          rw [← h]
          exact bx_port_lt q hq _ hw2⟩
      · rw [if_neg hn]
        have := bx_lt hq hw2
        exact ih _ _ _ _ (by omega) hw2
theorem ry_or (hw : co_w c n) (h7 : n ≤ 7) (he : R_end c) {p : Nat} (hp : p < 24) : (∃ k, k < n ∧ ry_cat c n (ct_ry c p).1 = Int32.ofNat k ∧ ry_ex (ct_ry c p).1 = -1) ∨ (∃ e, e < 24 ∧ (ct_ry c p).1 = some (.inr e) ∧ ry_cat c n (ct_ry c p).1 = -1 ∧ ry_ex (ct_ry c p).1 = Int32.ofNat e) := by
  obtain ⟨f1, f2⟩ := bx_facts p hp
  have r := ry_res (co := ct_c c) 140 (bx_cell p) (bx_dir p) 0 0 f1 f2
  have h0 := he p hp
  cases hr : (ct_ry c p).1 with
  | none => exact absurd hr h0
  | some z =>
    cases z with
    | inl q =>
      obtain ⟨a1, a2⟩ := r.1 q hr
      have hc : ct_cat c n (Int32.ofNat q) < n := (hw q a1).2.mp a2
      refine Or.inl ⟨_, hc, ?_, rfl⟩
      show ii_o (ct_cat c n (Int32.ofNat q)) n = _
      rw [ii_o, if_pos hc]
    | inr e => exact Or.inr ⟨e, r.2 e hr, rfl, rfl, rfl⟩
theorem con_or {x : Int32} (h : fa_X8_isContent x ≠ 0) : x = 46 ∨ x = 47 ∨ x = 92 := by
  unfold fa_X8_isContent at h
  by_cases e1 : x = 46
  · exact Or.inl e1
  · by_cases e2 : x = 47
    · exact Or.inr (Or.inl e2)
    · by_cases e3 : x = 92
      · exact Or.inr (Or.inr e3)
      · rw [if_neg e1, if_neg e2, if_neg e3] at h
        exact absurd rfl h
theorem verd_ch : tr_ch (ct_verd c n) := by
  unfold ct_verd
  split
  · exact ⟨by decide, by decide⟩
  · exact tr_chc _
end
/-- a court whose testimonies are what its cats have heard -/
def cv (c : CT) (n B : Nat) : Prop := cw c n B ∧ ct_heard c n = ct_i c 5
theorem cv_B {c : CT} {n B B' : Nat} (h : B ≤ B') (w : cv c n B) : cv c n B' := ⟨cw_B h w.1, w.2⟩
theorem cv_cn {c : CT} {n B : Nat} (w : cv c n B) : cn c = n := cw_cn w.1
theorem cv_n {c : CT} {n B : Nat} (w : cv c n B) : cv c (cn c) B := by rw [cv_cn w]; exact w
theorem mm_sum_set1 {l : List Int32} {k : Nat} (hk : k < l.length) : ∀ n, k < n → mm_sum (fun j => (l.set k (l.getD k 0 + 1)).getD j 0) n = mm_sum (fun j => l.getD j 0) n + 1
  | 0, h => absurd h (by omega)
  | n + 1, h => by
    show mm_sum (fun j => (l.set k (l.getD k 0 + 1)).getD j 0) n + (l.set k (l.getD k 0 + 1)).getD n 0 = mm_sum (fun j => l.getD j 0) n + l.getD n 0 + 1
    by_cases e : k = n
    · subst e
      rw [getD_set_eq hk, mm_sum_congr (f' := fun j => l.getD j 0) (fun j hj => getD_set_ne (by omega)), Int32.add_assoc]
    · rw [getD_set_ne e, mm_sum_set1 hk n (by omega), Int32.add_assoc, Int32.add_assoc, Int32.add_comm 1]
theorem cv_seat {c : CT} {n B q : Nat} {x y z : Int32} (w : cv c n B) (h7 : n < 7) (hq : q < 35) (hc : ¬ ct_cat c n (Int32.ofNat q) < n) (h3 : fa_X8_areThreeOptions x y z ≠ 0) : cv (ct_seat c n q (x - 97) (y - 97) (z - 97)) (n + 1) B := by
  refine ⟨cw_seat w.1 h7 hq hc h3, ?_⟩
  have ln := w.1.2.1
  have e2 : ct_i (ct_seat c n q (x - 97) (y - 97) (z - 97)) 5 = ct_i c 5 := by
    show (((ct_in c).set 0 _).set 7 1).getD 5 0 = _
    rw [getD_set_ne (by decide), getD_set_ne (by decide)]
    rfl
  rw [e2, ← w.2]
  show mm_sum (fun k => ((ct_he c).set n 0).getD k 0) n + ((ct_he c).set n 0).getD n 0 = mm_sum (fun k => (ct_he c).getD k 0) n
  rw [getD_set_eq (by rw [ln.2.2.2.2.1]; omega), Int32.add_zero]
  exact mm_sum_congr (fun k hk => getD_set_ne (by omega))
theorem cv_chg {c : CT} {n B q : Nat} {x : Int32} (w : cv c n B) (hq : q < 35) (hc : ¬ ct_cat c n (Int32.ofNat q) < n) (hx : x = 46 ∨ x = 47 ∨ x = 92) : cv (ct_chg c q x) n B := by
  refine ⟨cw_chg w.1 hq hc hx, ?_⟩
  unfold ct_chg
  split
  · exact w.2
  · show mm_sum (fun k => (ct_he c).getD k 0) n = ((ct_in c).set 7 1).getD 5 0
    rw [getD_set_ne (by decide)]
    exact w.2
theorem cv_meth {c : CT} {n B : Nat} {x : Int32} (w : cv c n B) (hx : x = 112 ∨ x = 114 ∨ x = 115) : cv (cc_in c 1 x) n B := by
  refine ⟨cw_meth w.1 hx, ?_⟩
  show mm_sum (fun k => (ct_he c).getD k 0) n = ((ct_in c).set 1 x).getD 5 0
  rw [getD_set_ne (by decide)]
  exact w.2
theorem cv_hear {c : CT} {n B k o : Nat} (w : cv c n B) (hk : k < n) (ho : o < 4) : cv (ct_hear c k (Int32.ofNat o)) n (B + 1) := by
  refine ⟨cw_hear w.1 hk ho, ?_⟩
  have ln := w.1.2.1
  have h7 := w.1.1.2.1
  have e2 : ct_in (ct_hear c k (Int32.ofNat o)) = (ct_in c).set 5 (ct_i c 5 + 1) := by
    unfold ct_hear
    dsimp only
    split <;> rfl
  show mm_sum (fun j => ((ct_he c).set k ((ct_he c).getD k 0 + 1)).getD j 0) n = (ct_in (ct_hear c k (Int32.ofNat o))).getD 5 0
  rw [e2, getD_set_eq (by rw [ln.2.2.2.2.2.2]; omega), mm_sum_set1 (by rw [ln.2.2.2.2.1]; omega) n hk, ← w.2]
  rfl
theorem cv_conc {c : CT} {n B : Nat} {v : Int32} (w : cv c n B) (hv : tr_ch v) : cv (ct_conc c v) n (B + 1) := by
  refine ⟨cw_conc w.1 hv, ?_⟩
  have e1 : ct_he (ct_conc c v) = ct_he c := by
    unfold ct_conc
    dsimp only
    split <;> rfl
  have e2 : ct_i (ct_conc c v) 5 = ct_i c 5 := by
    unfold ct_conc
    dsimp only
    split
    · show (((((ct_in c).set 2 _).set 3 _).set 6 1).set 7 0).getD 5 0 = _
      rw [getD_set_ne (by decide), getD_set_ne (by decide), getD_set_ne (by decide), getD_set_ne (by decide)]
      rfl
    · show ((((ct_in c).set 2 _).set 6 1).set 7 0).getD 5 0 = _
      rw [getD_set_ne (by decide), getD_set_ne (by decide), getD_set_ne (by decide)]
      rfl
  rw [e2, ← w.2]
  unfold ct_heard
  rw [e1]
theorem cv_again {c : CT} {n B : Nat} (w : cv c n B) : cv (ct_again c n) n B := by
  refine ⟨cw_again w.1, ?_⟩
  show mm_sum (fun k => (ct_he c).getD k 0) n = (((ct_in c).set 4 _).set 6 0).getD 5 0
  rw [getD_set_ne (by decide), getD_set_ne (by decide)]
  exact w.2
theorem cv_cmd {c : CT} {n B : Nat} {m : Cmd} (w : cv c n B) (hc : cm_ok m) (hN : m.2.1 < 100) : ∃ n', cv (cmd1 c n m).2 n' (B + 1) := by
  obtain ⟨K, N, a, b, e⟩ := m
  obtain ⟨c1, c2, c3⟩ := hc
  simp only at c1 c2 c3 hN
  have h7 := w.1.1.2.1
  have same : ∃ n', cv c n' (B + 1) := ⟨n, cv_B (by omega) w⟩
  unfold cmd1
  split
  · split
    · exact same
    · rename_i e1
      split
      · exact same
      · rename_i e2
        split
        · exact same
        · rename_i e3
          split
          · exact same
          · rename_i e4
            exact ⟨n + 1, cv_B (by omega) (cv_seat w (by omega) (fa_cellN e1 hN) e4 e2)⟩
  · split
    · rename_i k1
      split
      · exact same
      · rename_i e1
        split
        · exact same
        · rename_i e4
          refine ⟨n, cv_B (by omega) (cv_chg w (fa_cellN e1 hN) e4 ?_)⟩
          have := c1 k1
          simp only [wCon, List.mem_cons, List.not_mem_nil, or_false] at this
          rcases this with h | h | h
          · exact Or.inr (Or.inl h)
          · exact Or.inr (Or.inr h)
          · exact Or.inl h
    · split
      · rename_i k2
        split
        · exact same
        · rename_i e1
          split
          · exact same
          · rename_i e4
            have hk : ∃ o, o < 4 ∧ a - 97 = Int32.ofNat o := by
              have := c2 k2
              simp only [wOpt, List.mem_cons, List.not_mem_nil, or_false] at this
              rcases this with rfl | rfl | rfl | rfl
              · exact ⟨0, by decide, rfl⟩
              · exact ⟨1, by decide, rfl⟩
              · exact ⟨2, by decide, rfl⟩
              · exact ⟨3, by decide, rfl⟩
            obtain ⟨o, ho, e5⟩ := hk
            rcases ry_or w.1.2.2.1 h7 (R_end_of w.1.2.2.1) (fa_portN e1 hN) with ⟨k, hk, q1, _⟩ | ⟨_, _, _, q1, _⟩
            · simp only at e4 ⊢
              rw [q1, ii_cn (by omega), e5]
              exact ⟨n, cv_hear w hk ho⟩
            · exact absurd q1 e4
      · split
        · rename_i k3
          refine ⟨n, cv_B (by omega) (cv_meth w ?_)⟩
          have := c3 k3
          simp only [wPrs, List.mem_cons, List.not_mem_nil, or_false] at this
          rcases this with h | h | h
          · exact Or.inl h
          · exact Or.inr (Or.inl h)
          · exact Or.inr (Or.inr h)
        · split
          · split
            · exact same
            · exact ⟨n, cv_conc w verd_ch⟩
          · split
            · exact same
            · exact ⟨n, cv_B (by omega) (cv_again w)⟩
theorem cv_cmd' {c : CT} {B : Nat} {m : Cmd} (w : cv c (cn c) B) (hc : cm_ok m) (hN : m.2.1 < 100) : cv (cmd1 c (cn c) m).2 (cn (cmd1 c (cn c) m).2) (B + 1) := by
  obtain ⟨n', w'⟩ := cv_cmd w hc hN
  exact cv_n w'
/-- what every command read is -/
def cK (m : Cmd) : Prop := m.1 ≤ 5 ∧ m.2.1 < 100 ∧ cm_ok m
theorem vs_cK {t : List Int32} : ∀ (cs : List Cmd) (p : Nat), vs t p cs → ∀ m ∈ cs, cK m
  | [], _, _, _, hm => by cases hm
  | c :: cs, p, v, m, hm => by
    obtain ⟨v1, v2⟩ := v
    rcases List.mem_cons.mp hm with rfl | h
    · exact ⟨rdC_kind v1, rdC_num v1, rdC_ok v1⟩
    · exact vs_cK cs _ v2 m h
theorem cms_cv : ∀ (cs : List Cmd) (c : CT) (i B : Nat), (∀ m ∈ cs, cK m) → cv c (cn c) B → cv (cms cs c i).2 (cn (cms cs c i).2) (B + cs.length)
  | [], c, i, B, _, w => w
  | m :: cs, c, i, B, hm, w => by
    have k := hm m (List.mem_cons.mpr (Or.inl rfl))
    have w1 := cv_cmd' w k.2.2 k.2.1
    unfold cms
    split
    · have := cms_cv cs _ (i + 1) (B + 1) (fun m h => hm m (List.mem_cons.mpr (Or.inr h))) w1
      rw [List.length_cons, show B + (cs.length + 1) = B + 1 + cs.length by omega]
      exact this
    · rw [List.length_cons]
      exact cv_B (by omega) w1
/-- a call's outcome: it throws and changes nothing, or it answers, keeps a court and keeps the one before -/
def dk (c : CT) (P : List CT) (B : Nat) (A : Int32 ⊕ Nat) (c' : CT) (P' : List CT) : Prop := (∃ E, A = .inr E ∧ c' = c ∧ P' = P) ∨ (∃ v n', A = .inl v ∧ tr_ch v ∧ cv c' n' (B + 60) ∧ P' = hi_push P c)
theorem ch_nat {k : Nat} (h : k < 65536) : tr_ch (Int32.ofNat k) := ⟨ii_nn (by omega), (ii_lt (b := 65536) (by omega) (by omega)).mpr h⟩
theorem mm_sum_01 {f : Nat → Prop} [DecidablePred f] : ∀ n, ∃ m, m ≤ n ∧ mm_sum (fun k => if f k then 1 else 0) n = Int32.ofNat m
  | 0 => ⟨0, Nat.le_refl _, rfl⟩
  | n + 1 => by
    obtain ⟨m, hm, e⟩ := mm_sum_01 (f := f) n
    by_cases h : f n
    · exact ⟨m + 1, by omega, by show mm_sum _ n + (if f n then 1 else 0) = _; rw [e, if_pos h, ii_s]⟩
    · exact ⟨m, by omega, by show mm_sum _ n + (if f n then 1 else 0) = _; rw [e, if_neg h, Int32.add_zero]⟩
section
variable {c : CT} {n B : Nat} {P : List CT} {y : YS}
theorem dk_add {x a b e : Int32} (w : cv c n B) : dk c P B (do_add c P y n x a b e).1 (do_add c P y n x a b e).2.1 (do_add c P y n x a b e).2.2.1 := by
  have h7 := w.1.1.2.1
  unfold do_add
  rcases idx_c (m := 35) (by omega) x with ⟨q, hq, e3, e4⟩ | ⟨e3, e4⟩
  · rw [e4]
    simp only
    by_cases k1 : fa_X8_areThreeOptions a b e = 0
    · rw [if_pos k1]; exact Or.inl ⟨_, rfl, rfl, rfl⟩
    · rw [if_neg k1]
      by_cases k2 : n = 7
      · rw [if_pos k2]; exact Or.inl ⟨_, rfl, rfl, rfl⟩
      · rw [if_neg k2]
        by_cases k3 : ct_cat c n x < n
        · rw [if_pos k3]; exact Or.inl ⟨_, rfl, rfl, rfl⟩
        · rw [if_neg k3]
          rw [e3] at k3
          have w2 := cv_seat w (by omega) hq k3 k1
          refine Or.inr ⟨_, n + 1, rfl, ?_, cv_B (by omega) w2, rfl⟩
          rw [w2.1.1.1, show (1 : Int32) = Int32.ofNat 1 from rfl, ii_u _ _ (by omega)]
          exact ch_nat (by omega)
  · rw [e3]; exact Or.inl ⟨_, rfl, rfl, rfl⟩
theorem dk_mir {x a : Int32} (w : cv c n B) : dk c P B (do_mir c P y n x a).1 (do_mir c P y n x a).2.1 (do_mir c P y n x a).2.2.1 := by
  unfold do_mir
  rcases idx_c (m := 35) (by omega) x with ⟨q, hq, e3, e4⟩ | ⟨e3, e4⟩
  · rw [e4]
    simp only
    by_cases k1 : fa_X8_isContent a = 0
    · rw [if_pos k1]; exact Or.inl ⟨_, rfl, rfl, rfl⟩
    · rw [if_neg k1]
      by_cases k3 : ct_cat c n x < n
      · rw [if_pos k3]; exact Or.inl ⟨_, rfl, rfl, rfl⟩
      · rw [if_neg k3]
        rw [e3] at k3
        refine Or.inr ⟨_, n, rfl, ?_, cv_B (by omega) (cv_chg w hq k3 (con_or k1)), rfl⟩
        obtain ⟨m, hm, em⟩ := mm_sum_01 (f := fun k => (ct_co (ct_chg c q a)).getD k 0 = 47 ∨ (ct_co (ct_chg c q a)).getD k 0 = 92) 35
        show tr_ch (mm_sum _ 35)
        rw [em]
        exact ch_nat (by omega)
  · rw [e3]; exact Or.inl ⟨_, rfl, rfl, rfl⟩
theorem dk_test {x a : Int32} (w : cv c n B) : dk c P B (do_test c P y n x a).1 (do_test c P y n x a).2.1 (do_test c P y n x a).2.2.1 := by
  have h7 := w.1.1.2.1
  unfold do_test
  rcases idx_c (m := 24) (by omega) x with ⟨p, hp, e3, e4⟩ | ⟨e3, e4⟩
  · rw [e4]
    simp only
    rcases ox_c a with ⟨o, ho, e5, e6⟩ | ⟨e5, e6⟩
    · rw [e6]
      simp only
      rcases ry_or w.1.2.2.1 h7 (R_end_of w.1.2.2.1) hp with ⟨k, hk, q1, _⟩ | ⟨_, _, _, q1, _⟩
      · rw [q1, if_neg (ii_ne1 (by omega)), ii_cn (by omega)]
        exact Or.inr ⟨_, n, rfl, ch_nat (by omega), cv_B (by omega) (cv_hear w hk ho), rfl⟩
      · rw [q1, if_pos rfl]; exact Or.inl ⟨_, rfl, rfl, rfl⟩
    · rw [e5]; exact Or.inl ⟨_, rfl, rfl, rfl⟩
  · rw [e3]; exact Or.inl ⟨_, rfl, rfl, rfl⟩
theorem dk_meth {a : Int32} (w : cv c n B) : dk c P B (do_meth c P a).1 (do_meth c P a).2.1 (do_meth c P a).2.2 := by
  unfold do_meth
  by_cases k1 : fa_X8_isMethod a = 0
  · rw [if_pos k1]; exact Or.inl ⟨_, rfl, rfl, rfl⟩
  · rw [if_neg k1]
    refine Or.inr ⟨_, n, rfl, w.1.1.2.2.1.2.2.1, cv_B (by omega) (cv_meth w ?_), rfl⟩
    unfold fa_X8_isMethod at k1
    by_cases p1 : a = 112
    · exact Or.inl p1
    · rw [if_neg p1] at k1
      by_cases p2 : a = 114
      · exact Or.inr (Or.inl p2)
      · rw [if_neg p2] at k1
        by_cases p3 : a = 115
        · exact Or.inr (Or.inr p3)
        · rw [if_neg p3] at k1
          exact absurd rfl k1
theorem dk_delib (w : cv c n B) : dk c P B (do_delib c P y n).1 (do_delib c P y n).2.1 (do_delib c P y n).2.2.1 := by
  unfold do_delib
  by_cases k1 : n = 0
  · rw [if_pos k1]; exact Or.inl ⟨_, rfl, rfl, rfl⟩
  · rw [if_neg k1]
    exact Or.inr ⟨_, n, rfl, gD_ch (ct_vote_ok w.1.1.2.2.1) 0, cv_B (by omega) (cv_conc w verd_ch), rfl⟩
theorem dk_retry (w : cv c n B) : dk c P B (do_retry c P y n).1 (do_retry c P y n).2.1 (do_retry c P y n).2.2.1 := by
  have h7 := w.1.1.2.1
  unfold do_retry
  by_cases k1 : ct_may c = 0
  · rw [if_pos k1]; exact Or.inl ⟨_, rfl, rfl, rfl⟩
  · rw [if_neg k1]
    refine Or.inr ⟨_, n, rfl, ?_, cv_B (by omega) (cv_again w), rfl⟩
    obtain ⟨m, hm, em⟩ := mm_sum_01 (f := fun k => ct_dif c k) n
    show tr_ch (mm_sum _ n)
    rw [em]
    exact ch_nat (by omega)
theorem dk_exec {t : List Int32} (w : cv c (cn c) B) : dk c P B (do_exec c P y t).1 (do_exec c P y t).2.1 (do_exec c P y t).2.2.1 := by
  unfold do_exec
  cases hA : (rdA t 60 0).2 with
  | none => exact Or.inl ⟨_, rfl, rfl, rfl⟩
  | some cs =>
    have hl := rdA_len 60 0 cs hA
    have hK := vs_cK cs 0 (rdA_vs 60 0 0 cs rfl hA)
    simp only
    cases hz : (cms cs c 0).1 with
    | none => exact Or.inr ⟨_, _, rfl, ch_nat (by omega), cv_B (by omega) (cms_cv cs c 0 B hK w), rfl⟩
    | some z =>
      simp only
      split
      · exact Or.inl ⟨_, rfl, rfl, rfl⟩
      · exact Or.inl ⟨_, rfl, rfl, rfl⟩
end
theorem hi_x {P : List CT} {c : CT} : ∃ X, hi_push P c = X ++ [c] ∧ ∀ e ∈ X, e ∈ P := by
  unfold hi_push
  split
  · exact ⟨P, rfl, fun _ h => h⟩
  · exact ⟨P.drop 1, rfl, fun _ h => List.mem_of_mem_drop h⟩
theorem ax_catIn {c : CT} {n : Nat} {x : Int32} {E : Nat} (h : an_catIn c n x = .inr E) : E = 0 ∨ E = 3 := by
  unfold an_catIn at h
  repeat' split at h
  all_goals first | (have h := Sum.inr.inj h; subst h; decide) | cases h
theorem ax_contentOf {c : CT} {x : Int32} {E : Nat} (h : an_contentOf c x = .inr E) : E = 0 := by
  unfold an_contentOf at h
  repeat' split at h
  all_goals first | (have h := Sum.inr.inj h; subst h; decide) | cases h
theorem ax_optionAt {c : CT} {n : Nat} {x : Int32} {z : Int32} {E : Nat} (h : an_optionAt c n x z = .inr E) : E = 0 ∨ E = 1 := by
  unfold an_optionAt at h
  repeat' split at h
  all_goals first | (have h := Sum.inr.inj h; subst h; decide) | cases h
theorem ax_placeOf {c : CT} {n : Nat} {x : Int32} {z : Int32} {E : Nat} (h : an_placeOf c n x z = .inr E) : E = 0 ∨ E = 1 := by
  unfold an_placeOf at h
  repeat' split at h
  all_goals first | (have h := Sum.inr.inj h; subst h; decide) | cases h
theorem ax_heardBy {c : CT} {n : Nat} {x : Int32} {E : Nat} (h : an_heardBy c n x = .inr E) : E = 0 := by
  unfold an_heardBy at h
  repeat' split at h
  all_goals first | (have h := Sum.inr.inj h; subst h; decide) | cases h
theorem ax_cellOf {c : CT} {n : Nat} {x : Int32} {E : Nat} (h : an_cellOf c n x = .inr E) : E = 0 := by
  unfold an_cellOf at h
  repeat' split at h
  all_goals first | (have h := Sum.inr.inj h; subst h; decide) | cases h
theorem ax_rayEnd {c : CT} {x : Int32} {E : Nat} (h : an_rayEnd c x = .inr E) : E = 1 ∨ E = 3 := by
  unfold an_rayEnd at h
  repeat' split at h
  all_goals first | (have h := Sum.inr.inj h; subst h; decide) | cases h
theorem ax_rayJoin {c : CT} {x : Int32} {E : Nat} (h : an_rayJoin c x = .inr E) : E = 1 ∨ E = 3 := by
  unfold an_rayJoin at h
  repeat' split at h
  all_goals first | (have h := Sum.inr.inj h; subst h; decide) | cases h
theorem ax_rayCat {c : CT} {n : Nat} {x : Int32} {E : Nat} (h : an_rayCat c n x = .inr E) : E = 1 ∨ E = 3 := by
  unfold an_rayCat at h
  repeat' split at h
  all_goals first | (have h := Sum.inr.inj h; subst h; decide) | cases h
theorem ax_rayLength {c : CT} {x : Int32} {E : Nat} (h : an_rayLength c x = .inr E) : E = 1 := by
  unfold an_rayLength at h
  repeat' split at h
  all_goals first | (have h := Sum.inr.inj h; subst h; decide) | cases h
theorem ax_rayBounces {c : CT} {x : Int32} {E : Nat} (h : an_rayBounces c x = .inr E) : E = 1 := by
  unfold an_rayBounces at h
  repeat' split at h
  all_goals first | (have h := Sum.inr.inj h; subst h; decide) | cases h
theorem ax_effort {fw : CT → Nat → Nat → Nat} {c : CT} {n : Nat} {x : Int32} {z : Int32} {E : Nat} (h : an_effort fw c n x z = .inr E) : E = 0 ∨ E = 1 ∨ E = 3 := by
  unfold an_effort at h
  repeat' split at h
  all_goals first | (have h := Sum.inr.inj h; subst h; decide) | cases h
theorem ax_portBy {c : CT} {x : Int32} {E : Nat} (h : an_portBy c x = .inr E) : E = 3 := by
  unfold an_portBy at h
  repeat' split at h
  all_goals first | (have h := Sum.inr.inj h; subst h; decide) | cases h
theorem ax_prefer {c : CT} {n : Nat} {x : Int32} {z : Int32} {E : Nat} (h : an_prefer c n x z = .inr E) : E = 1 := by
  unfold an_prefer at h
  repeat' split at h
  all_goals first | (have h := Sum.inr.inj h; subst h; decide) | cases h
theorem ax_win {fw : CT → Nat → Nat} {c : CT} {n : Nat} {E : Nat} (h : an_win fw c n = .inr E) : E = 3 := by
  unfold an_win at h
  repeat' split at h
  all_goals first | (have h := Sum.inr.inj h; subst h; decide) | cases h
theorem ax_strength {c : CT} {n : Nat} {x : Int32} {z : Int32} {E : Nat} (h : an_strength c n x z = .inr E) : E = 1 := by
  unfold an_strength at h
  repeat' split at h
  all_goals first | (have h := Sum.inr.inj h; subst h; decide) | cases h
theorem ax_tried {c : CT} {n : Nat} {x : Int32} {z : Int32} {E : Nat} (h : an_tried c n x z = .inr E) : E = 1 := by
  unfold an_tried at h
  repeat' split at h
  all_goals first | (have h := Sum.inr.inj h; subst h; decide) | cases h
theorem ax_dominant {c : CT} {n : Nat} {x : Int32} {E : Nat} (h : an_dominant c n x = .inr E) : E = 1 := by
  unfold an_dominant at h
  repeat' split at h
  all_goals first | (have h := Sum.inr.inj h; subst h; decide) | cases h
theorem ax_verdict {c : CT} {x : Int32} {E : Nat} (h : an_verdict c x = .inr E) : E = 3 := by
  unfold an_verdict at h
  repeat' split at h
  all_goals first | (have h := Sum.inr.inj h; subst h; decide) | cases h
theorem ax_catBy {c : CT} {n : Nat} {x : Int32} {E : Nat} (h : an_catBy c n x = .inr E) : E = 3 := by
  unfold an_catBy at h
  repeat' split at h
  all_goals first | (have h := Sum.inr.inj h; subst h; decide) | cases h
theorem ax_add {c : CT} {P : List CT} {y : YS} {n : Nat} {x a b e : Int32} {E : Nat} (h : (do_add c P y n x a b e).1 = .inr E) : E = 0 ∨ E = 1 ∨ E = 2 := by
  unfold do_add at h
  repeat' split at h
  all_goals (try dsimp only at h)
  all_goals first | (have h := Sum.inr.inj h; subst h; decide) | cases h
theorem ax_mir {c : CT} {P : List CT} {y : YS} {n : Nat} {x a : Int32} {E : Nat} (h : (do_mir c P y n x a).1 = .inr E) : E = 0 ∨ E = 1 ∨ E = 2 := by
  unfold do_mir at h
  repeat' split at h
  all_goals (try dsimp only at h)
  all_goals first | (have h := Sum.inr.inj h; subst h; decide) | cases h
theorem ax_test {c : CT} {P : List CT} {y : YS} {n : Nat} {x a : Int32} {E : Nat} (h : (do_test c P y n x a).1 = .inr E) : E = 1 ∨ E = 2 := by
  unfold do_test at h
  repeat' split at h
  all_goals (try dsimp only at h)
  all_goals first | (have h := Sum.inr.inj h; subst h; decide) | cases h
theorem ax_meth {c : CT} {P : List CT} {a : Int32} {E : Nat} (h : (do_meth c P a).1 = .inr E) : E = 1 := by
  unfold do_meth at h
  repeat' split at h
  all_goals (try dsimp only at h)
  all_goals first | (have h := Sum.inr.inj h; subst h; decide) | cases h
theorem ax_delib {c : CT} {P : List CT} {y : YS} {n : Nat} {E : Nat} (h : (do_delib c P y n).1 = .inr E) : E = 2 := by
  unfold do_delib at h
  repeat' split at h
  all_goals (try dsimp only at h)
  all_goals first | (have h := Sum.inr.inj h; subst h; decide) | cases h
theorem ax_retry {c : CT} {P : List CT} {y : YS} {n : Nat} {E : Nat} (h : (do_retry c P y n).1 = .inr E) : E = 2 := by
  unfold do_retry at h
  repeat' split at h
  all_goals (try dsimp only at h)
  all_goals first | (have h := Sum.inr.inj h; subst h; decide) | cases h
theorem ax_app {t : List Int32} {x : Int32} {E : Nat} (h : (do_app t x).1 = .inr E) : E = 1 ∨ E = 5 := by
  unfold do_app at h
  repeat' split at h
  all_goals (try dsimp only at h)
  all_goals first | (have h := Sum.inr.inj h; subst h; decide) | cases h
theorem ax_exec {c : CT} {P : List CT} {y : YS} {t : List Int32} {E : Nat} (h : (do_exec c P y t).1 = .inr E) : E = 1 ∨ E = 2 ∨ E = 5 := by
  unfold do_exec at h
  repeat' split at h
  all_goals (try dsimp only at h)
  all_goals first | (have h := Sum.inr.inj h; subst h; decide) | cases h
theorem ax_row {c : CT} {n : Nat} {x : Int32} {E : Nat} (h : (an_row c n x).1 = .inr E) : E = 0 := by
  unfold an_row at h
  repeat' split at h
  all_goals (try dsimp only at h)
  all_goals first | (have h := Sum.inr.inj h; subst h; decide) | cases h
theorem ro_L {A : Int32 ⊕ Nat} {h : ev_AH} (hL : hh_L (ro A h).2) : hh_L h := by
  cases A with
  | inl v => exact hL
  | inr E => exact hL
