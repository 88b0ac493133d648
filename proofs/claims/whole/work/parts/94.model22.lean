/-! THE MODEL: retries in the making -/
def rt_p (l : List Int32) (k : Nat) : Nat → List Int32
  | 0 => l
  | p + 1 => (rt_p l k p).set (54 + 10 * k + (2 + p)) ((rt_p l k p).getD (54 + 10 * k + (6 + p)) 0)
def rt_k (l : List Int32) : Nat → List Int32
  | 0 => l
  | k + 1 => rt_p (rt_k l k) k 4
theorem rt_p_len {l : List Int32} {k : Nat} : ∀ p, (rt_p l k p).length = l.length
  | 0 => rfl
  | p + 1 => by rw [rt_p, List.length_set, rt_p_len p]
theorem rt_k_len {l : List Int32} : ∀ k, (rt_k l k).length = l.length
  | 0 => rfl
  | k + 1 => by rw [rt_k, rt_p_len, rt_k_len k]
theorem rt_p_get {l : List Int32} {k : Nat} (hl : l.length = 124) (hk : k < 7) : ∀ p, p ≤ 4 → ∀ z, (rt_p l k p).getD z 0 = if 54 + 10 * k + 2 ≤ z ∧ z < 54 + 10 * k + 2 + p then l.getD (z + 4) 0 else l.getD z 0
  | 0, _, z => by rw [rt_p, if_neg (by omega)]
  | p + 1, hp, z => by
    have ih := rt_p_get hl hk p (by omega)
    rw [rt_p, gs (by rw [rt_p_len]; omega), ih, ih, if_neg (show ¬ (54 + 10 * k + 2 ≤ 54 + 10 * k + (6 + p) ∧ 54 + 10 * k + (6 + p) < 54 + 10 * k + 2 + p) by omega)]
    by_cases e : 54 + 10 * k + (2 + p) = z
    · rw [if_pos e, if_pos (by omega)]
      congr 1
      omega
    · rw [if_neg e]
      by_cases e2 : 54 + 10 * k + 2 ≤ z ∧ z < 54 + 10 * k + 2 + p
      · rw [if_pos e2, if_pos (by omega)]
      · rw [if_neg e2, if_neg (by omega)]
theorem rt_k_out {l : List Int32} (hl : l.length = 124) : ∀ k, k ≤ 7 → ∀ z, (∀ j, j < k → ¬ (54 + 10 * j + 2 ≤ z ∧ z < 54 + 10 * j + 6)) → (rt_k l k).getD z 0 = l.getD z 0
  | 0, _, z, _ => rfl
  | k + 1, hk, z, h => by
    rw [rt_k, rt_p_get (by rw [rt_k_len]; exact hl) (by omega) 4 (by omega), if_neg (by have := h k (by omega); omega)]
    exact rt_k_out hl k (by omega) z (fun j hj => h j (by omega))
theorem rt_k_in {l : List Int32} (hl : l.length = 124) : ∀ k, k ≤ 7 → ∀ j p, j < k → p < 4 → (rt_k l k).getD (54 + 10 * j + 2 + p) 0 = l.getD (54 + 10 * j + 6 + p) 0
  | 0, _, j, p, h, _ => absurd h (by omega)
  | k + 1, hk, j, p, hj, hp => by
    rw [rt_k, rt_p_get (by rw [rt_k_len]; exact hl) (by omega) 4 (by omega)]
    by_cases e : j = k
    · subst e
      rw [if_pos (by omega), rt_k_out hl j (by omega) _ (fun i hi => by omega)]
      congr 1
      omega
    · rw [if_neg (by omega)]
      exact rt_k_in hl k (by omega) j p (by omega) hp
section
variable {g : tr_g} {d : Nat} {h h' : ev_AH} {c : CT} {n B : Nat}
theorem sp_retM (hL : hh_L h) (q : mQ h c n) (w : cw c n B) (h12 : hh_i h 99 12 = 0) : ∃ h', tr_L g (d + 3) m_X9_retries 0 [some (.ref 1099), none, none, none, none] [] h (.inl (some (.int (if ct_may c = 0 then 0 else ct_chgd c n))), h') ∧ mO h h' (om_ret c n) := by
  have h7 := q.2.2.1
  have rc := sp_caused (g := g) (d := d + 2) hL q
  have e2 := q.1.2.1.2.2.1
  unfold om_ret
  by_cases hm : ct_may c = 0
  · rw [if_pos hm, if_pos hm]
    rw [hm] at rc
    have r1 := sp_rej1 (g := g) (d := d + 1) (x1 := 5) (x2 := ct_i c 2) (x3 := 1) hL
    exact ⟨_, sg_X9_retries_0 hL (d := d + 2) rc (fun t => absurd rfl t) (fun _ => sg_X9_retries_8 hL (d := d + 2) (j0 := 2) rfl (by omega) (by rw [e2]; exact r1) (fun t => absurd t (by decide)) (fun _ => sg_X9_retries_27 r1.2 rfl)), mO_rej hL (mRc_n q)⟩
  · rw [if_neg hm, if_neg hm]
    have r1 := sp_rej0 (g := g) (d := d + 1) (x1 := 5) (x2 := ct_i c 2) (x3 := 1) hL
    have m1 := mT_set (x := 0) hL
    have q1 := mQ_T m1 q
    have L1 := r1.2
    have ok0 : ∀ {h9 : ev_AH} {o9 : Int32 × Int32 × Int32 × CT}, mO (hh_si h 99 8 7 0) h9 o9 → mO h h9 o9 := fun b => mO_T m1 b
    have e7 := m1.2.1
    have e12 : hh_i (hh_si h 99 8 7 0) 99 12 = 0 := by rw [m1.2.2 12 (by omega)]; exact h12
    have pre : ∀ r', tr_L g (d + 3) m_X9_retries 33 [some (.ref 1099), some (.int 0), some (.int 0), none, none] [] (hh_si h 99 8 7 0) r' → tr_L g (d + 3) m_X9_retries 0 [some (.ref 1099), none, none, none, none] [] h r' := fun r' z => sg_X9_retries_0 hL (d := d + 2) rc (fun _ => sg_X9_retries_12 hL (d := d + 2) (j0 := 2) rfl (by omega) (by rw [e2]; exact r1) (fun _ => sg_X9_retries_29 L1 z) (fun t => absurd rfl t)) (fun t => absurd t hm)
    generalize hh_si h 99 8 7 0 = H at pre ok0 e7 e12 q1 L1
    have ls : (hh_a H 100).length = 124 := q1.1.1
    have en := m_n q1
    have ea := hs_a L1
    have es : ∀ l l', hh_sa (hh_sa H 100 0 l) 100 0 l' = hh_sa H 100 0 l' := fun l l' => hs_s l l'
    have eH := hs_id L1
    have mcat := q1.1.2.2.2.2
    -- one cat
    have inner : ∀ k, k < n → ∀ m p, p + m = 4 → ∀ (x1 : Int32) res, (∀ w4, tr_L g (d + 3) m_X9_retries 109 [some (.ref 1099), some (.int x1), some (.int (Int32.ofNat k)), some (.int (if ct_dif c k then 1 else 0)), w4] [] (hh_sa H 100 0 (rt_k (hh_a H 100) (k + 1))) res) → tr_L g (d + 3) m_X9_retries 48 [some (.ref 1099), some (.int x1), some (.int (Int32.ofNat k)), some (.int (if ct_difp c k p then 1 else 0)), some (.int (Int32.ofNat p))] [] (hh_sa H 100 0 (rt_p (rt_k (hh_a H 100) k) k p)) res := by
      intro k hk m
      induction m with
      | zero =>
        intro p hp x1 res kk
        have : p = 4 := by omega
        subst this
        have LL := hs_L (l := rt_p (rt_k (hh_a H 100) k) k 4) L1 (by rw [rt_p_len, rt_k_len]; exact ls)
        exact sg_X9_retries_48 LL (fun _ => kk _) (fun t => lp_end t)
      | succ m ih =>
        intro p hp x1 res kk
        have hp4 : p < 4 := by omega
        have hl : (rt_p (rt_k (hh_a H 100) k) k p).length = 124 := by rw [rt_p_len, rt_k_len]; exact ls
        have LL := hs_L L1 hl
        have o1 := sp_of (g := g) (d := d + 2) (k := k) (w := 2 + p) LL (by omega) (by omega)
        have o2 := sp_of (g := g) (d := d + 2) (k := k) (w := 6 + p) LL (by omega) (by omega)
        rw [ea] at o1 o2
        have v1 : (rt_p (rt_k (hh_a H 100) k) k p).getD (54 + 10 * k + (2 + p)) 0 = ct_opt c k p := by
          rw [rt_p_get (by rw [rt_k_len]; exact ls) (by omega) p (by omega), if_neg (by omega), rt_k_out ls k (by omega) _ (fun j hj => by omega), show 54 + 10 * k + (2 + p) = 54 + 10 * k + 2 + p by omega, ((mcat k hk).2.2 p hp4).1]
          rfl
        have v2 : (rt_p (rt_k (hh_a H 100) k) k p).getD (54 + 10 * k + (6 + p)) 0 = (ct_fi c).getD (4 * k + p) 0 := by
          rw [rt_p_get (by rw [rt_k_len]; exact ls) (by omega) p (by omega), if_neg (by omega), rt_k_out ls k (by omega) _ (fun j hj => by omega), show 54 + 10 * k + (6 + p) = 54 + 10 * k + 6 + p by omega, ((mcat k hk).2.2 p hp4).2]
        have t1 := sp_setsL (g := g) (d := d + 2) (k := k) (w := 2 + p) (v := (rt_p (rt_k (hh_a H 100) k) k p).getD (54 + 10 * k + (6 + p)) 0) L1 hl (by omega) (by omega)
        have a2 : (2 : Int32) + Int32.ofNat p = Int32.ofNat (2 + p) := by rw [show (2 : Int32) = Int32.ofNat 2 from rfl, ii_a]
        have a6 : (6 : Int32) + Int32.ofNat p = Int32.ofNat (6 + p) := by rw [show (6 : Int32) = Int32.ofNat 6 from rfl, ii_a]
        have z := ih (p + 1) (by omega) x1 res kk
        refine sg_X9_retries_48 LL (fun t => lp_no hp4 (by omega) t) (fun _ => sg_X9_retries_54 LL (d := d + 2) (by rw [a2]; exact o1) (by rw [a6]; exact o2) (fun t => ?_) (fun t => ?_))
        · rw [v1, v2] at t
          have ed : ct_difp c k (p + 1) = ct_difp c k p := by
            unfold ct_difp
            apply decide_eq_decide.mpr
            constructor
            · rintro ⟨j, hj, hne⟩
              refine ⟨j, ?_, hne⟩
              by_cases hjp : j = p
              · subst hjp
                exact absurd t hne
              · omega
            · rintro ⟨j, hj, hne⟩
              exact ⟨j, by omega, hne⟩
          rw [ed] at z
          refine sg_X9_retries_81 LL (d := d + 2) (by rw [a6]; exact o2) (by rw [a2]; exact t1) ?_
          rw [ii_s, Int32.or_zero]
          exact z
        · rw [v1, v2] at t
          have ed : ct_difp c k (p + 1) = true := by
            unfold ct_difp
            exact decide_eq_true ⟨p, by omega, t⟩
          rw [ed] at z
          refine sg_X9_retries_77 LL (d := d + 2) (by rw [a6]; exact o2) (by rw [a2]; exact t1) ?_
          have : (if ct_difp c k p = true then (1 : Int32) else 0) ||| 1 = if true = true then 1 else 0 := by split <;> rfl
          rw [ii_s, this]
          exact z
    have outer : ∀ m k, k + m = n → ∀ (w3 w4 : Option Value) res, (∀ w3 w4, tr_L g (d + 3) m_X9_retries 127 [some (.ref 1099), some (.int (ct_chgd c n)), some (.int (Int32.ofNat n)), w3, w4] [] (hh_sa H 100 0 (rt_k (hh_a H 100) n)) res) → tr_L g (d + 3) m_X9_retries 33 [some (.ref 1099), some (.int (ct_chgd c k)), some (.int (Int32.ofNat k)), w3, w4] [] (hh_sa H 100 0 (rt_k (hh_a H 100) k)) res := by
      intro m
      induction m with
      | zero =>
        intro k hk w3 w4 res kk
        have : k = n := by omega
        subst this
        have LL := hs_L (l := rt_k (hh_a H 100) k) L1 (by rw [rt_k_len]; exact ls)
        have e1 : (hh_a (hh_sa H 100 0 (rt_k (hh_a H 100) k)) 100).getD 1 0 = Int32.ofNat k := by rw [ea, rt_k_out ls k (by omega) _ (fun j hj => by omega)]; exact en
        exact sg_X9_retries_33 LL (j0 := 1) rfl (by omega) (fun _ => kk _ _) (fun t => by rw [e1] at t; exact lp_end t)
      | succ m ih =>
        intro k hk w3 w4 res kk
        have hkn : k < n := by omega
        have LL := hs_L (l := rt_k (hh_a H 100) k) L1 (by rw [rt_k_len]; exact ls)
        have L9 := hs_L (l := rt_k (hh_a H 100) (k + 1)) L1 (by rw [rt_k_len]; exact ls)
        have e1 : (hh_a (hh_sa H 100 0 (rt_k (hh_a H 100) k)) 100).getD 1 0 = Int32.ofNat n := by rw [ea, rt_k_out ls k (by omega) _ (fun j hj => by omega)]; exact en
        have z := inner k hkn 4 0 (by omega) (ct_chgd c k) res
        have e0 : ct_difp c k 0 = false := by
          unfold ct_difp
          exact decide_eq_false (fun ⟨j, hj, _⟩ => absurd hj (by omega))
        rw [e0] at z
        have y := ih (k + 1) (by omega)
        have es1 : ct_chgd c (k + 1) = ct_chgd c k + (if ct_dif c k then 1 else 0) := rfl
        rw [es1] at y
        refine sg_X9_retries_33 LL (j0 := 1) rfl (by omega) (fun t => by rw [e1] at t; exact lp_no hkn (by omega) t) (fun _ => sg_X9_retries_43 LL (z (fun w4 => ?_)))
        by_cases hd : ct_dif c k
        · rw [if_pos hd] at y ⊢
          refine sg_X9_retries_109 L9 (fun t => absurd t (by decide)) (fun _ => sg_X9_retries_114 L9 ?_)
          rw [ii_s]
          exact y _ _ res kk
        · rw [if_neg hd] at y ⊢
          refine sg_X9_retries_109 L9 (fun _ => sg_X9_retries_118 L9 ?_) (fun t => absurd rfl t)
          rw [ii_s]
          exact y _ _ res kk
    have hl : (rt_k (hh_a H 100) n).length = 124 := by rw [rt_k_len]; exact ls
    have LL := hs_L L1 hl
    have w' := cw_again w
    have ro : ∀ z, z < 56 → (rt_k (hh_a H 100) n).getD z 0 = (hh_a H 100).getD z 0 := fun z hz => rt_k_out ls n h7 z (fun j hj => by omega)
    have mm : mR (((rt_k (hh_a H 100) n).set 6 0).set 4 (((rt_k (hh_a H 100) n).set 6 0).getD 4 0 + 1)) (ct_again c n) n := by
      have g : ∀ z, (((rt_k (hh_a H 100) n).set 6 0).set 4 (((rt_k (hh_a H 100) n).set 6 0).getD 4 0 + 1)).getD z 0 = if 4 = z then (hh_a H 100).getD 4 0 + 1 else if 6 = z then 0 else (rt_k (hh_a H 100) n).getD z 0 := fun z => by
        rw [gs (by simp; omega), gs (by omega), gs (by omega), if_neg (show ¬ 6 = 4 by omega), ro 4 (by omega)]
      refine mR_again w.2.1 h7 q1.1 (by simp; exact hl) ?_ ?_ (fun z hz h4 h6 => ?_) (fun k hk => ⟨?_, ?_, fun p hp => ⟨?_, ?_⟩⟩)
      · rw [g, if_neg (by omega), if_pos rfl]
      · rw [g, if_pos rfl]
      · rw [g, if_neg (by omega), if_neg (by omega)]
        exact ro z (by omega)
      · rw [g, if_neg (by omega), if_neg (by omega)]
        exact rt_k_out ls n h7 _ (fun j hj => by omega)
      · rw [g, if_neg (by omega), if_neg (by omega)]
        exact rt_k_out ls n h7 _ (fun j hj => by omega)
      · rw [g, if_neg (by omega), if_neg (by omega)]
        exact rt_k_in ls n h7 k p hk hp
      · rw [g, if_neg (by omega), if_neg (by omega)]
        exact rt_k_out ls n h7 _ (fun j hj => by omega)
    have z := outer n 0 (by omega) none none (.inl (some (.int (ct_chgd c n))), hh_sa H 100 0 (((rt_k (hh_a H 100) n).set 6 0).set 4 (((rt_k (hh_a H 100) n).set 6 0).getD 4 0 + 1))) (fun w3 w4 => sg_X9_retries_127 LL (j0 := 6) (j1 := 4) (j2 := 4) rfl (by omega) rfl (by omega) rfl (by omega) (by simp only [ea, es]))
    rw [show rt_k (hh_a H 100) 0 = hh_a H 100 from rfl, eH] at z
    exact ⟨_, pre _ z, ok0 (mO_ok L1 e7 e12 (mRc_of mm w'.1.1 h7))⟩
end
