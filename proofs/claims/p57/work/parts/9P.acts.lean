/-! THE LAW: what it adds, types and does; laid by a program (wip/p57/gen/gen9p.py) -/
theorem ea_eq {h h' : ev_AH} {k : Nat} (e : h'.1[k]? = h.1[k]?) : hh_a h' k = hh_a h k := by unfold hh_a; rw [e]
theorem ev_eq {h h' : ev_AH} {k : Nat} (e : h'.1[k]? = h.1[k]?) : hh_v h' k = hh_v h k := by unfold hh_v; rw [e]
theorem ei_eq {h h' : ev_AH} {k sl : Nat} (e : h'.1[k]? = h.1[k]?) : hh_i h' k sl = hh_i h k sl := by unfold hh_i hh_v; rw [e]
theorem sb_E {h h' : ev_AH} {k : Nat} {l : List Int32} (e : ∀ j, j < h.1.length → h'.1[j]? = h.1[j]?) (hk : k < h.1.length) (s : sb h k l) : sb h' k l := by
  obtain ⟨s1, s2, a, b, s3, s4, s5⟩ := s
  have ha := (List.getElem?_eq_some_iff.mp s4).1
  exact ⟨by rw [ei_eq (e k hk)]; exact s1, by rw [ei_eq (e k hk)]; exact s2, a, b, by rw [ev_eq (e k hk)]; exact s3, by rw [e a ha]; exact s4, s5⟩
theorem cC_E {h h' : ev_AH} {k : Nat} (e : ∀ j, j < h.1.length → h'.1[j]? = h.1[j]?) (hk : k + 6 < h.1.length) : cC h' k = cC h k := by
  unfold cC
  rw [ea_eq (e (k + 1) (by omega)), ea_eq (e (k + 2) (by omega)), ea_eq (e (k + 3) (by omega)), ea_eq (e (k + 4) (by omega)), ea_eq (e (k + 5) (by omega)), ea_eq (e (k + 6) (by omega))]
  simp only [ei_eq (e k (by omega))]
section
variable {g : tr_g} {d : Nat} {h h' h1 h2 : ev_AH} {c : CT} {n B N : Nat} {P : List CT} {S : Option CT} {y : YS} {l t : List Int32}
theorem CI_E (e : ∀ j, j < h.1.length → h'.1[j]? = h.1[j]?) (hl : 99 ≤ h.1.length) (w : CI h c P S y l t) : CI h' c P S y l t := by
  obtain ⟨a1, ⟨o, o1, o2, o3, o4, o5⟩, ⟨a3, a4⟩, ⟨y1, y2, y3, y4⟩, ⟨a5, a5'⟩, p, k, m, e1, e2, e3, ⟨x0, x1, x2, x3, x4, x5, x6⟩, a7⟩ := w
  refine ⟨by rw [cC_E e (by omega)]; exact a1, ⟨o, o1, o2, by rw [ei_eq (e 15 (by omega))]; exact o3, by rw [ei_eq (e 15 (by omega))]; exact o4, fun i z hz => ?_⟩, ⟨by rw [ei_eq (e 0 (by omega))]; exact a3, fun z hz => by rw [cC_E e (by omega)]; exact a4 z hz⟩, ⟨?_, ?_, ?_, ?_⟩, ⟨sb_E e (by omega) a5, by rw [ev_eq (e 96 (by omega))]; exact a5'⟩, p, k, m, e1, e2, e3, ⟨sb_E e (by omega) x0, ?_, ?_, ?_, ?_, ?_, ?_⟩, a7⟩
  · rw [cC_E e (by have := Nat.mod_lt (o + i) (show 9 > 0 by omega); omega)]
    exact o5 i z hz
  all_goals rw [ei_eq (e _ (by omega))]; assumption
theorem st_len (s : st h c P S B) : 99 ≤ h.1.length := by
  have := hh_L_lt s.1 (k := 98) (by omega)
  omega
theorem st_U {m q : Nat} (s : st h c P S B) (U : hh_U h.1.length m q h h') (hL : hh_L h') : st h' c P S B := by
  have hl := st_len s
  obtain ⟨_, y, l, n, w, z⟩ := s
  exact ⟨hL, y, l, n, CI_E U.2.2.2 hl w, z⟩
theorem hh_M_U {m q : Nat} (U : hh_U h.1.length m q h h') : hh_M m q h h' := ⟨U.1, U.2.1, U.2.2.1, fun k _ z hz _ => by rw [U.2.2.2 k (List.getElem?_eq_some_iff.mp hz).1]; exact hz⟩
theorem ds_M {m q a : Nat} (z : ds N h a t) (M : hh_M m q h h') (h9 : 99 ≤ N) : ds N h' a t := by
  obtain ⟨e, vs, s1, s2, s3, s4, s5, s6, s7, s8⟩ := z
  exact ⟨e, vs, M.2.2.2 a (by omega) _ s1 trivial, s2, s3, M.2.2.2 e (by omega) _ s4 s7, s5, s6, s7, s8⟩
theorem sd_m {a k : Nat} (s : sdc N h a t k) : ∃ vs, h.1[a]? = some (.inr (9, vs)) := by
  obtain ⟨e, b, z, s1, _⟩ := s
  exact ⟨_, s1⟩
/-! a cat with three different options -/
def lp : Nat → Nat → Nat → Nat → Nat → Bool
  | 0, _, _, _, _ => false
  | m + 1, a, b, t, p => if t = a ∨ t = b then lp m a b (t + 1) p else if 0 < p then lp m a b (t + 1) (p - 1) else true
theorem lp_all : ∀ a, a < 4 → ∀ b, b < 4 → ∀ p, p < 2 → lp 7 a b 0 p = true := by decide +kernel
theorem adds_lp {x1 : Int32} {w2 : Option Value} (hL : hh_L h) : ∀ (m a b t p : Nat), a < 4 → b < 4 → t + m < 100 → p < 100 → lp m a b t p = true → ∃ t' w6, ∀ r, tr_L g d m_L_adds 75 [some (.ref 1000), some (.int x1), w2, some (.int (Int32.ofNat a)), some (.int (Int32.ofNat b)), some (.int (Int32.ofNat t')), w6] [] h r → tr_L g d m_L_adds 28 [some (.ref 1000), some (.int x1), w2, some (.int (Int32.ofNat a)), some (.int (Int32.ofNat b)), some (.int (Int32.ofNat t)), some (.int (Int32.ofNat p))] [] h r := by
  intro m
  induction m with
  | zero => intro a b t p _ _ _ _ hp; cases hp
  | succ m ih =>
    intro a b t p ha hb ht hp hl
    unfold lp at hl
    by_cases h1 : t = a
    · rw [if_pos (Or.inl h1)] at hl
      obtain ⟨t', w6, k⟩ := ih a b (t + 1) p ha hb (by omega) hp hl
      refine ⟨t', w6, fun r z => ?_⟩
      have k := k r z
      have e : Int32.ofNat t = Int32.ofNat a := by rw [h1]
      exact sg_L_adds_28 hL (fun _ => sg_L_adds_46 hL (fun _ => sg_L_adds_61 hL (by rw [ii_s, Int32.sub_zero]; exact k)) (fun q => absurd e q)) (fun q => absurd e q)
    · have e1 : Int32.ofNat t ≠ Int32.ofNat a := fun e => h1 ((ii_eq (by omega) (by omega)).mp e)
      by_cases h2 : t = b
      · rw [if_pos (Or.inr h2)] at hl
        obtain ⟨t', w6, k⟩ := ih a b (t + 1) p ha hb (by omega) hp hl
        refine ⟨t', w6, fun r z => ?_⟩
        have k := k r z
        have e : Int32.ofNat t = Int32.ofNat b := by rw [h2]
        exact sg_L_adds_28 hL (fun q => absurd q e1) (fun _ => sg_L_adds_34 hL (fun _ => sg_L_adds_46 hL (fun q => absurd q e1) (fun _ => sg_L_adds_54 hL (fun q => absurd e q) (fun _ => sg_L_adds_61 hL (by rw [ii_s, Int32.sub_zero]; exact k)))) (fun q => absurd e q))
      · have e2 : Int32.ofNat t ≠ Int32.ofNat b := fun e => h2 ((ii_eq (by omega) (by omega)).mp e)
        rw [if_neg (fun q => q.elim h1 h2)] at hl
        by_cases h3 : 0 < p
        · rw [if_pos h3] at hl
          obtain ⟨t', w6, k⟩ := ih a b (t + 1) (p - 1) ha hb (by omega) (by omega) hl
          refine ⟨t', w6, fun r z => ?_⟩
          have k := k r z
          have e3 : Int32.ofNat p - 1 = Int32.ofNat (p - 1) := ii_u p 1 h3
          exact sg_L_adds_28 hL (fun q => absurd q e1) (fun _ => sg_L_adds_34 hL (fun q => absurd q e2) (fun _ => sg_L_adds_41 hL (fun q => absurd ((ii_le (b := 0) (by omega) (by omega)).mp q) (by omega)) (fun _ => sg_L_adds_46 hL (fun q => absurd q e1) (fun _ => sg_L_adds_54 hL (fun _ => sg_L_adds_65 hL (by rw [ii_s, e3]; exact k)) (fun q => absurd q e2)))))
        · refine ⟨t, some (.int (Int32.ofNat p)), fun r z => ?_⟩
          exact sg_L_adds_28 hL (fun q => absurd q e1) (fun _ => sg_L_adds_34 hL (fun q => absurd q e2) (fun _ => sg_L_adds_41 hL (fun _ => z) (fun q => absurd ((ii_lt (a := 0) (by omega) (by omega)).mp q) h3)))
theorem adds_e : ∀ n, n < 25 → (Int32.ofNat n - Int32.ofNat n / 4 * 4 = Int32.ofNat (n % 4)) ∧ ((((Int32.ofNat n - Int32.ofNat n / 4 * 4) + 1) + ((Int32.ofNat n / 4) - (Int32.ofNat n / 4) / 3 * 3)) - (((Int32.ofNat n - Int32.ofNat n / 4 * 4) + 1) + ((Int32.ofNat n / 4) - (Int32.ofNat n / 4) / 3 * 3)) / 4 * 4 = Int32.ofNat ((n % 4 + 1 + n / 4 % 3) % 4)) ∧ ((Int32.ofNat n / 12) - (Int32.ofNat n / 12) / 2 * 2 = Int32.ofNat (n / 12 % 2)) := by decide +kernel
theorem ac_adds {x : Int32} {k : Nat} (hk : k < 25) (s : st h c P S B) : ∃ h2 v c2 P2, tr_L g (d + 14) m_L_adds 0 [some (.ref 1000), some (.int x), some (.int (Int32.ofNat k)), none, none, none, none] [] h (.inl (some (.int v)), h2) ∧ hh_M 1 6 h h2 ∧ st h2 c2 P2 S (B + 60) ∧ did c P v c2 P2 := by
  obtain ⟨e1, e2, e3⟩ := adds_e k hk
  obtain ⟨t', w6, kk⟩ := adds_lp (g := g) (d := d + 14) (x1 := x) (w2 := some (.int (Int32.ofNat k))) s.1 7 (k % 4) ((k % 4 + 1 + k / 4 % 3) % 4) 0 (k / 12 % 2) (by omega) (by omega) (by omega) (by omega) (lp_all _ (by omega) _ (by omega) _ (by omega))
  obtain ⟨h2, v, c2, P2, r, M, s2, dd⟩ := ac_addCat (g := g) (d := d) (x := x) (a := (((97 + Int32.ofNat (k % 4)).toUInt32 % 65536).toInt32)) (b := (((97 + Int32.ofNat ((k % 4 + 1 + k / 4 % 3) % 4)).toUInt32 % 65536).toInt32)) (e := (((97 + Int32.ofNat t').toUInt32 % 65536).toInt32)) s
  refine ⟨h2, v, c2, P2, sg_L_adds_0 s.1 ?_, M, s2, dd⟩
  rw [e1] at e2
  rw [e1, e2, e3]
  exact kk _ (sg_L_adds_75 s.1 (c_0 := r) (hr := rfl))
/-! a text that was made is typed and carried out -/
def pr (x : Int32) : Prop := ¬ (x < 32 ∨ 126 < x)
theorem does_lp (hg : ev_cat1 g.2 = true) {a : Nat} (h9 : 99 ≤ N) (ht : t.length ≤ 24) (hp : ∀ x ∈ t, pr x) : ∀ (m k M0 : Nat) (h : ev_AH), k + m = t.length → M0 + 60 * m < 100000 → hh_L h → CI h c P S y l (t.take k) → ds N h a t → ∃ h' M', M' < 100000 ∧ hh_L h' ∧ hh_M m (100 * m) h h' ∧ CI h' c P S y l t ∧ ∀ r, tr_L g (d + 15) m_L_does 30 [some (.ref 1000), some (.ref (a + 1000)), some (.int (Int32.ofNat M')), some (.int (Int32.ofNat t.length))] [] h' r → tr_L g (d + 15) m_L_does 4 [some (.ref 1000), some (.ref (a + 1000)), some (.int (Int32.ofNat M0)), some (.int (Int32.ofNat k))] [] h r := by
  intro m
  induction m with
  | zero =>
    intro k M0 h hk hM hL w z
    have e : k = t.length := by omega
    subst e
    rw [List.take_length] at w
    have zy := ds_sy (g := g) z
    have rl := sy_len (g := g) (d := d + 13) hL zy
    obtain ⟨_, vs, zm, _⟩ := zy
    exact ⟨h, M0, by omega, hL, hh_M_rf, w, fun r q => sg_L_does_4 hL (m0 := zm) (c_0 := rl) (fun _ => q) (fun q => absurd q Int32.lt_irrefl)⟩
  | succ m ih =>
    intro k M0 h hk hM hL w z
    have hlt : k < t.length := by omega
    have zy := ds_sy (g := g) z
    have rl := sy_len (g := g) (d := d + 13) hL zy
    have rc := sy_at (g := g) (d := d + 11) hL hg zy hlt
    obtain ⟨_, vs, zm, _⟩ := zy
    obtain ⟨h1, M1, r1, w1⟩ := op_app (g := g) (d := d + 2) (x := t.getD k 0) hL w
    have hx : t.getD k 0 ∈ t := by
      rw [List.getD, List.getElem?_eq_getElem hlt]
      exact List.getElem_mem hlt
    have tl : (t.take k).length = k := by rw [List.length_take]; omega
    have e5 : t.take k ++ [t.getD k 0] = t.take (k + 1) := by
      rw [List.take_add_one, List.getD, List.getElem?_eq_getElem hlt]
      rfl
    have ed : do_app (t.take k) (t.getD k 0) = (.inl (Int32.ofNat (k + 1)), t.take (k + 1)) := by
      unfold do_app
      rw [if_neg (hp _ hx), if_pos (by omega), tl, e5]
    rw [ed] at r1 w1
    obtain ⟨h2, M', k1, k2, k3, k4, k5⟩ := ih (k + 1) (M0 + (k + 1)) h1 (by omega) (by omega) r1.2 w1 (ds_M z M1 h9)
    refine ⟨h2, M', k1, k2, hh_M_w (hh_M_tr M1 k3) (by omega) (by omega), k4, fun r q => ?_⟩
    refine sg_L_does_4 hL (m0 := zm) (c_0 := rl) (fun q => absurd ((ii_le (by omega) (by omega)).mp q) (by omega)) (fun _ => ?_)
    refine sg_L_does_12 hL (m0 := zm) (c_0 := rc) (c_1 := r1) ?_
    rw [ii_a, ii_s]
    exact k5 r q
theorem ac_does (hg : ev_cat1 g.2 = true) {a : Nat} (h9 : 99 ≤ N) (ht : t.length ≤ 24) (hp : ∀ x ∈ t, pr x) (z : ds N h a t) (s : st h c P S B) : ∃ h2 v c2 P2, tr_L g (d + 15) m_L_does 0 [some (.ref 1000), some (.ref (a + 1000)), none, none] [] h (.inl (some (.int v)), h2) ∧ hh_M 25 2500 h h2 ∧ st h2 c2 P2 S (B + 60) ∧ did c P v c2 P2 := by
  obtain ⟨hL, y, l, n, w, q, p1, p2⟩ := s
  obtain ⟨h1, M', k1, k2, k3, k4, k5⟩ := does_lp (g := g) (d := d) hg h9 ht hp t.length 0 0 h (by omega) (by omega) hL w z
  obtain ⟨h2, v, c2, P2, r, M, s2, dd⟩ := ac_execute (g := g) (d := d) hg k2 k4 (by omega) q p1 p2
  exact ⟨h2, v, c2, P2, sg_L_does_0 hL (k5 _ (sg_L_does_30 k2 (fun _ => sg_L_does_39 k2 (c_0 := r) (hr := rfl)) (fun q => absurd q (Int32.not_lt.mpr (ii_nn (by omega)))))), hh_M_w (hh_M_tr k3 M) (by omega) (by omega), s2, dd⟩
/-! what an act may do -/
def res (h : ev_AH) (c : CT) (P : List CT) (S : Option CT) (B : Nat) (h2 : ev_AH) (v : Int32) (c2 : CT) (P2 : List CT) : Prop := hh_M 40 3000 h h2 ∧ st h2 c2 P2 S (B + 60) ∧ did c P v c2 P2
theorem res_of {h2 : ev_AH} {v : Int32} {c2 : CT} {P2 : List CT} {m q : Nat} (M : hh_M m q h h2) (hm : m ≤ 40) (hq : q ≤ 3000) (s : st h2 c2 P2 S (B + 60)) (dd : did c P v c2 P2) : res h c P S B h2 v c2 P2 := ⟨hh_M_w M hm hq, s, dd⟩
theorem sw_25 : sw g 25 [112, 114, 115] := ⟨26, _, fun _ => rfl, rfl, rfl, fun _ => rfl, by decide, sb_all [112, 114, 115] rfl⟩
theorem sw_27 : sw g 27 [97, 98, 99, 100, 101] := ⟨28, _, fun _ => rfl, rfl, rfl, fun _ => rfl, by decide, sb_all [97, 98, 99, 100, 101] rfl⟩
theorem sw_29 : sw g 29 [99, 100, 97] := ⟨30, _, fun _ => rfl, rfl, rfl, fun _ => rfl, by decide, sb_all [99, 100, 97] rfl⟩
theorem sw_31 : sw g 31 [47, 92, 46, 120] := ⟨32, _, fun _ => rfl, rfl, rfl, fun _ => rfl, by decide, sb_all [47, 92, 46, 120] rfl⟩
theorem sw_33 : sw g 33 [112, 114, 115, 120] := ⟨34, _, fun _ => rfl, rfl, rfl, fun _ => rfl, by decide, sb_all [112, 114, 115, 120] rfl⟩
theorem sw_35 : sw g 35 [109, 105, 114, 114, 111, 114, 32] := ⟨36, _, fun _ => rfl, rfl, rfl, fun _ => rfl, by decide, sb_all [109, 105, 114, 114, 111, 114, 32] rfl⟩
theorem sw_37 : sw g 37 [32, 47, 59, 115, 97, 121, 32] := ⟨38, _, fun _ => rfl, rfl, rfl, fun _ => rfl, by decide, sb_all [32, 47, 59, 115, 97, 121, 32] rfl⟩
theorem sw_39 : sw g 39 [32] := ⟨40, _, fun _ => rfl, rfl, rfl, fun _ => rfl, by decide, sb_all [32] rfl⟩
theorem sw_41 : sw g 41 [118, 111, 116, 101, 59, 114, 101, 116, 114, 121, 59, 115, 97, 121, 32] := ⟨42, _, fun _ => rfl, rfl, rfl, fun _ => rfl, by decide, sb_all [118, 111, 116, 101, 59, 114, 101, 116, 114, 121, 59, 115, 97, 121, 32] rfl⟩
theorem sw_43 : sw g 43 [32, 100] := ⟨44, _, fun _ => rfl, rfl, rfl, fun _ => rfl, by decide, sb_all [32, 100] rfl⟩
theorem sw_45 : sw g 45 [99, 97, 116, 32] := ⟨46, _, fun _ => rfl, rfl, rfl, fun _ => rfl, by decide, sb_all [99, 97, 116, 32] rfl⟩
theorem sw_47 : sw g 47 [32, 98, 97, 100, 59, 109, 101, 116, 104, 111, 100, 32] := ⟨48, _, fun _ => rfl, rfl, rfl, fun _ => rfl, by decide, sb_all [32, 98, 97, 100, 59, 109, 101, 116, 104, 111, 100, 32] rfl⟩
theorem sw_49 : sw g 49 [59, 118, 111, 116, 101] := ⟨50, _, fun _ => rfl, rfl, rfl, fun _ => rfl, by decide, sb_all [59, 118, 111, 116, 101] rfl⟩
theorem sw_51 : sw g 51 [32, 46, 59, 114, 101, 116, 114, 121] := ⟨52, _, fun _ => rfl, rfl, rfl, fun _ => rfl, by decide, sb_all [32, 46, 59, 114, 101, 116, 114, 121] rfl⟩
theorem w_ch {a j : Nat} (hs : sw g a t) (hj : j < t.length) : tr_ch (t.getD j 0) := by
  obtain ⟨_, _, _, _, _, _, _, s6⟩ := hs
  exact sb_ch (sb_memD s6 hj)
theorem ii_mod {k : Nat} (q : Nat) (hk : k < 1000) (hq : q < 1000) : Int32.ofNat k - Int32.ofNat k / Int32.ofNat q * Int32.ofNat q = Int32.ofNat (k % q) := ii_r (by omega) (by omega)
theorem A136 {w1 w2 w5 : Option Value} {x : Int32} {k : Nat} (hk : k < 25) (s : st h c P S B) : ∃ h2 v c2 P2, tr_L g (d + 16) m_L_acts 136 [some (.ref 1000), w1, w2, some (.int x), some (.int (Int32.ofNat k)), w5] [] h (.inl (some (.int v)), h2) ∧ res h c P S B h2 v c2 P2 := by
  obtain ⟨h2, v, c2, P2, r, M, s2, dd⟩ := ac_adds (g := g) (d := d + 1) (x := x) hk s
  exact ⟨h2, v, c2, P2, sg_L_acts_136 s.1 (c_0 := r) (hr := rfl), res_of M (by omega) (by omega) s2 dd⟩
theorem A144 (hg : ev_cat1 g.2 = true) {w1 w2 : Option Value} {x : Int32} {k j : Nat} (hk : k < 25) (hj : j < 60) (s : st h c P S B) : ∃ h2 v c2 P2, tr_L g (d + 16) m_L_acts 144 [some (.ref 1000), w1, w2, some (.int x), some (.int (Int32.ofNat k)), some (.int (Int32.ofNat j))] [] h (.inl (some (.int v)), h2) ∧ res h c P S B h2 v c2 P2 := by
  have m1 := Nat.mod_lt j (show 5 > 0 by omega)
  have m2 := Nat.mod_lt k (show 3 > 0 by omega)
  have r1 := sw_at (g := g) (d := d + 12) (j := j % 5) s.1 hg sw_27 m1
  have r2 := sw_at (g := g) (d := d + 12) (j := k % 3) s.1 hg sw_29 m2
  rw [← ii_mod 5 (by omega) (by omega)] at r1
  rw [← ii_mod 3 (by omega) (by omega)] at r2
  obtain ⟨h2, v, c2, P2, r, M, s2, dd⟩ := ac_addCat (g := g) (d := d + 2) (x := x) (a := ([97, 98, 99, 100, 101] : List Int32).getD (j % 5) 0) (b := 98) (e := ([99, 100, 97] : List Int32).getD (k % 3) 0) s
  exact ⟨h2, v, c2, P2, sg_L_acts_144 s.1 (c_0 := r1) (c_1 := r2) (c_2 := r) (hr := rfl), res_of M (by omega) (by omega) s2 dd⟩
theorem A170 (hg : ev_cat1 g.2 = true) {w1 w2 w4 : Option Value} {x : Int32} {j : Nat} (hj : j < 60) (s : st h c P S B) : ∃ h2 v c2 P2, tr_L g (d + 16) m_L_acts 170 [some (.ref 1000), w1, w2, some (.int x), w4, some (.int (Int32.ofNat j))] [] h (.inl (some (.int v)), h2) ∧ res h c P S B h2 v c2 P2 := by
  have ez : Int32.ofNat j - Int32.ofNat j / 12 * 12 = Int32.ofNat (j % 12) := ii_mod 12 (by omega) (by omega)
  by_cases hz : j % 12 = 0
  · have r1 := sw_at (g := g) (d := d + 12) (j := 3) s.1 hg sw_31 (by decide)
    obtain ⟨h2, v, c2, P2, r, M, s2, dd⟩ := ac_setMirror (g := g) (d := d + 2) (x := x) (a := [47, 92, 46, 120].getD 3 0) s (w_ch (g := g) sw_31 (by decide))
    exact ⟨h2, v, c2, P2, sg_L_acts_170 s.1 (fun q => absurd (by rw [ez, hz]; rfl) q) (fun _ => sg_L_acts_182 s.1 (c_0 := r1) (c_1 := r) (hr := rfl)), res_of M (by omega) (by omega) s2 dd⟩
  · have m1 := Nat.mod_lt j (show 3 > 0 by omega)
    have hlt : j % 3 < [47, 92, 46, 120].length := by
      show j % 3 < 4
      omega
    have r1 := sw_at (g := g) (d := d + 12) (j := j % 3) s.1 hg sw_31 hlt
    rw [← ii_mod 3 (by omega) (by omega)] at r1
    obtain ⟨h2, v, c2, P2, r, M, s2, dd⟩ := ac_setMirror (g := g) (d := d + 2) (x := x) (a := [47, 92, 46, 120].getD (j % 3) 0) s (w_ch (g := g) sw_31 hlt)
    exact ⟨h2, v, c2, P2, sg_L_acts_170 s.1 (fun _ => sg_L_acts_186 s.1 (c_0 := r1) (c_1 := r) (hr := rfl)) (fun q => absurd ((ii_eq (b := 0) (by omega) (by omega)).mp (ez.symm.trans q)) hz), res_of M (by omega) (by omega) s2 dd⟩
theorem A197 (hg : ev_cat1 g.2 = true) {w1 w2 w3 : Option Value} {x : Int32} {j : Nat} (hj : j < 60) (s : st h c P S B) : ∃ h2 v c2 P2, tr_L g (d + 16) m_L_acts 197 [some (.ref 1000), w1, w2, w3, some (.int x), some (.int (Int32.ofNat j))] [] h (.inl (some (.int v)), h2) ∧ res h c P S B h2 v c2 P2 := by
  have ez : Int32.ofNat j - Int32.ofNat j / 9 * 9 = Int32.ofNat (j % 9) := ii_mod 9 (by omega) (by omega)
  by_cases hz : j % 9 = 0
  · have r1 := sw_at (g := g) (d := d + 12) (j := 4) s.1 hg sw_27 (by decide)
    obtain ⟨h2, v, c2, P2, r, M, s2, dd⟩ := ac_testify (g := g) (d := d + 2) (x := x) (a := [97, 98, 99, 100, 101].getD 4 0) s
    exact ⟨h2, v, c2, P2, sg_L_acts_197 s.1 (fun q => absurd (by rw [ez, hz]; rfl) q) (fun _ => sg_L_acts_210 s.1 (c_0 := r1) (c_1 := r) (hr := rfl)), res_of M (by omega) (by omega) s2 dd⟩
  · have m1 := Nat.mod_lt j (show 4 > 0 by omega)
    have hlt : j % 4 < [97, 98, 99, 100, 101].length := by
      show j % 4 < 5
      omega
    have r1 := sw_at (g := g) (d := d + 12) (j := j % 4) s.1 hg sw_27 hlt
    rw [← ii_mod 4 (by omega) (by omega)] at r1
    obtain ⟨h2, v, c2, P2, r, M, s2, dd⟩ := ac_testify (g := g) (d := d + 2) (x := x) (a := [97, 98, 99, 100, 101].getD (j % 4) 0) s
    exact ⟨h2, v, c2, P2, sg_L_acts_197 s.1 (fun _ => sg_L_acts_214 s.1 (c_0 := r1) (c_1 := r) (hr := rfl)) (fun q => absurd ((ii_eq (b := 0) (by omega) (by omega)).mp (ez.symm.trans q)) hz), res_of M (by omega) (by omega) s2 dd⟩
theorem A225 (hg : ev_cat1 g.2 = true) {w1 w2 w3 w4 : Option Value} {j : Nat} (hj : j < 60) (s : st h c P S B) : ∃ h2 v c2 P2, tr_L g (d + 16) m_L_acts 225 [some (.ref 1000), w1, w2, w3, w4, some (.int (Int32.ofNat j))] [] h (.inl (some (.int v)), h2) ∧ res h c P S B h2 v c2 P2 := by
  have m1 := Nat.mod_lt j (show 4 > 0 by omega)
  have r1 := sw_at (g := g) (d := d + 12) (j := j % 4) s.1 hg sw_33 m1
  rw [← ii_mod 4 (by omega) (by omega)] at r1
  obtain ⟨h2, v, c2, P2, r, M, s2, dd⟩ := ac_setMethod (g := g) (d := d + 2) s (w_ch (g := g) sw_33 m1)
  exact ⟨h2, v, c2, P2, sg_L_acts_225 s.1 (c_0 := r1) (c_1 := r) (hr := rfl), res_of M (by omega) (by omega) s2 dd⟩
theorem A239 {w1 w2 w3 w4 w5 : Option Value} (s : st h c P S B) : ∃ h2 v c2 P2, tr_L g (d + 16) m_L_acts 239 [some (.ref 1000), w1, w2, w3, w4, w5] [] h (.inl (some (.int v)), h2) ∧ res h c P S B h2 v c2 P2 := by
  obtain ⟨h2, v, c2, P2, r, M, s2, dd⟩ := ac_deliberate (g := g) (d := d + 2) s
  exact ⟨h2, v, c2, P2, sg_L_acts_239 s.1 (c_0 := r) (hr := rfl), res_of M (by omega) (by omega) s2 dd⟩
theorem A244 {w1 w2 w3 w4 w5 : Option Value} (s : st h c P S B) : ∃ h2 v c2 P2, tr_L g (d + 16) m_L_acts 244 [some (.ref 1000), w1, w2, w3, w4, w5] [] h (.inl (some (.int v)), h2) ∧ res h c P S B h2 v c2 P2 := by
  obtain ⟨h2, v, c2, P2, r, M, s2, dd⟩ := ac_retry (g := g) (d := d + 2) s
  exact ⟨h2, v, c2, P2, sg_L_acts_244 s.1 (c_0 := r) (hr := rfl), res_of M (by omega) (by omega) s2 dd⟩
/-! the texts -/
theorem pr_dgs {k : Nat} (hk : k < 100) : ∀ x ∈ dgs k, pr x := by
  have key : ∀ k, k < 100 → (dgs k).all (fun x => !(decide (x < 32) || decide (126 < x))) = true := by decide +kernel
  intro x hx
  have := List.all_eq_true.mp (key k hk) x hx
  intro q
  rcases q with q | q <;> simp [q] at this
theorem pr_all (w : List Int32) (e : w.all (fun x => !(decide (x < 32) || decide (126 < x))) = true) : ∀ x ∈ w, pr x := by
  intro x hx
  have := List.all_eq_true.mp e x hx
  intro q
  rcases q with q | q <;> simp [q] at this
theorem pr_app {u v : List Int32} (a : ∀ x ∈ u, pr x) (b : ∀ x ∈ v, pr x) : ∀ x ∈ u ++ v, pr x := fun x hx => (List.mem_append.mp hx).elim (a x) (b x)
theorem let3 : ∀ r, r < 3 → ((97 + Int32.ofNat r).toUInt32 % 65536).toInt32 = Int32.ofNat (97 + r) ∧ [Int32.ofNat (97 + r)].all (fun x => !(decide (x < 32) || decide (126 < x))) = true := by decide +kernel
theorem prs3 : ∀ r, r < 3 → [([112, 114, 115] : List Int32).getD r 0].all (fun x => !(decide (x < 32) || decide (126 < x))) = true := by decide +kernel
theorem A257 (hg : ev_cat1 g.2 = true) {w0 w1 w2 : Option Value} {i k j : Nat} (hi : i < 36) (hk : k < 25) (hj : j < 60) (s : st h c P S B) : ∃ h2 v c2 P2, tr_L g (d + 16) m_L_acts 257 [w0, w1, w2, some (.int (Int32.ofNat i)), some (.int (Int32.ofNat k)), some (.int (Int32.ofNat j))] [.ref 1000] h (.inl (some (.int v)), h2) ∧ res h c P S B h2 v c2 P2 := by
  have ei := dgs_len2 (k := i) (by omega)
  have ek := dgs_len2 (k := k) (by omega)
  have m3 := Nat.mod_lt j (show 3 > 0 by omega)
  obtain ⟨e3, e4⟩ := let3 (j % 3) m3
  have ej : Int32.ofNat j - Int32.ofNat j / 3 * 3 = Int32.ofNat (j % 3) := ii_mod 3 (by omega) (by omega)
  have h9 := st_len s
  obtain ⟨g1, eh0⟩ : ∃ g1, g1 = hh_push h (.inr (9, [.null, .int 0, .int 0, .int 0])) 4 := ⟨_, rfl⟩
  have L1 : hh_L g1 := by rw [eh0]; exact hh_L_push s.1
  have U1 : hh_U h.1.length 1 4 h g1 := by rw [eh0]; exact hh_U_push (Nat.le_refl _)
  have a1 : g1.1[h.1.length]? = some (.inr (9, [.null, .int 0, .int 0, .int 0])) := by rw [eh0]; exact push_at
  obtain ⟨g2, r2, U2, s2⟩ := sd_init (g := g) (d := d + 14) L1 a1 h9 (Nat.le_refl _)
  have V2 := hh_U_tr U1 U2
  obtain ⟨u2, m22⟩ := sd_m s2
  obtain ⟨g3, r3, U3, s3⟩ := sd_appS (g := g) (d := d + 10) r2.2 s2 sw_35 (by simp only [List.length_append, List.length_cons, List.length_nil]; omega) h9 (by have := V2.1; omega)
  have V3 := hh_U_tr V2 U3
  obtain ⟨u3, m23⟩ := sd_m s3
  obtain ⟨g4, r4, U4, s4⟩ := sd_appN (g := g) (d := d + 11) (n := i) r3.2 s3 (by omega) (by simp only [List.length_append, List.length_cons, List.length_nil]; omega) h9 (by have := V3.1; omega)
  have V4 := hh_U_tr V3 U4
  obtain ⟨u4, m24⟩ := sd_m s4
  obtain ⟨g5, r5, U5, s5⟩ := sd_appS (g := g) (d := d + 10) r4.2 s4 sw_37 (by simp only [List.length_append, List.length_cons, List.length_nil]; omega) h9 (by have := V4.1; omega)
  have V5 := hh_U_tr V4 U5
  obtain ⟨u5, m25⟩ := sd_m s5
  obtain ⟨g6, r6, U6, s6⟩ := sd_appN (g := g) (d := d + 11) (n := k) r5.2 s5 (by omega) (by simp only [List.length_append, List.length_cons, List.length_nil]; omega) h9 (by have := V5.1; omega)
  have V6 := hh_U_tr V5 U6
  obtain ⟨u6, m26⟩ := sd_m s6
  obtain ⟨g7, r7, U7, s7⟩ := sd_appS (g := g) (d := d + 10) r6.2 s6 sw_39 (by simp only [List.length_append, List.length_cons, List.length_nil]; omega) h9 (by have := V6.1; omega)
  have V7 := hh_U_tr V6 U7
  obtain ⟨u7, m27⟩ := sd_m s7
  obtain ⟨g8, r8, U8, s8⟩ := sd_app (g := g) (d := d + 11) (x := ((97 + (Int32.ofNat j - Int32.ofNat j / 3 * 3)).toUInt32 % 65536).toInt32) r7.2 ⟨97 + j % 3, by omega, by rw [ej]; exact e3⟩ s7 (by simp only [List.length_append, List.length_cons, List.length_nil]; omega) h9 (by have := V7.1; omega)
  have V8 := hh_U_tr V7 U8
  obtain ⟨u8, m28⟩ := sd_m s8
  obtain ⟨g9, ee, r9, U9, z⟩ := sd_str (g := g) (d := d + 10) r8.2 s8 (by simp only [List.length_append, List.length_cons, List.length_nil]; omega) h9 (by have := V8.1; omega)
  have V9 := hh_U_tr V8 U9
  obtain ⟨gz, v, c2, P2, rz, M, sz, dd⟩ := ac_does (g := g) (d := d) hg h9 (by simp only [List.length_append, List.length_cons, List.length_nil]; omega) (pr_app (pr_app (pr_app (pr_app (pr_app (pr_app (fun x hx => by cases hx) (pr_all [109, 105, 114, 114, 111, 114, 32] (by decide))) (pr_dgs (by omega))) (pr_all [32, 47, 59, 115, 97, 121, 32] (by decide))) (pr_dgs (by omega))) (pr_all [32] (by decide))) (by rw [ej, e3]; exact pr_all _ e4)) z (st_U s V9 r9.2)
  exact ⟨gz, v, c2, P2, sg_L_acts_257 s.1 (eh0 := eh0) (ec0 := rfl) (c_0 := r2) (m0 := m22) (c_1 := r3) (m1 := m23) (c_2 := r4) (m2 := m24) (c_3 := r5) (m3 := m25) (c_4 := r6) (m4 := m26) (c_5 := r7) (m5 := m27) (c_6 := r8) (m6 := m28) (c_7 := r9) (c_8 := rz) (hr := rfl), res_of (hh_M_tr (hh_M_U V9) M) (by omega) (by omega) sz dd⟩
theorem A313 (hg : ev_cat1 g.2 = true) {w0 w1 w2 w3 w5 : Option Value} {k : Nat} (hk : k < 25) (s : st h c P S B) : ∃ h2 v c2 P2, tr_L g (d + 16) m_L_acts 313 [w0, w1, w2, w3, some (.int (Int32.ofNat k)), w5] [.ref 1000] h (.inl (some (.int v)), h2) ∧ res h c P S B h2 v c2 P2 := by
  have ek := dgs_len2 (k := k) (by omega)
  have h9 := st_len s
  obtain ⟨g1, eh0⟩ : ∃ g1, g1 = hh_push h (.inr (9, [.null, .int 0, .int 0, .int 0])) 4 := ⟨_, rfl⟩
  have L1 : hh_L g1 := by rw [eh0]; exact hh_L_push s.1
  have U1 : hh_U h.1.length 1 4 h g1 := by rw [eh0]; exact hh_U_push (Nat.le_refl _)
  have a1 : g1.1[h.1.length]? = some (.inr (9, [.null, .int 0, .int 0, .int 0])) := by rw [eh0]; exact push_at
  obtain ⟨g2, r2, U2, s2⟩ := sd_init (g := g) (d := d + 14) L1 a1 h9 (Nat.le_refl _)
  have V2 := hh_U_tr U1 U2
  obtain ⟨u2, m22⟩ := sd_m s2
  obtain ⟨g3, r3, U3, s3⟩ := sd_appS (g := g) (d := d + 10) r2.2 s2 sw_41 (by simp only [List.length_append, List.length_cons, List.length_nil]; omega) h9 (by have := V2.1; omega)
  have V3 := hh_U_tr V2 U3
  obtain ⟨u3, m23⟩ := sd_m s3
  obtain ⟨g4, r4, U4, s4⟩ := sd_appN (g := g) (d := d + 11) (n := k) r3.2 s3 (by omega) (by simp only [List.length_append, List.length_cons, List.length_nil]; omega) h9 (by have := V3.1; omega)
  have V4 := hh_U_tr V3 U4
  obtain ⟨u4, m24⟩ := sd_m s4
  obtain ⟨g5, r5, U5, s5⟩ := sd_appS (g := g) (d := d + 10) r4.2 s4 sw_43 (by simp only [List.length_append, List.length_cons, List.length_nil]; omega) h9 (by have := V4.1; omega)
  have V5 := hh_U_tr V4 U5
  obtain ⟨u5, m25⟩ := sd_m s5
  obtain ⟨g6, ee, r6, U6, z⟩ := sd_str (g := g) (d := d + 10) r5.2 s5 (by simp only [List.length_append, List.length_cons, List.length_nil]; omega) h9 (by have := V5.1; omega)
  have V6 := hh_U_tr V5 U6
  obtain ⟨gz, v, c2, P2, rz, M, sz, dd⟩ := ac_does (g := g) (d := d) hg h9 (by simp only [List.length_append, List.length_cons, List.length_nil]; omega) (pr_app (pr_app (pr_app (fun x hx => by cases hx) (pr_all [118, 111, 116, 101, 59, 114, 101, 116, 114, 121, 59, 115, 97, 121, 32] (by decide))) (pr_dgs (by omega))) (pr_all [32, 100] (by decide))) z (st_U s V6 r6.2)
  exact ⟨gz, v, c2, P2, sg_L_acts_313 s.1 (eh0 := eh0) (ec0 := rfl) (c_0 := r2) (m0 := m22) (c_1 := r3) (m1 := m23) (c_2 := r4) (m2 := m24) (c_3 := r5) (m3 := m25) (c_4 := r6) (c_5 := rz) (hr := rfl), res_of (hh_M_tr (hh_M_U V6) M) (by omega) (by omega) sz dd⟩
theorem A349 (hg : ev_cat1 g.2 = true) {w0 w1 w2 w5 : Option Value} {i k : Nat} (hi : i < 36) (hk : k < 25) (s : st h c P S B) : ∃ h2 v c2 P2, tr_L g (d + 16) m_L_acts 349 [w0, w1, w2, some (.int (Int32.ofNat i)), some (.int (Int32.ofNat k)), w5] [.ref 1000] h (.inl (some (.int v)), h2) ∧ res h c P S B h2 v c2 P2 := by
  have ei := dgs_len2 (k := i) (by omega)
  have m3 : k % 3 < ([112, 114, 115] : List Int32).length := Nat.mod_lt k (show 3 > 0 by omega)
  have h9 := st_len s
  obtain ⟨g1, eh0⟩ : ∃ g1, g1 = hh_push h (.inr (9, [.null, .int 0, .int 0, .int 0])) 4 := ⟨_, rfl⟩
  have L1 : hh_L g1 := by rw [eh0]; exact hh_L_push s.1
  have U1 : hh_U h.1.length 1 4 h g1 := by rw [eh0]; exact hh_U_push (Nat.le_refl _)
  have a1 : g1.1[h.1.length]? = some (.inr (9, [.null, .int 0, .int 0, .int 0])) := by rw [eh0]; exact push_at
  obtain ⟨g2, r2, U2, s2⟩ := sd_init (g := g) (d := d + 14) L1 a1 h9 (Nat.le_refl _)
  have V2 := hh_U_tr U1 U2
  obtain ⟨u2, m22⟩ := sd_m s2
  obtain ⟨g3, r3, U3, s3⟩ := sd_appS (g := g) (d := d + 10) r2.2 s2 sw_45 (by simp only [List.length_append, List.length_cons, List.length_nil]; omega) h9 (by have := V2.1; omega)
  have V3 := hh_U_tr V2 U3
  obtain ⟨u3, m23⟩ := sd_m s3
  obtain ⟨g4, r4, U4, s4⟩ := sd_appN (g := g) (d := d + 11) (n := i) r3.2 s3 (by omega) (by simp only [List.length_append, List.length_cons, List.length_nil]; omega) h9 (by have := V3.1; omega)
  have V4 := hh_U_tr V3 U4
  obtain ⟨u4, m24⟩ := sd_m s4
  obtain ⟨g5, r5, U5, s5⟩ := sd_appS (g := g) (d := d + 10) r4.2 s4 sw_47 (by simp only [List.length_append, List.length_cons, List.length_nil]; omega) h9 (by have := V4.1; omega)
  have V5 := hh_U_tr V4 U5
  have rx := sw_at (g := g) (d := d + 12) (j := k % 3) r5.2 hg sw_25 m3
  rw [← ii_mod 3 (by omega) (by omega)] at rx
  obtain ⟨u5, m25⟩ := sd_m s5
  obtain ⟨g6, r6, U6, s6⟩ := sd_app (g := g) (d := d + 11) (x := ([112, 114, 115] : List Int32).getD (k % 3) 0) r5.2 (sb_memD (sb_all [112, 114, 115] rfl) m3) s5 (by simp only [List.length_append, List.length_cons, List.length_nil]; omega) h9 (by have := V5.1; omega)
  have V6 := hh_U_tr V5 U6
  obtain ⟨u6, m26⟩ := sd_m s6
  obtain ⟨g7, r7, U7, s7⟩ := sd_appS (g := g) (d := d + 10) r6.2 s6 sw_49 (by simp only [List.length_append, List.length_cons, List.length_nil]; omega) h9 (by have := V6.1; omega)
  have V7 := hh_U_tr V6 U7
  obtain ⟨u7, m27⟩ := sd_m s7
  obtain ⟨g8, ee, r8, U8, z⟩ := sd_str (g := g) (d := d + 10) r7.2 s7 (by simp only [List.length_append, List.length_cons, List.length_nil]; omega) h9 (by have := V7.1; omega)
  have V8 := hh_U_tr V7 U8
  obtain ⟨gz, v, c2, P2, rz, M, sz, dd⟩ := ac_does (g := g) (d := d) hg h9 (by simp only [List.length_append, List.length_cons, List.length_nil]; omega) (pr_app (pr_app (pr_app (pr_app (pr_app (fun x hx => by cases hx) (pr_all [99, 97, 116, 32] (by decide))) (pr_dgs (by omega))) (pr_all [32, 98, 97, 100, 59, 109, 101, 116, 104, 111, 100, 32] (by decide))) (pr_all _ (prs3 _ m3))) (pr_all [59, 118, 111, 116, 101] (by decide))) z (st_U s V8 r8.2)
  exact ⟨gz, v, c2, P2, sg_L_acts_349 s.1 (eh0 := eh0) (ec0 := rfl) (c_0 := r2) (m0 := m22) (c_1 := r3) (m1 := m23) (c_2 := r4) (m2 := m24) (c_3 := r5) (c_4 := rx) (m3 := m25) (c_5 := r6) (m4 := m26) (c_6 := r7) (m5 := m27) (c_7 := r8) (c_8 := rz) (hr := rfl), res_of (hh_M_tr (hh_M_U V8) M) (by omega) (by omega) sz dd⟩
theorem A393 (hg : ev_cat1 g.2 = true) {w0 w1 w2 w4 w5 : Option Value} {i : Nat} (hi : i < 36) (s : st h c P S B) : ∃ h2 v c2 P2, tr_L g (d + 16) m_L_acts 393 [w0, w1, w2, some (.int (Int32.ofNat i)), w4, w5] [.ref 1000] h (.inl (some (.int v)), h2) ∧ res h c P S B h2 v c2 P2 := by
  have ei := dgs_len2 (k := i) (by omega)
  have h9 := st_len s
  obtain ⟨g1, eh0⟩ : ∃ g1, g1 = hh_push h (.inr (9, [.null, .int 0, .int 0, .int 0])) 4 := ⟨_, rfl⟩
  have L1 : hh_L g1 := by rw [eh0]; exact hh_L_push s.1
  have U1 : hh_U h.1.length 1 4 h g1 := by rw [eh0]; exact hh_U_push (Nat.le_refl _)
  have a1 : g1.1[h.1.length]? = some (.inr (9, [.null, .int 0, .int 0, .int 0])) := by rw [eh0]; exact push_at
  obtain ⟨g2, r2, U2, s2⟩ := sd_init (g := g) (d := d + 14) L1 a1 h9 (Nat.le_refl _)
  have V2 := hh_U_tr U1 U2
  obtain ⟨u2, m22⟩ := sd_m s2
  obtain ⟨g3, r3, U3, s3⟩ := sd_appS (g := g) (d := d + 10) r2.2 s2 sw_35 (by simp only [List.length_append, List.length_cons, List.length_nil]; omega) h9 (by have := V2.1; omega)
  have V3 := hh_U_tr V2 U3
  obtain ⟨u3, m23⟩ := sd_m s3
  obtain ⟨g4, r4, U4, s4⟩ := sd_appN (g := g) (d := d + 11) (n := i) r3.2 s3 (by omega) (by simp only [List.length_append, List.length_cons, List.length_nil]; omega) h9 (by have := V3.1; omega)
  have V4 := hh_U_tr V3 U4
  obtain ⟨u4, m24⟩ := sd_m s4
  obtain ⟨g5, r5, U5, s5⟩ := sd_appS (g := g) (d := d + 10) r4.2 s4 sw_51 (by simp only [List.length_append, List.length_cons, List.length_nil]; omega) h9 (by have := V4.1; omega)
  have V5 := hh_U_tr V4 U5
  obtain ⟨u5, m25⟩ := sd_m s5
  obtain ⟨g6, ee, r6, U6, z⟩ := sd_str (g := g) (d := d + 10) r5.2 s5 (by simp only [List.length_append, List.length_cons, List.length_nil]; omega) h9 (by have := V5.1; omega)
  have V6 := hh_U_tr V5 U6
  obtain ⟨gz, v, c2, P2, rz, M, sz, dd⟩ := ac_does (g := g) (d := d) hg h9 (by simp only [List.length_append, List.length_cons, List.length_nil]; omega) (pr_app (pr_app (pr_app (fun x hx => by cases hx) (pr_all [109, 105, 114, 114, 111, 114, 32] (by decide))) (pr_dgs (by omega))) (pr_all [32, 46, 59, 114, 101, 116, 114, 121] (by decide))) z (st_U s V6 r6.2)
  exact ⟨gz, v, c2, P2, sg_L_acts_393 s.1 (eh0 := eh0) (ec0 := rfl) (c_0 := r2) (m0 := m22) (c_1 := r3) (m1 := m23) (c_2 := r4) (m2 := m24) (c_3 := r5) (m3 := m25) (c_4 := r6) (c_5 := rz) (hr := rfl), res_of (hh_M_tr (hh_M_U V6) M) (by omega) (by omega) sz dd⟩
theorem A249 (hg : ev_cat1 g.2 = true) {w1 w2 : Option Value} {i k j : Nat} (hi : i < 36) (hk : k < 25) (hj : j < 60) (s : st h c P S B) : ∃ h2 v c2 P2, tr_L g (d + 16) m_L_acts 249 [some (.ref 1000), w1, w2, some (.int (Int32.ofNat i)), some (.int (Int32.ofNat k)), some (.int (Int32.ofNat j))] [] h (.inl (some (.int v)), h2) ∧ res h c P S B h2 v c2 P2 := by
  have m4 := Nat.mod_lt j (show 4 > 0 by omega)
  have ej : Int32.ofNat j - Int32.ofNat j / 4 * 4 = Int32.ofNat (j % 4) := ii_mod 4 (by omega) (by omega)
  have yes : ∀ q, q < 4 → j % 4 = q → Int32.ofNat j - Int32.ofNat j / 4 * 4 = Int32.ofNat q := fun q _ e => by rw [ej, e]
  have no : ∀ q, q < 4 → j % 4 ≠ q → Int32.ofNat j - Int32.ofNat j / 4 * 4 ≠ Int32.ofNat q := fun q hq e z => e ((ii_eq (by omega) (by omega)).mp (ej.symm.trans z))
  by_cases h0 : j % 4 = 0
  · obtain ⟨h2, v, c2, P2, r, z⟩ := A257 (g := g) (d := d) (w0 := some (.ref 1000)) (w1 := w1) (w2 := w2) hg hi hk hj s
    exact ⟨h2, v, c2, P2, sg_L_acts_249 s.1 (fun q => absurd (yes 0 (by omega) h0) q) (fun _ => r), z⟩
  · by_cases h1 : j % 4 = 1
    · obtain ⟨h2, v, c2, P2, r, z⟩ := A313 (g := g) (d := d) (w0 := some (.ref 1000)) (w1 := w1) (w2 := w2) (w3 := some (.int (Int32.ofNat i))) (w5 := some (.int (Int32.ofNat j))) hg hk s
      exact ⟨h2, v, c2, P2, sg_L_acts_249 s.1 (fun _ => sg_L_acts_305 s.1 (fun q => absurd (yes 1 (by omega) h1) q) (fun _ => r)) (fun q => absurd q (no 0 (by omega) h0)), z⟩
    · by_cases h2' : j % 4 = 2
      · obtain ⟨h2, v, c2, P2, r, z⟩ := A349 (g := g) (d := d) (w0 := some (.ref 1000)) (w1 := w1) (w2 := w2) (w5 := some (.int (Int32.ofNat j))) hg hi hk s
        exact ⟨h2, v, c2, P2, sg_L_acts_249 s.1 (fun _ => sg_L_acts_305 s.1 (fun _ => sg_L_acts_341 s.1 (fun q => absurd (yes 2 (by omega) h2') q) (fun _ => r)) (fun q => absurd q (no 1 (by omega) h1))) (fun q => absurd q (no 0 (by omega) h0)), z⟩
      · obtain ⟨h2, v, c2, P2, r, z⟩ := A393 (g := g) (d := d) (w0 := some (.ref 1000)) (w1 := w1) (w2 := w2) (w4 := some (.int (Int32.ofNat k))) (w5 := some (.int (Int32.ofNat j))) hg hi s
        exact ⟨h2, v, c2, P2, sg_L_acts_249 s.1 (fun _ => sg_L_acts_305 s.1 (fun _ => sg_L_acts_341 s.1 (fun _ => r) (fun q => absurd q (no 2 (by omega) h2'))) (fun q => absurd q (no 1 (by omega) h1))) (fun q => absurd q (no 0 (by omega) h0)), z⟩
/-- one act -/
theorem ac_acts (hg : ev_cat1 g.2 = true) (hz : g.1.length < 1000000) {x : Int32} {i : Nat} (ex : x = Int32.ofNat i) (hi : i < 1000) (s : st h c P S B) : ∃ h2 v c2 P2, tr_L g (d + 16) m_L_acts 0 [some (.ref 1000), some (.ref 0), some (.int x), none, none, none] [] h (.inl (some (.int v)), h2) ∧ res h c P S B h2 v c2 P2 := by
  subst ex
  obtain ⟨a, ha, r0⟩ := sp_in (g := g) (d := d + 14) (x := Int32.ofNat i + 1) (y := 36) (i := i + 1) (n := 36) s.1 hz (ii_s i) (by omega) rfl (by omega) (by omega)
  obtain ⟨b, hb, r1⟩ := sp_in (g := g) (d := d + 14) (x := Int32.ofNat i + 2) (y := 25) (i := i + 2) (n := 25) s.1 hz (ii_a i 2) (by omega) rfl (by omega) (by omega)
  obtain ⟨e, hc, r2⟩ := sp_in (g := g) (d := d + 14) (x := Int32.ofNat i + 3) (y := 60) (i := i + 3) (n := 60) s.1 hz (ii_a i 3) (by omega) rfl (by omega) (by omega)
  obtain ⟨w, hw, r3⟩ := sp_in (g := g) (d := d + 14) (x := Int32.ofNat i) (y := 26) (i := i) (n := 26) s.1 hz rfl (by omega) rfl (by omega) (by omega)
  have hcase : w = 0 ∨ w = 1 ∨ w = 2 ∨ w = 3 ∨ w = 4 ∨ w = 5 ∨ w = 6 ∨ w = 7 ∨ w = 8 ∨ w = 9 ∨ w = 10 ∨ w = 11 ∨ w = 12 ∨ w = 13 ∨ w = 14 ∨ w = 15 ∨ w = 16 ∨ w = 17 ∨ w = 18 ∨ w = 19 ∨ w = 20 ∨ 20 < w := by omega
  rcases hcase with rfl | rfl | rfl | rfl | rfl | rfl | rfl | rfl | rfl | rfl | rfl | rfl | rfl | rfl | rfl | rfl | rfl | rfl | rfl | rfl | rfl | hw2
  · obtain ⟨h2, v, c2, P2, r, z⟩ := A136 (g := g) (d := d) hb s
    exact ⟨h2, v, c2, P2, sg_L_acts_0_t0 s.1 (c_0 := r0) (c_1 := r1) (c_2 := r2) (c_3 := r3) (e := rfl) r, z⟩
  · obtain ⟨h2, v, c2, P2, r, z⟩ := A136 (g := g) (d := d) hb s
    exact ⟨h2, v, c2, P2, sg_L_acts_0_t1 s.1 (c_0 := r0) (c_1 := r1) (c_2 := r2) (c_3 := r3) (e := rfl) r, z⟩
  · obtain ⟨h2, v, c2, P2, r, z⟩ := A136 (g := g) (d := d) hb s
    exact ⟨h2, v, c2, P2, sg_L_acts_0_t2 s.1 (c_0 := r0) (c_1 := r1) (c_2 := r2) (c_3 := r3) (e := rfl) r, z⟩
  · obtain ⟨h2, v, c2, P2, r, z⟩ := A144 (g := g) (d := d) hg hb hc s
    exact ⟨h2, v, c2, P2, sg_L_acts_0_t3 s.1 (c_0 := r0) (c_1 := r1) (c_2 := r2) (c_3 := r3) (e := rfl) r, z⟩
  · obtain ⟨h2, v, c2, P2, r, z⟩ := A170 (g := g) (d := d) hg hc s
    exact ⟨h2, v, c2, P2, sg_L_acts_0_t4 s.1 (c_0 := r0) (c_1 := r1) (c_2 := r2) (c_3 := r3) (e := rfl) r, z⟩
  · obtain ⟨h2, v, c2, P2, r, z⟩ := A170 (g := g) (d := d) hg hc s
    exact ⟨h2, v, c2, P2, sg_L_acts_0_t5 s.1 (c_0 := r0) (c_1 := r1) (c_2 := r2) (c_3 := r3) (e := rfl) r, z⟩
  · obtain ⟨h2, v, c2, P2, r, z⟩ := A170 (g := g) (d := d) hg hc s
    exact ⟨h2, v, c2, P2, sg_L_acts_0_t6 s.1 (c_0 := r0) (c_1 := r1) (c_2 := r2) (c_3 := r3) (e := rfl) r, z⟩
  · obtain ⟨h2, v, c2, P2, r, z⟩ := A170 (g := g) (d := d) hg hc s
    exact ⟨h2, v, c2, P2, sg_L_acts_0_t7 s.1 (c_0 := r0) (c_1 := r1) (c_2 := r2) (c_3 := r3) (e := rfl) r, z⟩
  · obtain ⟨h2, v, c2, P2, r, z⟩ := A170 (g := g) (d := d) hg hc s
    exact ⟨h2, v, c2, P2, sg_L_acts_0_t8 s.1 (c_0 := r0) (c_1 := r1) (c_2 := r2) (c_3 := r3) (e := rfl) r, z⟩
  · obtain ⟨h2, v, c2, P2, r, z⟩ := A197 (g := g) (d := d) hg hc s
    exact ⟨h2, v, c2, P2, sg_L_acts_0_t9 s.1 (c_0 := r0) (c_1 := r1) (c_2 := r2) (c_3 := r3) (e := rfl) r, z⟩
  · obtain ⟨h2, v, c2, P2, r, z⟩ := A197 (g := g) (d := d) hg hc s
    exact ⟨h2, v, c2, P2, sg_L_acts_0_t10 s.1 (c_0 := r0) (c_1 := r1) (c_2 := r2) (c_3 := r3) (e := rfl) r, z⟩
  · obtain ⟨h2, v, c2, P2, r, z⟩ := A197 (g := g) (d := d) hg hc s
    exact ⟨h2, v, c2, P2, sg_L_acts_0_t11 s.1 (c_0 := r0) (c_1 := r1) (c_2 := r2) (c_3 := r3) (e := rfl) r, z⟩
  · obtain ⟨h2, v, c2, P2, r, z⟩ := A197 (g := g) (d := d) hg hc s
    exact ⟨h2, v, c2, P2, sg_L_acts_0_t12 s.1 (c_0 := r0) (c_1 := r1) (c_2 := r2) (c_3 := r3) (e := rfl) r, z⟩
  · obtain ⟨h2, v, c2, P2, r, z⟩ := A197 (g := g) (d := d) hg hc s
    exact ⟨h2, v, c2, P2, sg_L_acts_0_t13 s.1 (c_0 := r0) (c_1 := r1) (c_2 := r2) (c_3 := r3) (e := rfl) r, z⟩
  · obtain ⟨h2, v, c2, P2, r, z⟩ := A225 (g := g) (d := d) hg hc s
    exact ⟨h2, v, c2, P2, sg_L_acts_0_t14 s.1 (c_0 := r0) (c_1 := r1) (c_2 := r2) (c_3 := r3) (e := rfl) r, z⟩
  · obtain ⟨h2, v, c2, P2, r, z⟩ := A225 (g := g) (d := d) hg hc s
    exact ⟨h2, v, c2, P2, sg_L_acts_0_t15 s.1 (c_0 := r0) (c_1 := r1) (c_2 := r2) (c_3 := r3) (e := rfl) r, z⟩
  · obtain ⟨h2, v, c2, P2, r, z⟩ := A239 (g := g) (d := d) s
    exact ⟨h2, v, c2, P2, sg_L_acts_0_t16 s.1 (c_0 := r0) (c_1 := r1) (c_2 := r2) (c_3 := r3) (e := rfl) r, z⟩
  · obtain ⟨h2, v, c2, P2, r, z⟩ := A239 (g := g) (d := d) s
    exact ⟨h2, v, c2, P2, sg_L_acts_0_t17 s.1 (c_0 := r0) (c_1 := r1) (c_2 := r2) (c_3 := r3) (e := rfl) r, z⟩
  · obtain ⟨h2, v, c2, P2, r, z⟩ := A239 (g := g) (d := d) s
    exact ⟨h2, v, c2, P2, sg_L_acts_0_t18 s.1 (c_0 := r0) (c_1 := r1) (c_2 := r2) (c_3 := r3) (e := rfl) r, z⟩
  · obtain ⟨h2, v, c2, P2, r, z⟩ := A244 (g := g) (d := d) s
    exact ⟨h2, v, c2, P2, sg_L_acts_0_t19 s.1 (c_0 := r0) (c_1 := r1) (c_2 := r2) (c_3 := r3) (e := rfl) r, z⟩
  · obtain ⟨h2, v, c2, P2, r, z⟩ := A244 (g := g) (d := d) s
    exact ⟨h2, v, c2, P2, sg_L_acts_0_t20 s.1 (c_0 := r0) (c_1 := r1) (c_2 := r2) (c_3 := r3) (e := rfl) r, z⟩
  · obtain ⟨h2, v, c2, P2, r, z⟩ := A249 (g := g) (d := d) hg ha hb hc s
    exact ⟨h2, v, c2, P2, sg_L_acts_0_td s.1 (c_0 := r0) (c_1 := r1) (c_2 := r2) (c_3 := r3) (e := by rw [ii_ti (by omega)]; omega) r, z⟩
end
