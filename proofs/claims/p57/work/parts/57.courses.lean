/-! the methods of Courses: efforts told by a function on the entries, the queue by a list -/
def upE (E : Nat → Nat) (y e : Nat) : Nat → Nat := fun i => if i = y then e else E i
abbrev QS : Type := (Nat → Nat) × List Nat
def rc (S : QS) (y e : Nat) (b : Bool) : QS := if e < S.1 y then (upE S.1 y e, if S.2.length < 512 then (if b then y :: S.2 else S.2 ++ [y]) else S.2) else S
def gt1 (q w lit e t : Nat) (S : QS) : QS := if t = bx_opp w then S else if bx_nb q t = 35 then S else rc S (4 * bx_nb q t + t) (if t = lit then e else e + 1) (decide (t = lit))
def gl (q w lit e : Nat) : Nat → Nat → QS → QS
  | 0, _, S => S
  | m + 1, t, S => gl q w lit e m (t + 1) (gt1 q w lit e t S)
def go (co : Nat → Int32) (x : Nat) (S : QS) : QS := if co (x / 4) = 99 then S else gl (x / 4) (x % 4) (bx_refl (co (x / 4)) (x % 4)) (S.1 x) 4 0 S
def sq (co : Nat → Int32) : Nat → QS → QS
  | 0, S => S
  | m + 1, S => match S.2 with
    | [] => S
    | x :: Q => sq co m (go co x (S.1, Q))
/-- the entry of a port -/
def pe (p : Nat) : Nat := 4 * bx_cell p + bx_dir p
def E0 (p : Nat) : Nat → Nat := fun i => if i = pe p then 0 else 1000
/-- the least effort into a cell -/
def ei (E : Nat → Nat) (q : Nat) : Nat → Nat → Nat → Nat
  | 0, _, l => l
  | m + 1, w, l => ei E q m (w + 1) (if E (4 * q + w) < l then E (4 * q + w) else l)
def ef (E : Nat → Nat) (q : Nat) : Nat := ei E q 4 0 1000
def eR (h : ev_AH) (k : Nat) (E : Nat → Nat) : Prop := ∀ x, x < 140 → (hh_a h k).getD x 0 = Int32.ofNat (E x) ∧ E x ≤ 1000
def qR (h : ev_AH) (Q : List Nat) : Prop := Q.length ≤ 512 ∧ (∀ x ∈ Q, x < 140) ∧ ∃ hd, hd < 512 ∧ hh_i h 83 2 = Int32.ofNat hd ∧ hh_i h 83 3 = Int32.ofNat Q.length ∧ ∀ (i x : Nat), Q[i]? = some x → (hh_a h 85).getD ((hd + i) % 512) 0 = Int32.ofNat x
theorem pe_lt {p : Nat} (hp : p < 24) : pe p < 140 := by
  obtain ⟨h1, h2⟩ := bx_facts p hp
  exact bx_in h1 h2
theorem getD_set_ne {l : List Int32} {i j : Nat} {x : Int32} (h : i ≠ j) : (l.set i x).getD j 0 = l.getD j 0 := by
  simp [List.getD, h]
theorem getD_set_eq {l : List Int32} {i : Nat} {x : Int32} (h : i < l.length) : (l.set i x).getD i 0 = x := by
  simp [List.getD, h]
section
variable {g : tr_g} {d : Nat} {h : ev_AH}
theorem eR_F {ks : List Nat} {E : Nat → Nat} {k : Nat} {h' : ev_AH} (hF : hh_F ks h h') (hk : k ∉ ks) (he : eR h k E) : eR h' k E := fun x hx => by rw [hh_F_a hF hk]; exact he x hx
theorem qR_F {ks : List Nat} {Q : List Nat} {h' : ev_AH} (hF : hh_F ks h h') (h1 : 83 ∉ ks) (h2 : 85 ∉ ks) (hq : qR h Q) : qR h' Q := by
  obtain ⟨a1, a2, hd, b1, b2, b3, b4⟩ := hq
  exact ⟨a1, a2, hd, b1, by rw [hh_F_i hF h1]; exact b2, by rw [hh_F_i hF h1]; exact b3, fun i x hx => by rw [hh_F_a hF h2]; exact b4 i x hx⟩
theorem eR_set {E : Nat → Nat} {k y e n : Nat} (hL : hh_L h) (ht : hh_t[k]? = some (.inl (0, n))) (hn : n = 140) (he : eR h k E) (h1 : e ≤ 1000) : eR (hh_sa h k 0 ((hh_a h k).set y (Int32.ofNat e))) k (upE E y e) := fun x hx => by
  have hlen := (hh_arr hL ht).2
  have hk : k < h.1.length := (List.getElem?_eq_some_iff.mp (hh_arr hL ht).1).1
  rw [hh_a_sa hk, if_pos rfl]
  unfold upE
  by_cases e1 : x = y
  · subst e1
    rw [if_pos rfl, getD_set_eq (by omega)]
    exact ⟨rfl, h1⟩
  · rw [if_neg e1, getD_set_ne (Ne.symm e1)]
    exact he x hx
theorem ct83 : hh_t[83]? = some (.inr (5, [1084, 1085, 0, 0])) := rfl
theorem sp_putAhead {x : Nat} {Q : List Nat} (hL : hh_L h) (hq : qR h Q) (hx : x < 140) : ∃ h', tr_L g (d + 1) m_X1_putAhead 0 [some (.ref 1083), some (.int (Int32.ofNat x))] [] h (.inl none, h') ∧ hh_F [83, 85] h h' ∧ qR h' (if Q.length < 512 then x :: Q else Q) := by
  obtain ⟨a1, a2, hd, b1, b2, b3, b4⟩ := hq
  by_cases hlt : Q.length < 512
  · have e1 : (hh_i h 83 2 + 512) - 1 - ((hh_i h 83 2 + 512) - 1) / 512 * 512 = Int32.ofNat ((hd + 511) % 512) := by
      rw [b2, show (512 : Int32) = Int32.ofNat 512 from rfl, ii_a, show Int32.ofNat (hd + 512) - 1 = Int32.ofNat (hd + 512 - 1) from ii_u _ 1 (by omega), ii_r (by omega) (by omega)]
      rfl
    have hL1 := hh_L_si (sl := 2) (x := Int32.ofNat ((hd + 511) % 512)) hL ct83 rfl
    have i2 : hh_i (hh_si h 83 5 2 (Int32.ofNat ((hd + 511) % 512))) 83 2 = Int32.ofNat ((hd + 511) % 512) := by rw [hh_i_si hL ct83 (by decide), if_pos ⟨rfl, rfl⟩]
    have p1 := sp_put (g := g) (d := d) (a := 85) (k := (hd + 511) % 512) (y := Int32.ofNat x) hL1 rfl (by decide) (by omega)
    have i3 : hh_i (hh_sa (hh_si h 83 5 2 (Int32.ofNat ((hd + 511) % 512))) 85 0 ((hh_a (hh_si h 83 5 2 (Int32.ofNat ((hd + 511) % 512))) 85).set ((hd + 511) % 512) (Int32.ofNat x))) 83 3 = Int32.ofNat Q.length := by
      rw [hh_i_sa (by decide), hh_i_si hL ct83 (by decide), if_neg (by decide)]
      exact b3
    have hlen : (hh_a (hh_si h 83 5 2 (Int32.ofNat ((hd + 511) % 512))) 85).length = 512 := (hh_arr hL1 (k := 85) (t := 0) rfl).2
    refine ⟨_, sg_X1_putAhead_0 hL (fun t => ?_) (fun _ => sg_X1_putAhead_10 hL (by rw [e1, i2]; exact p1) rfl), hh_F_tr (hh_F_si (by decide)) (hh_F_tr (hh_F_sa (by decide)) (hh_F_si (by decide))), ?_⟩
    · rw [b3] at t
      have := (ii_le (a := 512) (by omega) (by omega)).mp t
      omega
    · rw [if_pos hlt, i3, ii_s]
      refine ⟨by simp; omega, fun y hy => ?_, (hd + 511) % 512, by omega, ?_, ?_, fun i y hi => ?_⟩
      · rcases List.mem_cons.mp hy with rfl | hy
        · exact hx
        · exact a2 y hy
      · rw [hh_i_si p1.2 ct83 (by decide), if_neg (by decide), hh_i_sa (by decide), i2]
      · rw [hh_i_si p1.2 ct83 (by decide), if_pos ⟨rfl, rfl⟩, List.length_cons]
      · rw [hh_a_si (by decide), hh_a_sa (hh_L_lt hL1 (by decide)), if_pos rfl]
        cases i with
        | zero =>
          simp only [List.getElem?_cons_zero, Option.some.injEq] at hi
          rw [show ((hd + 511) % 512 + 0) % 512 = (hd + 511) % 512 by omega, getD_set_eq (by omega), hi]
        | succ i =>
          simp only [List.getElem?_cons_succ] at hi
          have hil : i < Q.length := (List.getElem?_eq_some_iff.mp hi).1
          rw [show ((hd + 511) % 512 + (i + 1)) % 512 = (hd + i) % 512 by omega, getD_set_ne (by omega), hh_a_si (by decide)]
          exact b4 i y hi
  · refine ⟨h, sg_X1_putAhead_0 hL (fun _ => sg_X1_putAhead_50 hL rfl) (fun t => ?_), hh_F_rf, ?_⟩
    · rw [b3] at t
      have := (ii_lt (b := 512) (by omega) (by omega)).mp t
      omega
    · rw [if_neg hlt]
      exact ⟨a1, a2, hd, b1, b2, b3, b4⟩
theorem sp_putBehind {x : Nat} {Q : List Nat} (hL : hh_L h) (hq : qR h Q) (hx : x < 140) : ∃ h', tr_L g (d + 1) m_X1_putBehind 0 [some (.ref 1083), some (.int (Int32.ofNat x))] [] h (.inl none, h') ∧ hh_F [83, 85] h h' ∧ qR h' (if Q.length < 512 then Q ++ [x] else Q) := by
  obtain ⟨a1, a2, hd, b1, b2, b3, b4⟩ := hq
  by_cases hlt : Q.length < 512
  · have e1 : (hh_i h 83 2 + hh_i h 83 3) - (hh_i h 83 2 + hh_i h 83 3) / 512 * 512 = Int32.ofNat ((hd + Q.length) % 512) := by
      rw [b2, b3, show (512 : Int32) = Int32.ofNat 512 from rfl, ii_a, ii_r (by omega) (by omega)]
    have p1 := sp_put (g := g) (d := d) (a := 85) (k := (hd + Q.length) % 512) (y := Int32.ofNat x) hL rfl (by decide) (by omega)
    have i3 : hh_i (hh_sa h 85 0 ((hh_a h 85).set ((hd + Q.length) % 512) (Int32.ofNat x))) 83 3 = Int32.ofNat Q.length := by
      rw [hh_i_sa (by decide)]
      exact b3
    have hlen : (hh_a h 85).length = 512 := (hh_arr hL (k := 85) (t := 0) rfl).2
    refine ⟨_, sg_X1_putBehind_0 hL (fun t => ?_) (fun _ => sg_X1_putBehind_10 hL (by rw [e1]; exact p1) rfl), hh_F_tr (hh_F_sa (by decide)) (hh_F_si (by decide)), ?_⟩
    · rw [b3] at t
      have := (ii_le (a := 512) (by omega) (by omega)).mp t
      omega
    · rw [if_pos hlt, i3, ii_s]
      refine ⟨by simp; omega, fun y hy => ?_, hd, b1, ?_, ?_, fun i y hi => ?_⟩
      · rcases List.mem_append.mp hy with hy | hy
        · exact a2 y hy
        · rw [List.mem_singleton.mp hy]
          exact hx
      · rw [hh_i_si p1.2 ct83 (by decide), if_neg (by decide), hh_i_sa (by decide), b2]
      · rw [hh_i_si p1.2 ct83 (by decide), if_pos ⟨rfl, rfl⟩, List.length_append]
        rfl
      · rw [hh_a_si (by decide), hh_a_sa (hh_L_lt hL (by decide)), if_pos rfl]
        by_cases hil : i < Q.length
        · rw [List.getElem?_append_left hil] at hi
          rw [getD_set_ne (by omega)]
          exact b4 i y hi
        · rw [List.getElem?_append_right (by omega)] at hi
          have : i = Q.length := by
            have := (List.getElem?_eq_some_iff.mp hi).1
            simp at this
            omega
          subst this
          simp at hi
          rw [getD_set_eq (by omega), hi]
  · refine ⟨h, sg_X1_putBehind_0 hL (fun _ => sg_X1_putBehind_41 hL rfl) (fun t => ?_), hh_F_rf, ?_⟩
    · rw [b3] at t
      have := (ii_lt (b := 512) (by omega) (by omega)).mp t
      omega
    · rw [if_neg hlt]
      exact ⟨a1, a2, hd, b1, b2, b3, b4⟩
theorem sp_takeFirst {x : Nat} {Q : List Nat} (hL : hh_L h) (hq : qR h (x :: Q)) : ∃ h', tr_L g (d + 1) m_X1_takeFirst 0 [some (.ref 1083), none] [] h (.inl (some (.int (Int32.ofNat x))), h') ∧ hh_F [83, 85] h h' ∧ qR h' Q := by
  obtain ⟨a1, a2, hd, b1, b2, b3, b4⟩ := hq
  have a3 : Q.length + 1 ≤ 512 := a1
  have at1 := sp_atL (g := g) (d := d) (a := 85) (k := hd) hL rfl (by decide) (by omega)
  rw [show (hh_a h 85).getD hd 0 = Int32.ofNat x by
    have := b4 0 x rfl
    rwa [show (hd + 0) % 512 = hd by omega] at this] at at1
  have e1 : (hh_i h 83 2 + 1) - (hh_i h 83 2 + 1) / 512 * 512 = Int32.ofNat ((hd + 1) % 512) := by
    rw [b2, show (512 : Int32) = Int32.ofNat 512 from rfl, ii_s, ii_r (by omega) (by omega)]
  have hL1 := hh_L_si (sl := 2) (x := Int32.ofNat ((hd + 1) % 512)) hL ct83 rfl
  have i3 : hh_i (hh_si h 83 5 2 (Int32.ofNat ((hd + 1) % 512))) 83 3 = Int32.ofNat (Q.length + 1) := by
    rw [hh_i_si hL ct83 (by decide), if_neg (by decide)]
    exact b3
  have e2 : Int32.ofNat (Q.length + 1) - 1 = Int32.ofNat Q.length := ii_u _ 1 (by omega)
  refine ⟨hh_si (hh_si h 83 5 2 (Int32.ofNat ((hd + 1) % 512))) 83 5 3 (Int32.ofNat Q.length), sg_X1_takeFirst_0 hL (by rw [b2]; exact at1) (by rw [e1, i3, e2]), hh_F_tr (hh_F_si (by decide)) (hh_F_si (by decide)), by omega, fun y hy => a2 y (List.mem_cons_of_mem _ hy), (hd + 1) % 512, by omega, ?_, ?_, fun i y hi => ?_⟩
  · rw [hh_i_si hL1 ct83 (by decide), if_neg (by decide), hh_i_si hL ct83 (by decide), if_pos ⟨rfl, rfl⟩]
  · rw [hh_i_si hL1 ct83 (by decide), if_pos ⟨rfl, rfl⟩]
  · rw [hh_a_si (by decide), hh_a_si (by decide), show ((hd + 1) % 512 + i) % 512 = (hd + (i + 1)) % 512 by omega]
    exact b4 (i + 1) y (by simpa using hi)
def sR (h : ev_AH) (S : QS) : Prop := eR h 84 S.1 ∧ qR h S.2
theorem sp_reach {y e : Nat} {b : Bool} {S : QS} (hL : hh_L h) (hs : sR h S) (hy : y < 140) (he : e ≤ 1001) : ∃ h', tr_L g (d + 2) m_X1_reach 0 [some (.ref 1083), some (.int (Int32.ofNat y)), some (.int (Int32.ofNat e)), some (.int (if b then 1 else 0))] [] h (.inl none, h') ∧ hh_F [83, 84, 85] h h' ∧ sR h' (rc S y e b) := by
  have hS := hs.1 y hy
  have a1 := sp_atL (g := g) (d := d + 1) (a := 84) (k := y) hL rfl (by decide) (by omega)
  rw [hS.1] at a1
  by_cases hlt : e < S.1 y
  · have p1 := sp_put (g := g) (d := d + 1) (a := 84) (k := y) (y := Int32.ofNat e) hL rfl (by decide) (by omega)
    have F1 : hh_F [83, 84, 85] h (hh_sa h 84 0 ((hh_a h 84).set y (Int32.ofNat e))) := hh_F_sa (by decide)
    have e1 : eR (hh_sa h 84 0 ((hh_a h 84).set y (Int32.ofNat e))) 84 (upE S.1 y e) := eR_set hL rfl rfl hs.1 (by omega)
    have q1 : qR (hh_sa h 84 0 ((hh_a h 84).set y (Int32.ofNat e))) S.2 := qR_F (hh_F_sa (List.mem_singleton.mpr rfl)) (by decide) (by decide) hs.2
    have nl : ∀ {P : Prop}, (Int32.ofNat (S.1 y) ≤ Int32.ofNat e → P) := fun t => by
      have := (ii_le (by omega) (by omega)).mp t
      omega
    cases b with
    | true =>
      obtain ⟨h', r1, r2, r3⟩ := sp_putAhead (g := g) (d := d) p1.2 q1 hy
      refine ⟨h', sg_X1_reach_0 hL a1 (fun t => nl t) (fun _ => sg_X1_reach_12 hL p1 (fun t => absurd t (by decide)) (fun _ => sg_X1_reach_25 p1.2 r1 rfl)), hh_F_tr F1 (hh_F_w r2 (by decide)), ?_⟩
      rw [rc, if_pos hlt]
      exact ⟨eR_F r2 (by decide) e1, r3⟩
    | false =>
      obtain ⟨h', r1, r2, r3⟩ := sp_putBehind (g := g) (d := d) p1.2 q1 hy
      refine ⟨h', sg_X1_reach_0 hL a1 (fun t => nl t) (fun _ => sg_X1_reach_12 hL p1 (fun _ => sg_X1_reach_33 p1.2 r1 rfl) (fun t => absurd rfl t)), hh_F_tr F1 (hh_F_w r2 (by decide)), ?_⟩
      rw [rc, if_pos hlt]
      exact ⟨eR_F r2 (by decide) e1, r3⟩
  · refine ⟨h, sg_X1_reach_0 hL a1 (fun _ => sg_X1_reach_38 hL rfl) (fun t => ?_), hh_F_rf, ?_⟩
    · have := (ii_lt (by omega) (by omega)).mp t
      omega
    · rw [rc, if_neg hlt]
      exact hs
theorem sp_goOn {c : CT} {x : Nat} {S : QS} (hL : hh_L h) (hc : cC h 1 = c) (hco : ∀ y ∈ ct_co c, tr_ch y) (hs : sR h S) (hx : x < 140) : ∃ h', tr_L g (d + 3) m_X1_goOn 0 [some (.ref 1083), some (.ref 1001), some (.int (Int32.ofNat x)), none, none, none, none, none, none, none] [] h (.inl none, h') ∧ hh_F [83, 84, 85] h h' ∧ sR h' (go (ct_c c) x S) := by
  have hq : x / 4 < 35 := by omega
  have hw : x % 4 < 4 := by omega
  have eq1 : Int32.ofNat x / 4 = Int32.ofNat (x / 4) := ii_d (b := 4) (by omega) (by omega)
  have eq2 : Int32.ofNat x - Int32.ofNat (x / 4) * 4 = Int32.ofNat (x % 4) := by
    rw [← eq1]
    exact ii_r (b := 4) (by omega) (by omega)
  have a1 := sp_atcL (g := g) (d := d + 2) (a := 2) (k := x / 4) hL rfl (by decide) (by omega) (by rw [show hh_a h 2 = ct_co (cC h 1) from rfl, hc]; exact hco)
  rw [show (hh_a h 2).getD (x / 4) 0 = ct_c c (x / 4) by rw [← hc]; rfl] at a1
  by_cases h99 : ct_c c (x / 4) = 99
  · refine ⟨h, sg_X1_goOn_0 hL (by rw [eq1]; exact a1) (fun t => absurd h99 t) (fun _ => sg_X1_goOn_26 hL rfl), hh_F_rf, ?_⟩
    rw [go, if_pos h99]
    exact hs
  · have hlit : bx_refl (ct_c c (x / 4)) (x % 4) < 4 := bx_refl_lt hw
    have hSx := hs.1 x hx
    have r1 := sp_refl (g := g) (d := d + 2) (c := ct_c c (x / 4)) hL hw
    have a2 := sp_atL (g := g) (d := d + 2) (a := 84) (k := x) hL rfl (by decide) (by omega)
    rw [hSx.1] at a2
    have key : ∀ m t (S' : QS), t + m = 4 → ∀ (h1 : ev_AH), hh_L h1 → hh_F [83, 84, 85] h h1 → sR h1 S' → ∃ h', (∀ w2 w5 w9 : Option Value, tr_L g (d + 3) m_X1_goOn 49 [some (.ref 1083), some (.ref 1001), w2, some (.int (Int32.ofNat (x / 4))), some (.int (Int32.ofNat (x % 4))), w5, some (.int (Int32.ofNat (bx_refl (ct_c c (x / 4)) (x % 4)))), some (.int (Int32.ofNat (S.1 x))), some (.int (Int32.ofNat t)), w9] [] h1 (.inl none, h')) ∧ hh_F [83, 84, 85] h h' ∧ sR h' (gl (x / 4) (x % 4) (bx_refl (ct_c c (x / 4)) (x % 4)) (S.1 x) m t S') := by
      intro m
      induction m with
      | zero =>
        intro t S' ht h1 hL1 hF1 hs1
        refine ⟨h1, fun w2 w5 w9 => sg_X1_goOn_49 hL1 (fun _ => sg_X1_goOn_128 hL1 rfl) (fun t2 => ?_), hF1, hs1⟩
        have := (ii_lt (b := 4) (by omega) (by omega)).mp t2
        omega
      | succ m ih =>
        intro t S' ht h1 hL1 hF1 hs1
        have ht4 : t < 4 := by omega
        have o1 := sp_opp (g := g) (d := d + 2) hL1 hw
        have olt := bx_opp_lt hw
        have n4 : ∀ {P : Prop}, ((4 : Int32) ≤ Int32.ofNat t → P) := fun t2 => by
          have := (ii_le (a := 4) (by omega) (by omega)).mp t2
          omega
        by_cases e1 : t = bx_opp (x % 4)
        · obtain ⟨h', s1, s2, s3⟩ := ih (t + 1) S' (by omega) h1 hL1 hF1 hs1
          refine ⟨h', fun w2 w5 w9 => sg_X1_goOn_49 hL1 (fun t2 => n4 t2) (fun _ => sg_X1_goOn_55 hL1 o1 (fun t2 => absurd (by rw [e1]) t2) (fun _ => sg_X1_goOn_65 hL1 (fun _ => sg_X1_goOn_122 hL1 (by rw [ii_s]; exact s1 _ _ _)) (fun t2 => absurd rfl t2))), s2, ?_⟩
          rw [gl, gt1, if_pos e1]
          exact s3
        · have ne1 : Int32.ofNat t ≠ Int32.ofNat (bx_opp (x % 4)) := fun e => e1 ((ii_eq (by omega) (by omega)).mp e)
          have nb := sp_nb (g := g) (d := d + 2) hL1 hq ht4
          rcases bx_nb_cases hq ht4 with ⟨f1, f2⟩ | ⟨f1, f2, f3⟩
          · obtain ⟨h', s1, s2, s3⟩ := ih (t + 1) S' (by omega) h1 hL1 hF1 hs1
            refine ⟨h', fun w2 w5 w9 => sg_X1_goOn_49 hL1 (fun t2 => n4 t2) (fun _ => sg_X1_goOn_55 hL1 o1 (fun _ => sg_X1_goOn_69 hL1 nb (fun _ => sg_X1_goOn_122 hL1 (by rw [ii_s]; exact s1 _ _ _)) (fun t2 => absurd f2 t2)) (fun t2 => absurd t2 ne1)), s2, ?_⟩
            rw [gl, gt1, if_neg e1, if_pos f1]
            exact s3
          · have hy : 4 * bx_nb (x / 4) t + t < 140 := bx_in f1 ht4
            have sd := sp_side (g := g) (d := d + 2) (q := bx_nb (x / 4) t) (w := t) hL1
            by_cases el : t = bx_refl (ct_c c (x / 4)) (x % 4)
            · obtain ⟨h2, u1, u2, u3⟩ := sp_reach (g := g) (d := d) (y := 4 * bx_nb (x / 4) t + t) (e := S.1 x) (b := true) hL1 hs1 hy (by omega)
              obtain ⟨h', s1, s2, s3⟩ := ih (t + 1) _ (by omega) h2 u1.2 (hh_F_tr hF1 u2) u3
              refine ⟨h', fun w2 w5 w9 => sg_X1_goOn_49 hL1 (fun t2 => n4 t2) (fun _ => sg_X1_goOn_55 hL1 o1 (fun _ => sg_X1_goOn_69 hL1 nb (fun t2 => absurd t2 f3) (fun _ => ?_)) (fun t2 => absurd t2 ne1)), s2, ?_⟩
              · rw [f2]
                refine sg_X1_goOn_83 hL1 sd (fun t2 => absurd (by rw [← el]) t2) (fun _ => sg_X1_goOn_98 hL1 (fun t2 => absurd (by rw [← el]) t2) (fun _ => sg_X1_goOn_114 hL1 u1 ?_))
                rw [ii_s]
                exact s1 _ _ _
              · rw [gl, gt1, if_neg e1, if_neg (by omega), if_pos el, decide_eq_true el]
                exact s3
            · have nel : Int32.ofNat t ≠ Int32.ofNat (bx_refl (ct_c c (x / 4)) (x % 4)) := fun e => el ((ii_eq (by omega) (by omega)).mp e)
              obtain ⟨h2, u1, u2, u3⟩ := sp_reach (g := g) (d := d) (y := 4 * bx_nb (x / 4) t + t) (e := S.1 x + 1) (b := false) hL1 hs1 hy (by omega)
              obtain ⟨h', s1, s2, s3⟩ := ih (t + 1) _ (by omega) h2 u1.2 (hh_F_tr hF1 u2) u3
              refine ⟨h', fun w2 w5 w9 => sg_X1_goOn_49 hL1 (fun t2 => n4 t2) (fun _ => sg_X1_goOn_55 hL1 o1 (fun _ => sg_X1_goOn_69 hL1 nb (fun t2 => absurd t2 f3) (fun _ => ?_)) (fun t2 => absurd t2 ne1)), s2, ?_⟩
              · rw [f2]
                refine sg_X1_goOn_83 hL1 sd (fun _ => sg_X1_goOn_103 hL1 (fun _ => sg_X1_goOn_118 hL1 (by rw [ii_s]; exact u1) ?_) (fun t2 => absurd t2 nel)) (fun t2 => absurd t2 nel)
                rw [ii_s]
                exact s1 _ _ _
              · rw [gl, gt1, if_neg e1, if_neg (by omega), if_neg el, decide_eq_false el]
                exact s3
    obtain ⟨h', s1, s2, s3⟩ := key 4 0 S (by omega) h hL hh_F_rf hs
    refine ⟨h', sg_X1_goOn_0 hL (by rw [eq1]; exact a1) (fun _ => ?_) (fun t => absurd t h99), s2, ?_⟩
    · rw [eq1, eq2]
      exact sg_X1_goOn_27 hL r1 a2 (s1 _ _ _)
    · rw [go, if_neg h99]
      exact s3
theorem sp_startQ {p : Nat} (hL : hh_L h) (hp : p < 24) : ∃ h', tr_L g (d + 1) m_X1_start 0 [some (.ref 1083), some (.int (Int32.ofNat p)), none] [] h (.inl (some (.int (Int32.ofNat (pe p)))), h') ∧ hh_F [84] h h' ∧ eR h' 84 (E0 p) := by
  obtain ⟨hbc, hbd⟩ := bx_facts p hp
  have key : ∀ m x, x + m = 140 → ∀ (h1 : ev_AH), hh_L h1 → hh_F [84] h h1 → (∀ i, i < x → (hh_a h1 84).getD i 0 = 1000) → ∃ h', tr_L g (d + 1) m_X1_start 2 [some (.ref 1083), some (.int (Int32.ofNat p)), some (.int (Int32.ofNat x))] [] h1 (.inl (some (.int (Int32.ofNat (pe p)))), h') ∧ hh_F [84] h h' ∧ eR h' 84 (E0 p) := by
    intro m
    induction m with
    | zero =>
      intro x hx h1 hL1 hF1 hi
      have hx0 : x = 140 := hx
      subst hx0
      have p1 := sp_put (g := g) (d := d) (a := 84) (k := pe p) (y := 0) hL1 rfl (by decide) (by have := pe_lt hp; omega)
      refine ⟨_, sg_X1_start_2 hL1 (fun _ => sg_X1_start_26 hL1 (sp_cellAt hL1 hp) (sp_dirAt hL1 hp) (sp_side hL1) p1 rfl) (fun t => ?_), hh_F_tr hF1 (hh_F_sa (by decide)), ?_⟩
      · have := (ii_lt (a := 140) (b := 140) (by omega) (by omega)).mp t
        omega
      · exact eR_set (E := fun _ => 1000) (e := 0) hL1 rfl rfl (fun i hi2 => ⟨hi i hi2, Nat.le_refl _⟩) (by omega)
    | succ m ih =>
      intro x hx h1 hL1 hF1 hi
      have hlen : (hh_a h1 84).length = 140 := (hh_arr hL1 (k := 84) (t := 0) rfl).2
      have hLn := hh_L_ss (j := x) (x := 1000) hL1 (show hh_t[84]? = some (.inl (0, 140)) from rfl)
      obtain ⟨h', r1, r2, r3⟩ := ih (x + 1) (by omega) _ hLn (hh_F_tr hF1 (hh_F_sa (by decide))) (fun i hi2 => by
        rw [hh_a_sa (hh_L_lt hL1 (by decide)), if_pos rfl]
        by_cases e : x = i
        · subst e
          exact getD_set_eq (by omega)
        · rw [getD_set_ne e]
          exact hi i (by omega))
      refine ⟨h', sg_X1_start_2 hL1 (fun t => ?_) (fun _ => sg_X1_start_11 hL1 (e0 := rfl) (b0 := by omega) ?_), r2, r3⟩
      · have := (ii_le (a := 140) (by omega) (by omega)).mp t
        omega
      · rw [ii_s]
        exact r1
  obtain ⟨h', r1, r2, r3⟩ := key 140 0 (by omega) h hL hh_F_rf (fun i hi => absurd hi (by omega))
  exact ⟨h', sg_X1_start_0 hL r1, r2, r3⟩
theorem sp_effortQ {E : Nat → Nat} {q : Nat} (hL : hh_L h) (he : eR h 84 E) (hq : q < 35) : tr_L g (d + 1) m_X1_effortInto 0 [some (.ref 1083), some (.int (Int32.ofNat q)), none, none, none] [] h (.inl (some (.int (Int32.ofNat (ef E q)))), h) := by
  have key : ∀ m w l, w + m = 4 → l ≤ 1000 → ∀ w4 : Option Value, tr_L g (d + 1) m_X1_effortInto 6 [some (.ref 1083), some (.int (Int32.ofNat q)), some (.int (Int32.ofNat l)), some (.int (Int32.ofNat w)), w4] [] h (.inl (some (.int (Int32.ofNat (ei E q m w l)))), h) := by
    intro m
    induction m with
    | zero =>
      intro w l hw hl w4
      refine sg_X1_effortInto_6 hL (fun _ => sg_X1_effortInto_44 hL rfl) (fun t => ?_)
      have := (ii_lt (b := 4) (by omega) (by omega)).mp t
      omega
    | succ m ih =>
      intro w l hw hl w4
      have hE := he (4 * q + w) (bx_in hq (by omega))
      have a1 := sp_atL (g := g) (d := d) (a := 84) (k := 4 * q + w) hL rfl (by decide) (by omega)
      rw [hE.1] at a1
      refine sg_X1_effortInto_6 hL (fun t => ?_) (fun _ => sg_X1_effortInto_11 hL (sp_side hL) a1 (fun t => sg_X1_effortInto_36 hL ?_) (fun t => sg_X1_effortInto_31 hL ?_))
      · have := (ii_le (a := 4) (by omega) (by omega)).mp t
        omega
      · have := (ii_le (by omega) (by omega)).mp t
        rw [ii_s, ei, if_neg (by omega)]
        exact ih (w + 1) l (by omega) hl _
      · have := (ii_lt (by omega) (by omega)).mp t
        rw [ii_s, ei, if_pos this]
        exact ih (w + 1) _ (by omega) hE.2 _
  exact sg_X1_effortInto_0 hL (key 4 0 1000 (by omega) (by omega) _)
theorem sp_searchQ {c : CT} {p : Nat} (hL : hh_L h) (hc : cC h 1 = c) (hco : ∀ y ∈ ct_co c, tr_ch y) (hp : p < 24) : ∃ h', tr_L g (d + 4) m_X1_searchByQueue 0 [some (.ref 1083), some (.ref 1001), some (.int (Int32.ofNat p)), none] [] h (.inl none, h') ∧ hh_F [83, 84, 85] h h' ∧ eR h' 84 (sq (ct_c c) 512 (E0 p, [pe p])).1 := by
  have key : ∀ m st (S : QS), st + m = 512 → ∀ (h1 : ev_AH), hh_L h1 → hh_F [83, 84, 85] h h1 → sR h1 S → ∃ h', tr_L g (d + 4) m_X1_searchByQueue 21 [some (.ref 1083), some (.ref 1001), some (.int (Int32.ofNat p)), some (.int (Int32.ofNat st))] [] h1 (.inl none, h') ∧ hh_F [83, 84, 85] h h' ∧ eR h' 84 (sq (ct_c c) m S).1 := by
    intro m
    induction m with
    | zero =>
      intro st S hst h1 hL1 hF1 hs1
      refine ⟨h1, sg_X1_searchByQueue_21 hL1 (fun _ => sg_X1_searchByQueue_50 hL1 rfl) (fun t => ?_), hF1, hs1.1⟩
      have := (ii_lt (b := 512) (by omega) (by omega)).mp t
      omega
    | succ m ih =>
      intro st S hst h1 hL1 hF1 hs1
      obtain ⟨E, Q⟩ := S
      have n4 : ∀ {P : Prop}, ((512 : Int32) ≤ Int32.ofNat st → P) := fun t2 => by
        have := (ii_le (a := 512) (by omega) (by omega)).mp t2
        omega
      obtain ⟨-, -, hd, -, -, b3, -⟩ := hs1.2
      cases Q with
      | nil =>
        refine ⟨h1, sg_X1_searchByQueue_21 hL1 (fun t => n4 t) (fun _ => sg_X1_searchByQueue_28 hL1 (fun _ => sg_X1_searchByQueue_50 hL1 rfl) (fun t => ?_)), hF1, ?_⟩
        · rw [b3] at t
          exact absurd ((ii_lt (a := 0) (b := 0) (by omega) (by omega)).mp t) (Nat.lt_irrefl 0)
        · exact hs1.1
      | cons x Q =>
        have hx : x < 140 := hs1.2.2.1 x List.mem_cons_self
        have hl : Q.length + 1 ≤ 512 := hs1.2.1
        have b3 : hh_i h1 83 3 = Int32.ofNat (Q.length + 1) := b3
        obtain ⟨h2, u1, u2, u3⟩ := sp_takeFirst (g := g) (d := d + 2) hL1 hs1.2
        have hF2 : hh_F [83, 84, 85] h h2 := hh_F_tr hF1 (hh_F_w u2 (by decide))
        have hc2 : cC h2 1 = c := (cC_F hF2 (by decide)).trans hc
        obtain ⟨h3, v1, v2, v3⟩ := sp_goOn (g := g) (d := d) (S := (E, Q)) u1.2 hc2 hco ⟨eR_F u2 (by decide) hs1.1, u3⟩ hx
        obtain ⟨h', s1, s2, s3⟩ := ih (st + 1) _ (by omega) h3 v1.2 (hh_F_tr hF2 v2) v3
        refine ⟨h', sg_X1_searchByQueue_21 hL1 (fun t => n4 t) (fun _ => sg_X1_searchByQueue_28 hL1 (fun t => ?_) (fun _ => sg_X1_searchByQueue_35 hL1 u1 v1 rfl ?_)), s2, s3⟩
        · rw [b3] at t
          have := (ii_le (b := 0) (by omega) (by omega)).mp t
          omega
        · rw [ii_s]
          exact s1
  have hL1 := hh_L_si (sl := 2) (x := 0) hL ct83 rfl
  have hL2 := hh_L_si (sl := 3) (x := 0) hL1 ct83 rfl
  obtain ⟨h3, u1, u2, u3⟩ := sp_startQ (g := g) (d := d + 2) hL2 hp
  have q0 : qR h3 [] := by
    refine ⟨by simp, fun x hx => (by cases hx), 0, by omega, ?_, ?_, fun i x hx => (by simp at hx)⟩
    · rw [hh_F_i u2 (by decide), hh_i_si hL1 ct83 (by decide), if_neg (by decide), hh_i_si hL ct83 (by decide), if_pos ⟨rfl, rfl⟩]; rfl
    · rw [hh_F_i u2 (by decide), hh_i_si hL1 ct83 (by decide), if_pos ⟨rfl, rfl⟩]; rfl
  obtain ⟨h4, v1, v2, v3⟩ := sp_putAhead (g := g) (d := d + 2) (x := pe p) u1.2 q0 (pe_lt hp)
  have hF4 : hh_F [83, 84, 85] h h4 := hh_F_tr (hh_F_tr (hh_F_tr (hh_F_si (by decide)) (hh_F_si (by decide))) (hh_F_w u2 (by decide))) (hh_F_w v2 (by decide))
  obtain ⟨h', s1, s2, s3⟩ := key 512 0 (E0 p, [pe p]) (by omega) h4 v1.2 hF4 ⟨eR_F v2 (by decide) u3, v3⟩
  exact ⟨h', sg_X1_searchByQueue_0 hL u1 v1 s1, s2, s3⟩
end
