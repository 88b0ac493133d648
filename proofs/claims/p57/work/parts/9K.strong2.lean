/-! STRENGTHS: by thresholds -/
def cl (y m r : Nat) : Nat := bif m.testBit y then m ||| r else m
def fst4 (y : Nat) (L : Nat → Nat) (a : Nat) : Nat := cl y (L a) (L y)
def fL (L : Nat → Nat) : Nat → Nat := fst4 3 (fst4 2 (fst4 1 (fst4 0 L)))
def rst (L : Nat → Nat) (m : Nat) : Nat := cl 3 (cl 2 (cl 1 (cl 0 m (L 0)) (L 1)) (L 2)) (L 3)
def rL (L : Nat → Nat) (m : Nat) : Nat := rst L (rst L (rst L m))
def b4 (x y z w : Bool) : Nat := x.toNat + 2 * y.toNat + 4 * z.toNat + 8 * w.toNat
def rows4 (r0 r1 r2 r3 a : Nat) : Nat := match a with | 0 => r0 | 1 => r1 | 2 => r2 | _ => r3
def allP (f : Bool → Bool → Bool) : Bool := f false false && (f true false && f false true)
def all4 (f : Nat → Bool) : Bool := f 0 && (f 1 && (f 2 && f 3))
def chk (R : Nat → Nat) : Bool := all4 (fun a => Nat.beq (fL R a ||| 1 <<< a) (rL R (1 <<< a)) && all4 (fun b => !((fL R a).testBit b) || Nat.beq (fL R a ||| (fL R b ||| 1 <<< a)) (fL R a ||| 1 <<< a)))
set_option maxRecDepth 100000 in
theorem chk_all : allP (fun p q => allP (fun a b => allP (fun c d => allP (fun e f => allP (fun g h => allP (fun i j => chk (rows4 (b4 false p a c) (b4 q false e g) (b4 b f false i) (b4 d h j false)))))))) = true := by decide +kernel
theorem allP_of {f : Bool → Bool → Bool} (h : allP f = true) {p q : Bool} (hpq : ¬ (p = true ∧ q = true)) : f p q = true := by
  unfold allP at h
  rw [Bool.and_eq_true, Bool.and_eq_true] at h
  cases p <;> cases q
  · exact h.1
  · exact h.2.2
  · exact h.2.1
  · exact absurd ⟨rfl, rfl⟩ hpq
theorem all4_of {f : Nat → Bool} (h : all4 f = true) {a : Nat} (ha : a < 4) : f a = true := by
  unfold all4 at h
  rw [Bool.and_eq_true, Bool.and_eq_true, Bool.and_eq_true] at h
  have ha4 : a = 0 ∨ a = 1 ∨ a = 2 ∨ a = 3 := by omega
  rcases ha4 with rfl | rfl | rfl | rfl
  · exact h.1
  · exact h.2.1
  · exact h.2.2.1
  · exact h.2.2.2
theorem b4_bit : ∀ x y z w : Bool, b4 x y z w < 16 ∧ (b4 x y z w).testBit 0 = x ∧ (b4 x y z w).testBit 1 = y ∧ (b4 x y z w).testBit 2 = z ∧ (b4 x y z w).testBit 3 = w := by decide +kernel
theorem cl_lt : ∀ y, y < 4 → ∀ m, m < 16 → ∀ r, r < 16 → cl y m r < 16 := by decide +kernel
theorem rwo_cl0 : ∀ a, a < 4 → ∀ m, m < 16 → ∀ r, r < 16 → rwo (fun _ b => r.testBit b) a 4 0 m = cl a m r := by decide +kernel
theorem rwo_cl {v : Nat → Nat → Bool} {a m r : Nat} (ha : a < 4) (hm : m < 16) (hr : r < 16) (h : ∀ b, b < 4 → v a b = r.testBit b) : rwo v a 4 0 m = cl a m r := by
  rw [← rwo_cl0 a ha m hm r hr]
  have e : ∀ i, i < 4 → ∀ m, rw1 v a i m = rw1 (fun _ b => r.testBit b) a i m := fun i hi m => by
    unfold rw1
    rw [h i hi]
  simp only [rwo]
  rw [e 0 (by omega), e (0 + 1) (by omega), e (0 + 1 + 1) (by omega), e (0 + 1 + 1 + 1) (by omega)]
/-- the rows of a graph -/
def isR (v : Nat → Nat → Bool) (R : Nat → Nat) : Prop := (∀ a, a < 4 → R a < 16) ∧ ∀ a, a < 4 → ∀ b, b < 4 → v a b = (R a).testBit b
theorem rwn_cl {v : Nat → Nat → Bool} {R : Nat → Nat} {m : Nat} (h : isR v R) (hm : m < 16) : rwn v 4 0 m = rst R m ∧ rst R m < 16 := by
  have l0 := cl_lt 0 (by omega) m hm (R 0) (h.1 0 (by omega))
  have l1 := cl_lt 1 (by omega) _ l0 (R 1) (h.1 1 (by omega))
  have l2 := cl_lt 2 (by omega) _ l1 (R 2) (h.1 2 (by omega))
  have l3 := cl_lt 3 (by omega) _ l2 (R 3) (h.1 3 (by omega))
  refine ⟨?_, l3⟩
  unfold rst
  simp only [rwn]
  rw [rwo_cl (r := R 0) (by omega) hm (h.1 0 (by omega)) (h.2 0 (by omega)), rwo_cl (r := R 1) (by omega) l0 (h.1 1 (by omega)) (h.2 1 (by omega)), rwo_cl (r := R 2) (by omega) l1 (h.1 2 (by omega)) (h.2 2 (by omega)), rwo_cl (r := R 3) (by omega) l2 (h.1 3 (by omega)) (h.2 3 (by omega))]
theorem rws_cl {v : Nat → Nat → Bool} {R : Nat → Nat} {m : Nat} (h : isR v R) (hm : m < 16) : rws v 3 m = rL R m := by
  have h1 := rwn_cl h hm
  have h2 := rwn_cl h h1.2
  have h3 := rwn_cl h h2.2
  simp only [rws]
  rw [h1.1, h2.1, h3.1]
  rfl
theorem mxI_t {t x y : Int32} : decide (t ≤ mxI x y) = (decide (t ≤ x) || decide (t ≤ y)) := by
  unfold mxI
  rw [← Bool.decide_or]
  apply decide_eq_decide.mpr
  split
  · rename_i h
    exact ⟨Or.inr, fun h2 => h2.elim (fun h3 => Int32.le_trans h3 (Int32.le_of_lt h)) id⟩
  · rename_i h
    exact ⟨Or.inl, fun h2 => h2.elim id (fun h3 => Int32.le_trans h3 (Int32.not_lt.mp h))⟩
theorem mnI_t {t x y : Int32} : decide (t ≤ mnI x y) = (decide (t ≤ x) && decide (t ≤ y)) := by
  unfold mnI
  rw [← Bool.decide_and]
  apply decide_eq_decide.mpr
  split
  · rename_i h
    exact ⟨fun h2 => ⟨Int32.le_trans h2 (Int32.le_of_lt h), h2⟩, fun h2 => h2.2⟩
  · rename_i h
    exact ⟨fun h2 => ⟨h2, Int32.le_trans h2 (Int32.not_lt.mp h)⟩, fun h2 => h2.1⟩
theorem bit_or1 : ∀ m, m < 16 → ∀ b, b < 4 → ∀ q, q < 4 → (m ||| (1 <<< b)).testBit q = (decide (q = b) || m.testBit q) := by decide +kernel
theorem or_self1 : ∀ m, m < 16 → ∀ b, b < 4 → m.testBit b = true → m ||| (1 <<< b) = m := by decide +kernel
/-- the table of numbers, seen from a threshold: the rows, one of them under way -/
def sRm (t : Int32) (l : List Int32) (L : Nat → Nat) (a m : Nat) : Prop := l.length = 16 ∧ m < 16 ∧ (∀ x, x < 4 → x ≠ a → ∀ b, b < 4 → decide (t ≤ tI l x b) = (L x).testBit b) ∧ ∀ b, b < 4 → decide (t ≤ tI l a b) = m.testBit b
theorem sRm_1 {t : Int32} {l : List Int32} {L : Nat → Nat} {y a b m : Nat} (hy : y < 4) (ha : a < 4) (hb : b < 4) (hL : L y < 16) (hay : a = y → m = L y) (s : sRm t l L a m) : sRm t (fw1 y a b l) L a (rw1 (fun _ b => (L y).testBit b) y b m) ∧ (a = y → rw1 (fun _ b => (L y).testBit b) y b m = L y) := by
  obtain ⟨s1, s2, s3, s4⟩ := s
  have e1 := s4 y hy
  have e2 : decide (t ≤ tI l y b) = (L y).testBit b := by
    by_cases e : y = a
    · subst e
      rw [s4 b hb, hay rfl]
    · exact s3 y hy e b hb
  refine ⟨⟨by rw [fw1, List.length_set]; exact s1, rw1_lt hb s2, fun x hx hxa q hq => ?_, fun q hq => ?_⟩, fun e => ?_⟩
  · rw [fw1, tI_set s1 hx hq ha hb, if_neg (fun h => hxa h.1)]
    exact s3 x hx hxa q hq
  · rw [fw1, tI_set s1 ha hq ha hb]
    by_cases e : q = b
    · rw [if_pos ⟨rfl, e⟩, mxI_t, mnI_t, e1, e2, s4 b hb, e]
      unfold rw1
      cases c : (m.testBit y && (L y).testBit b) with
      | true => rw [if_pos rfl, bit_or1 m s2 b hb b hb, decide_eq_true rfl]
      | false => rw [if_neg (by decide)]; simp
    · rw [if_neg (fun h => e h.2), s4 q hq]
      unfold rw1
      cases c : (m.testBit y && (L y).testBit b) with
      | true => rw [if_pos rfl, bit_or1 m s2 b hb q hq, decide_eq_false e]; rfl
      | false => rw [if_neg (by decide)]
  · rw [hay e]
    unfold rw1
    split
    · rename_i h
      rw [Bool.and_eq_true] at h
      exact or_self1 _ hL b hb h.2
    · rfl
theorem sRm_o {t : Int32} {L : Nat → Nat} {y a : Nat} (hy : y < 4) (ha : a < 4) (hL : L y < 16) : ∀ (z b : Nat) (l : List Int32) (m : Nat), b + z = 4 → (a = y → m = L y) → sRm t l L a m → sRm t (fwo y a z b l) L a (rwo (fun _ b => (L y).testBit b) y z b m)
  | 0, _, _, _, _, _, s => s
  | z + 1, b, l, m, hb, e, s => sRm_o hy ha hL z (b + 1) _ _ (by omega) (sRm_1 hy ha (by omega) hL e s).2 (sRm_1 hy ha (by omega) hL e s).1
/-- the rows from `k` on are old -/
def sRn (t : Int32) (l : List Int32) (L : Nat → Nat) (y k : Nat) : Prop := l.length = 16 ∧ ∀ x, x < 4 → ∀ b, b < 4 → decide (t ≤ tI l x b) = (if x < k then fst4 y L x else L x).testBit b
theorem cl_self : ∀ y, y < 4 → ∀ m, m < 16 → cl y m m = m := by decide +kernel
theorem sRn_1 {t : Int32} {l : List Int32} {L : Nat → Nat} {y k : Nat} (hy : y < 4) (hk : k < 4) (hL : ∀ a, a < 4 → L a < 16) (s : sRn t l L y k) : sRn t (fwo y k 4 0 l) L y (k + 1) := by
  obtain ⟨s1, s2⟩ := s
  have ey : fst4 y L y = L y := cl_self y hy _ (hL y hy)
  obtain ⟨F, hF⟩ : ∃ F : Nat → Nat, ∀ x, F x = if x < k then fst4 y L x else L x := ⟨_, fun _ => rfl⟩
  have h0 : sRm t l F k (L k) := ⟨s1, hL k hk, fun x hx _ b hb => by rw [hF]; exact s2 x hx b hb, fun b hb => by rw [s2 k hk b hb, if_neg (by omega)]⟩
  have eL : F y = L y := by
    rw [hF]
    split
    · exact ey
    · rfl
  have h1 := sRm_o (y := y) hy hk (by rw [eL]; exact hL y hy) 4 0 l (L k) (by omega) (fun e => by rw [eL, e]) h0
  rw [eL, rwo_cl0 y hy _ (hL k hk) _ (hL y hy)] at h1
  refine ⟨h1.1, fun x hx b hb => ?_⟩
  by_cases e : x = k
  · rw [e, if_pos (by omega)]
    exact h1.2.2.2 b hb
  · rw [h1.2.2.1 x hx e b hb, hF]
    by_cases e2 : x < k
    · rw [if_pos e2, if_pos (by omega)]
    · rw [if_neg e2, if_neg (by omega)]
theorem sRn_n {t : Int32} {L : Nat → Nat} {y : Nat} (hy : y < 4) (hL : ∀ a, a < 4 → L a < 16) : ∀ (z k : Nat) (l : List Int32), k + z = 4 → sRn t l L y k → sRn t (fwn y z k l) L y 4
  | 0, k, _, hk, s => by have e : k = 4 := by omega
                         rw [e] at s; exact s
  | z + 1, k, l, hk, s => sRn_n hy hL z (k + 1) _ (by omega) (sRn_1 hy (by omega) hL s)
/-- the table of numbers, seen from a threshold -/
def sR2 (t : Int32) (l : List Int32) (L : Nat → Nat) : Prop := l.length = 16 ∧ (∀ a, a < 4 → L a < 16) ∧ ∀ a, a < 4 → ∀ b, b < 4 → decide (t ≤ tI l a b) = (L a).testBit b
theorem sR2_1 {t : Int32} {l : List Int32} {L : Nat → Nat} {y : Nat} (hy : y < 4) (s : sR2 t l L) : sR2 t (fwn y 4 0 l) (fst4 y L) := by
  obtain ⟨s1, s2, s3⟩ := s
  obtain ⟨h1, h2⟩ := sRn_n (t := t) hy s2 4 0 l (by omega) ⟨s1, fun x hx b hb => by rw [if_neg (by omega)]; exact s3 x hx b hb⟩
  exact ⟨h1, fun a ha => cl_lt y hy _ (s2 a ha) _ (s2 y hy), fun a ha b hb => by rw [h2 a ha b hb, if_pos ha]⟩
theorem sR2_b {t : Int32} {l : List Int32} {L : Nat → Nat} (s : sR2 t l L) : sR2 t (fwb 4 0 l) (fL L) := by
  unfold fL
  simp only [fwb]
  exact sR2_1 (by omega) (sR2_1 (by omega) (sR2_1 (by omega) (sR2_1 (by omega) s)))
theorem sR2_0 {c : CT} {n : Nat} {t : Int32} {L : Nat → Nat} (h : isR (ct_vb c n t) L) : sR2 t (ct_vl c n) L := by
  refine ⟨ct_vl_len, h.1, fun a ha b hb => ?_⟩
  have h1 : tI (ct_vl c n) a b = ct_vi c n a b := by
    unfold tI
    simp [List.getD, ct_vl_get ha hb]
  rw [h1, ← h.2 a ha b hb]
  rfl
theorem st_thr {c : CT} {n a b : Nat} {t : Int32} {L : Nat → Nat} (h : isR (ct_vb c n t) L) (ha : a < 4) (hb : b < 4) : decide (t ≤ tI (ct_st c n) a b) = (fL L a).testBit b := (sR2_b (sR2_0 h)).2.2 a ha b hb
/-! all graphs without an edge and its way back -/
theorem graph_of {v : Nat → Nat → Bool} (irr : ∀ a, a < 4 → v a a = false) (asy : ∀ a b, a < 4 → b < 4 → ¬ (v a b = true ∧ v b a = true)) : ∃ R, isR v R ∧ chk R = true := by
  refine ⟨rows4 (b4 false (v 0 1) (v 0 2) (v 0 3)) (b4 (v 1 0) false (v 1 2) (v 1 3)) (b4 (v 2 0) (v 2 1) false (v 2 3)) (b4 (v 3 0) (v 3 1) (v 3 2) false), ⟨fun a ha => ?_, fun a ha b hb => ?_⟩, ?_⟩
  · have ha4 : a = 0 ∨ a = 1 ∨ a = 2 ∨ a = 3 := by omega
    rcases ha4 with rfl | rfl | rfl | rfl
    · exact (b4_bit _ _ _ _).1
    · exact (b4_bit _ _ _ _).1
    · exact (b4_bit _ _ _ _).1
    · exact (b4_bit _ _ _ _).1
  · have ha4 : a = 0 ∨ a = 1 ∨ a = 2 ∨ a = 3 := by omega
    have hb4 : b = 0 ∨ b = 1 ∨ b = 2 ∨ b = 3 := by omega
    rcases ha4 with rfl | rfl | rfl | rfl
    · rcases hb4 with rfl | rfl | rfl | rfl
      · exact (irr 0 ha).trans (b4_bit false (v 0 1) (v 0 2) (v 0 3)).2.1.symm
      · exact (b4_bit false (v 0 1) (v 0 2) (v 0 3)).2.2.1.symm
      · exact (b4_bit false (v 0 1) (v 0 2) (v 0 3)).2.2.2.1.symm
      · exact (b4_bit false (v 0 1) (v 0 2) (v 0 3)).2.2.2.2.symm
    · rcases hb4 with rfl | rfl | rfl | rfl
      · exact (b4_bit (v 1 0) false (v 1 2) (v 1 3)).2.1.symm
      · exact (irr 1 ha).trans (b4_bit (v 1 0) false (v 1 2) (v 1 3)).2.2.1.symm
      · exact (b4_bit (v 1 0) false (v 1 2) (v 1 3)).2.2.2.1.symm
      · exact (b4_bit (v 1 0) false (v 1 2) (v 1 3)).2.2.2.2.symm
    · rcases hb4 with rfl | rfl | rfl | rfl
      · exact (b4_bit (v 2 0) (v 2 1) false (v 2 3)).2.1.symm
      · exact (b4_bit (v 2 0) (v 2 1) false (v 2 3)).2.2.1.symm
      · exact (irr 2 ha).trans (b4_bit (v 2 0) (v 2 1) false (v 2 3)).2.2.2.1.symm
      · exact (b4_bit (v 2 0) (v 2 1) false (v 2 3)).2.2.2.2.symm
    · rcases hb4 with rfl | rfl | rfl | rfl
      · exact (b4_bit (v 3 0) (v 3 1) (v 3 2) false).2.1.symm
      · exact (b4_bit (v 3 0) (v 3 1) (v 3 2) false).2.2.1.symm
      · exact (b4_bit (v 3 0) (v 3 1) (v 3 2) false).2.2.2.1.symm
      · exact (irr 3 ha).trans (b4_bit (v 3 0) (v 3 1) (v 3 2) false).2.2.2.2.symm
  · have h1 := allP_of chk_all (asy 0 1 (by omega) (by omega))
    have h2 := allP_of h1 (asy 0 2 (by omega) (by omega))
    have h3 := allP_of h2 (asy 0 3 (by omega) (by omega))
    have h4 := allP_of h3 (asy 1 2 (by omega) (by omega))
    have h5 := allP_of h4 (asy 1 3 (by omega) (by omega))
    exact allP_of h5 (asy 2 3 (by omega) (by omega))
/-! the victories -/
theorem lk_nat {c : CT} {n a b : Nat} : ∃ k, k ≤ n ∧ ct_lk c n a b = Int32.ofNat k := by
  refine ⟨cnt (fun k => decide (ct_pl c k (Int32.ofNat a) < ct_pl c k (Int32.ofNat b))) n, cnt_le n, ?_⟩
  rw [← cnt_sum]
  refine mm_sum_congr (fun k _ => ?_)
  by_cases h : ct_pl c k (Int32.ofNat a) < ct_pl c k (Int32.ofNat b)
  · rw [if_pos h, decide_eq_true h, if_pos rfl]
  · rw [if_neg h, decide_eq_false h, if_neg (by decide)]
theorem vi_nat {c : CT} {n a b : Nat} : ∃ k, k ≤ n ∧ ct_vi c n a b = Int32.ofNat k := by
  unfold ct_vi
  split
  · exact lk_nat
  · exact ⟨0, by omega, rfl⟩
theorem vb_graph {c : CT} {n t : Nat} (h7 : n ≤ 7) (ht : 1 ≤ t) (ht2 : t ≤ 1000) : ∃ R, isR (ct_vb c n (Int32.ofNat t)) R ∧ chk R = true := by
  have pos : ∀ a b, ct_vb c n (Int32.ofNat t) a b = true → ct_lk c n b a < ct_lk c n a b := fun a b h => by
    have h := of_decide_eq_true h
    unfold ct_vi at h
    split at h
    · rename_i h2
      exact h2
    · have := (ii_le (b := 0) (by omega) (by omega)).mp h
      omega
  refine graph_of (fun a _ => ?_) (fun a b _ _ h => ?_)
  · cases e : ct_vb c n (Int32.ofNat t) a a with
    | false => rfl
    | true => exact absurd (pos a a e) Int32.lt_irrefl
  · exact Int32.lt_irrefl (Int32.lt_trans (pos a b h.1) (pos b a h.2))
theorem one_bit : ∀ a, a < 4 → (1 <<< a) < 16 ∧ ∀ b, b < 4 → a ≠ b → (1 <<< a).testBit b = false := by decide +kernel
theorem chk_of {c : CT} {n t : Nat} (h7 : n ≤ 7) (ht : 1 ≤ t) (ht2 : t ≤ 1000) : (∀ a, a < 4 → ∀ b, b < 4 → a ≠ b → decide (Int32.ofNat t ≤ tI (ct_st c n) a b) = (rws (ct_vb c n (Int32.ofNat t)) 3 (1 <<< a)).testBit b) ∧ ∀ a, a < 4 → ∀ b, b < 4 → ∀ e, e < 4 → a ≠ e → Int32.ofNat t ≤ tI (ct_st c n) a b → Int32.ofNat t ≤ tI (ct_st c n) b e → Int32.ofNat t ≤ tI (ct_st c n) a e := by
  obtain ⟨R, hR, hc⟩ := vb_graph (c := c) h7 ht ht2
  unfold chk at hc
  refine ⟨fun a ha b hb hab => ?_, fun a ha b hb e he h3 h4 h5 => ?_⟩
  · have h := all4_of hc ha
    rw [Bool.and_eq_true] at h
    have h1 := Nat.eq_of_beq_eq_true h.1
    rw [st_thr hR ha hb, rws_cl hR (one_bit a ha).1, ← h1, Nat.testBit_or, (one_bit a ha).2 b hb hab, Bool.or_false]
  · have h := all4_of hc ha
    rw [Bool.and_eq_true] at h
    have h2 := all4_of h.2 hb
    have g1 := (st_thr hR ha hb).symm.trans (decide_eq_true h4)
    have g2 := (st_thr hR hb he).symm.trans (decide_eq_true h5)
    rw [g1] at h2
    have h6 := congrArg (fun m => m.testBit e) (Nat.eq_of_beq_eq_true h2)
    simp only [Nat.testBit_or, g2, (one_bit a ha).2 e he h3, Bool.or_false, Bool.or_true] at h6
    exact of_decide_eq_true ((st_thr hR ha he).trans h6.symm)
/-! the numbers of the table -/
def allN (n : Nat) (l : List Int32) : Prop := l.length = 16 ∧ ∀ a, a < 4 → ∀ b, b < 4 → ∃ k, k ≤ n ∧ tI l a b = Int32.ofNat k
theorem allN_1 {n by_ a b : Nat} {l : List Int32} (hy : by_ < 4) (ha : a < 4) (hb : b < 4) (s : allN n l) : allN n (fw1 by_ a b l) := by
  refine ⟨by rw [fw1, List.length_set]; exact s.1, fun p hp q hq => ?_⟩
  rw [fw1, tI_set s.1 hp hq ha hb]
  split
  · unfold mxI mnI
    repeat' split
    · exact s.2 a ha b hb
    · exact s.2 by_ hy b hb
    · exact s.2 a ha b hb
    · exact s.2 a ha by_ hy
  · exact s.2 p hp q hq
theorem allN_o {n by_ a : Nat} (hy : by_ < 4) (ha : a < 4) : ∀ (m b : Nat) (l : List Int32), b + m = 4 → allN n l → allN n (fwo by_ a m b l)
  | 0, _, _, _, s => s
  | m + 1, b, l, hb, s => allN_o hy ha m (b + 1) _ (by omega) (allN_1 hy ha (by omega) s)
theorem allN_n {n by_ : Nat} (hy : by_ < 4) : ∀ (m a : Nat) (l : List Int32), a + m = 4 → allN n l → allN n (fwn by_ m a l)
  | 0, _, _, _, s => s
  | m + 1, a, l, ha, s => allN_n hy m (a + 1) _ (by omega) (allN_o hy (by omega) 4 0 _ (by omega) s)
theorem allN_b {n : Nat} : ∀ (m by_ : Nat) (l : List Int32), by_ + m = 4 → allN n l → allN n (fwb m by_ l)
  | 0, _, _, _, s => s
  | m + 1, by_, l, hb, s => allN_b m (by_ + 1) _ (by omega) (allN_n (by omega) 4 0 _ (by omega) s)
theorem st_nat {c : CT} {n : Nat} : allN n (ct_st c n) := allN_b 4 0 _ (by omega) ⟨ct_vl_len, fun a ha b hb => by
  have h1 : tI (ct_vl c n) a b = ct_vi c n a b := by
    unfold tI
    simp [List.getD, ct_vl_get ha hb]
  rw [h1]
  exact vi_nat⟩
theorem ty_of {c : CT} {n a b N : Nat} (h : ∀ t, 1 ≤ t → t ≤ 1000 → (rws (ct_vb c n (Int32.ofNat t)) 3 (1 <<< a)).testBit b = decide (t ≤ N)) : ∀ m, m ≤ 1000 → ct_ty c n a b m = min N m
  | 0, _ => by rw [ct_ty]; omega
  | m + 1, hm => by
    rw [ct_ty, h (m + 1) (by omega) hm]
    by_cases e : m + 1 ≤ N
    · rw [decide_eq_true e, if_pos rfl]
      omega
    · rw [decide_eq_false e, if_neg (by decide), ty_of h m (by omega)]
      omega
theorem agS_of {c : CT} {n : Nat} (h7 : n ≤ 7) : ag_S c n := fun a ha b hb hab => by
  obtain ⟨N, hN, eN⟩ := (st_nat (c := c) (n := n)).2 a ha b hb
  have key : ∀ t, 1 ≤ t → t ≤ 1000 → (rws (ct_vb c n (Int32.ofNat t)) 3 (1 <<< a)).testBit b = decide (t ≤ N) := fun t h1 h2 => by
    rw [← (chk_of (c := c) h7 h1 h2).1 a ha b hb hab, eN]
    exact decide_eq_decide.mpr (ii_le (by omega) (by omega))
  rw [eN, ty_of key n (by omega), Nat.min_eq_left hN]
/-- a way round is not better than the table -/
theorem st_clo {c : CT} {n a b e x y z : Nat} (h7 : n ≤ 7) (ha : a < 4) (hb : b < 4) (he : e < 4) (h1 : a ≠ b) (h2 : b ≠ e) (h3 : a ≠ e) (ex : tI (ct_st c n) a b = Int32.ofNat x) (ey : tI (ct_st c n) b e = Int32.ofNat y) (ez : tI (ct_st c n) a e = Int32.ofNat z) (hx : x ≤ n) (hy : y ≤ n) (hz : z ≤ n) : min x y ≤ z := by
  rcases Nat.eq_zero_or_pos (min x y) with h0 | h0
  · omega
  · have cl := (chk_of (c := c) (t := min x y) h7 h0 (by omega)).2 a ha b hb e he h3
    rw [ex, ey, ez] at cl
    exact (ii_le (by omega) (by omega)).mp (cl ((ii_le (by omega) (by omega)).mpr (by omega)) ((ii_le (by omega) (by omega)).mpr (by omega)))
theorem exS_of {c : CT} {n : Nat} (h7 : n ≤ 7) : ex_S c n := by
  have nat := (st_nat (c := c) (n := n)).2
  -- the numbers
  have T : ∃ T : Nat → Nat → Nat, ∀ a, a < 4 → ∀ b, b < 4 → T a b ≤ n ∧ tI (ct_st c n) a b = Int32.ofNat (T a b) := by
    refine ⟨fun a b => (tI (ct_st c n) a b).toNatClampNeg, fun a ha b hb => ?_⟩
    obtain ⟨k, h1, h2⟩ := nat a ha b hb
    have e : (tI (ct_st c n) a b).toNatClampNeg = k := by rw [h2, ii_cn (by omega)]
    exact ⟨Nat.le_trans (Nat.le_of_eq e) h1, h2.trans (congrArg Int32.ofNat e.symm)⟩
  obtain ⟨T, hT⟩ := T
  have clo : ∀ a b e, a < 4 → b < 4 → e < 4 → a ≠ b → b ≠ e → a ≠ e → min (T a b) (T b e) ≤ T a e := fun a b e ha hb he h1 h2 h3 => st_clo h7 ha hb he h1 h2 h3 (hT a ha b hb).2 (hT b hb e he).2 (hT a ha e he).2 (hT a ha b hb).1 (hT b hb e he).1 (hT a ha e he).1
  have tra : ∀ x y z, x < 4 → y < 4 → z < 4 → T y x < T x y → T z y < T y z → T z x < T x z := fun x y z hx hy hz h1 h2 => by
    have n1 : x ≠ y := fun e => by rw [e] at h1; omega
    have n2 : y ≠ z := fun e => by rw [e] at h2; omega
    have n3 : x ≠ z := fun e => by rw [e] at h1; omega
    have c1 := clo x y z hx hy hz n1 n2 n3
    have c2 := clo y z x hy hz hx n2 (fun e => n3 e.symm) (fun e => n1 e.symm)
    have c3 := clo z x y hz hx hy (fun e => n3 e.symm) n1 (fun e => n2 e.symm)
    omega
  have ex : ∀ k, k < 4 → ∃ m, m ≤ k ∧ ∀ j, j ≤ k → ¬ T m j < T j m := by
    intro k
    induction k with
    | zero =>
      intro _
      refine ⟨0, by omega, fun j hj => ?_⟩
      have : j = 0 := by omega
      rw [this]
      omega
    | succ k ih =>
      intro hk
      obtain ⟨m, hm, hj⟩ := ih (by omega)
      by_cases h : T m (k + 1) < T (k + 1) m
      · refine ⟨k + 1, by omega, fun j hjk hb => ?_⟩
        by_cases e : j = k + 1
        · rw [e] at hb
          omega
        · exact hj j (by omega) (tra j (k + 1) m (by omega) hk (by omega) hb h)
      · refine ⟨m, by omega, fun j hjk hb => ?_⟩
        by_cases e : j = k + 1
        · rw [e] at hb
          exact h hb
        · exact hj j (by omega) hb
  obtain ⟨m, hm, hj⟩ := ex 3 (by omega)
  refine ⟨m, by omega, fun hw => ?_⟩
  have hsp := (mm_find_spec (fun b => decide (tI (ct_st c n) m b < tI (ct_st c n) b m)) 4).1 hw
  have hlt : tI (ct_st c n) m (st_wk (ct_st c n) m) < tI (ct_st c n) (st_wk (ct_st c n) m) m := of_decide_eq_true hsp
  have hb : st_wk (ct_st c n) m < 4 := hw
  rw [(hT m (by omega) _ hb).2, (hT _ hb m (by omega)).2] at hlt
  have := (ii_lt (by have := (hT m (by omega) _ hb).1; omega) (by have := (hT _ hb m (by omega)).1; omega)).mp hlt
  exact hj _ (by omega) this
