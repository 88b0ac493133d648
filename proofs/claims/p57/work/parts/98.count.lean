/-! COUNTS; ranks -/
def cnt (p : Nat → Bool) : Nat → Nat
  | 0 => 0
  | n + 1 => cnt p n + (if p n then 1 else 0)
theorem cnt_le {p : Nat → Bool} : ∀ n, cnt p n ≤ n
  | 0 => Nat.le_refl _
  | n + 1 => by
    have := cnt_le (p := p) n
    simp only [cnt]
    split <;> omega
theorem cnt_mono {p q : Nat → Bool} : ∀ n, (∀ k, k < n → p k = true → q k = true) → cnt p n ≤ cnt q n
  | 0, _ => Nat.le_refl _
  | n + 1, h => by
    have ih := cnt_mono n (fun k hk => h k (by omega))
    have h1 := h n (by omega)
    simp only [cnt]
    cases hp : p n with
    | true => rw [h1 hp]; simp; omega
    | false => simp; omega
theorem cnt_lt {p q : Nat → Bool} : ∀ n, (∀ k, k < n → p k = true → q k = true) → (∃ k, k < n ∧ q k = true ∧ p k = false) → cnt p n < cnt q n
  | 0, _, ⟨k, hk, _⟩ => absurd hk (by omega)
  | n + 1, h, ⟨k, hk, hq, hp⟩ => by
    simp only [cnt]
    by_cases e : k = n
    · subst e
      have := cnt_mono k (fun j hj => h j (by omega))
      rw [hq, hp]
      simp
      omega
    · have ih := cnt_lt n (fun k hk => h k (by omega)) ⟨k, by omega, hq, hp⟩
      have h1 := h n (by omega)
      cases hp' : p n with
      | true => rw [h1 hp']; simp; omega
      | false => simp; omega
theorem cnt_true : ∀ n, cnt (fun _ => true) n = n
  | 0 => rfl
  | n + 1 => by simp [cnt, cnt_true n]
theorem cnt_sum {p : Nat → Bool} : ∀ n, mm_sum (fun k => if p k then 1 else 0) n = Int32.ofNat (cnt p n)
  | 0 => rfl
  | n + 1 => by
    rw [mm_sum, cnt_sum n]
    simp only [cnt]
    cases p n with
    | true => exact ii_s _
    | false => exact Int32.add_zero _
/-- different numbers below m: at most m -/
theorem pigeon : ∀ (m n : Nat) (f : Nat → Nat), (∀ k, k < n → f k < m) → (∀ j, j < n → ∀ k, k < n → f j = f k → j = k) → n ≤ m
  | 0, n, f, h, _ => by
    rcases Nat.eq_zero_or_pos n with e | e
    · omega
    · exact absurd (h 0 e) (by omega)
  | m + 1, n, f, h, inj => by
    by_cases hk : ∃ k, k < n ∧ f k = m
    · obtain ⟨k0, hk0, e0⟩ := hk
      have := pigeon m (n - 1) (fun k => if k = k0 then f (n - 1) else f k) (fun k hk => by
        try simp only
        split
        · rename_i e
          have h1 := h (n - 1) (by omega)
          rcases Nat.lt_or_ge (f (n - 1)) m with h2 | h2
          · exact h2
          · have e3 : f (n - 1) = f k0 := by omega
            have := inj _ (by omega) _ hk0 e3
            omega
        · rename_i e
          have h1 := h k (by omega)
          rcases Nat.lt_or_ge (f k) m with h2 | h2
          · exact h2
          · have e3 : f k = f k0 := by omega
            exact absurd (inj _ (by omega) _ hk0 e3) e) (fun j hj k hk e => by
        try simp only at e
        split at e
        · rename_i e1
          split at e
          · rename_i e2
            omega
          · have := inj _ (by omega) _ (by omega) e
            omega
        · split at e
          · have := inj _ (by omega) _ (by omega) e
            omega
          · exact inj _ (by omega) _ (by omega) e)
      omega
    · have := pigeon m n f (fun k hk' => by
        have h1 := h k hk'
        rcases Nat.lt_or_ge (f k) m with h2 | h2
        · exact h2
        · exact absurd ⟨k, hk', by omega⟩ hk) inj
      omega
theorem onto {n : Nat} {f : Nat → Nat} (h : ∀ k, k < n → f k < n) (inj : ∀ j, j < n → ∀ k, k < n → f j = f k → j = k) {P : Nat} (hP : P < n) : ∃ k, k < n ∧ f k = P := by
  by_cases hk : ∃ k, k < n ∧ f k = P
  · exact hk
  · have ne : ∀ k, k < n → f k ≠ P := fun k hk' e => hk ⟨k, hk', e⟩
    have := pigeon (n - 1) n (fun k => if P < f k then f k - 1 else f k) (fun k hk' => by
      have h1 := h k hk'
      have h2 := ne k hk'
      try simp only
      split <;> omega) (fun j hj k hk' e => by
      have h2 := ne k hk'
      have h3 := ne j hj
      try simp only at e
      refine inj j hj k hk' ?_
      split at e <;> split at e <;> omega)
    omega
/-- the places in a strict order -/
theorem rank_all {n : Nat} {lt : Nat → Nat → Bool} (irr : ∀ k, lt k k = false) (tra : ∀ i j k, i < n → j < n → k < n → lt i j = true → lt j k = true → lt i k = true) (tot : ∀ j k, j < n → k < n → j ≠ k → lt j k = true ∨ lt k j = true) : (∀ k, k < n → cnt (fun o => lt o k) n < n) ∧ (∀ j, j < n → ∀ k, k < n → cnt (fun o => lt o j) n = cnt (fun o => lt o k) n → j = k) := by
  have up : ∀ j k, j < n → k < n → lt j k = true → cnt (fun o => lt o j) n < cnt (fun o => lt o k) n := fun j k hj hk h => cnt_lt n (fun o ho h2 => tra o j k ho hj hk h2 h) ⟨j, hj, h, irr j⟩
  refine ⟨fun k hk => ?_, fun j hj k hk e => ?_⟩
  · have := cnt_lt (p := fun o => lt o k) (q := fun _ => true) n (fun _ _ _ => rfl) ⟨k, hk, rfl, irr k⟩
    rw [cnt_true] at this
    exact this
  · by_cases h : j = k
    · exact h
    · rcases tot j k hj hk h with h | h
      · have := up j k hj hk h
        omega
      · have := up k j hk hj h
        omega
/-- the last one that is found is the first one, if there is but one -/
theorem lst_find {p : Nat → Bool} {n k : Nat} (hk : k < n) (hp : p k = true) (un : ∀ j, j < n → p j = true → j = k) : mm_lst p n = k ∧ mm_find p n = k := by
  constructor
  · have : ∀ m, m ≤ n → k < m → mm_lst p m = k := by
      intro m
      induction m with
      | zero => intro _ h; exact absurd h (by omega)
      | succ m ih =>
        intro hm hkm
        rw [mm_lst]
        by_cases e : p m = true
        · rw [if_pos e]
          exact un m (by omega) e
        · rw [if_neg e]
          refine ih (by omega) ?_
          rcases Nat.lt_or_ge k m with h | h
          · exact h
          · have : k = m := by omega
            rw [← this] at e
            exact absurd hp e
    exact this n (Nat.le_refl _) hk
  · refine mm_find_at hk hp (fun j hj => ?_)
    cases e : p j with
    | false => rfl
    | true =>
      have := un j (by omega) e
      omega
/-- what the first one found tells -/
def an_first (p : Nat → Bool) (n : Nat) : Int32 ⊕ Nat := if mm_find p n < n then .inl (Int32.ofNat (mm_find p n)) else .inr 3
theorem an_rank {n : Nat} {lt : Nat → Nat → Bool} {x : Int32} (hn : n < 1000) (irr : ∀ k, lt k k = false) (tra : ∀ i j k, i < n → j < n → k < n → lt i j = true → lt j k = true → lt i k = true) (tot : ∀ j k, j < n → k < n → j ≠ k → lt j k = true ∨ lt k j = true) : (match idx n x with | none => (.inr 3 : Int32 ⊕ Nat) | some _ => .inl (Int32.ofNat (mm_lst (fun k => mm_sum (fun o => if lt o k then 1 else 0) n == x) n))) = an_first (fun k => mm_sum (fun o => if lt o k then 1 else 0) n == x) n := by
  obtain ⟨r1, r2⟩ := rank_all irr tra tot
  have cs : ∀ k, mm_sum (fun o => if lt o k then 1 else 0) n = Int32.ofNat (cnt (fun o => lt o k) n) := fun k => cnt_sum n
  unfold an_first
  rcases idx_c (m := n) (by omega) x with ⟨P, hP, e3, e4⟩ | ⟨e3, e4⟩
  · rw [e4]
    try simp only
    obtain ⟨k, hk, e⟩ := onto r1 r2 hP
    have pk : (mm_sum (fun o => if lt o k then 1 else 0) n == x) = true := by rw [cs, e, e3]; exact beq_self_eq_true _
    obtain ⟨l1, l2⟩ := lst_find (p := fun k => mm_sum (fun o => if lt o k then 1 else 0) n == x) hk pk (fun j hj hpj => by
      refine r2 j hj k hk ?_
      rw [cs, e3] at hpj
      have h1 := r1 j hj
      have := (ii_eq (by omega) (by omega)).mp (beq_iff_eq.mp hpj)
      omega)
    rw [l1, l2, if_pos hk]
  · rw [e3]
    try simp only
    rw [if_neg]
    intro h
    have hsp := (mm_find_spec (fun k => mm_sum (fun o => if lt o k then 1 else 0) n == x) n).1 h
    try simp only at hsp
    rw [cs] at hsp
    exact e4 _ (r1 _ h) (beq_iff_eq.mp hsp).symm
theorem an_catBy_eq {c : CT} {n B : Nat} {x : Int32} (w : cw c n B) (hB : B < 100000) : an_catBy c n x = an_first (fun k => ct_ah c n k == x) n := by
  have h7 := w.1.2.1
  have he : ∀ k, ∃ m : Nat, k < n → m < 100000 ∧ (ct_he c).getD k 0 = Int32.ofNat m := fun k => by
    by_cases hk : k < n
    · obtain ⟨m, m1, m2⟩ := w.2.2.2.2.2.1 k hk
      exact ⟨m, fun _ => ⟨by omega, m2⟩⟩
    · exact ⟨0, fun h => absurd h hk⟩
  have hc : ∀ k, ∃ q : Nat, k < n → q < 35 ∧ (ct_ce c).getD k 0 = Int32.ofNat q := fun k => by
    by_cases hk : k < n
    · obtain ⟨q, q1, q2⟩ := w.1.2.2.2.1 k hk
      exact ⟨q, fun _ => ⟨q1, q2⟩⟩
    · exact ⟨0, fun h => absurd h hk⟩
  have bef : ∀ i j, i < n → j < n → ∀ (a b q r : Nat), (a < 100000 ∧ (ct_he c).getD i 0 = Int32.ofNat a) → (b < 100000 ∧ (ct_he c).getD j 0 = Int32.ofNat b) → (q < 35 ∧ (ct_ce c).getD i 0 = Int32.ofNat q) → (r < 35 ∧ (ct_ce c).getD j 0 = Int32.ofNat r) → ct_bef c i j = decide (b < a ∨ (a = b ∧ q < r)) := by
    intro i j hi hj a b q r ⟨ha, ea⟩ ⟨hb, eb⟩ ⟨hq, eq⟩ ⟨hr, er⟩
    unfold ct_bef
    rw [ea, eb, eq, er]
    have e1 : (Int32.ofNat a - Int32.ofNat b).toInt = (a : Int) - b := ii_su (m := a) (n := b) (by omega) (by omega)
    apply decide_eq_decide.mpr
    rw [Int32.lt_iff_toInt_lt, ← Int32.toInt_inj, e1, ii_lt (by omega) (by omega)]
    have z : (0 : Int32).toInt = 0 := by decide
    rw [z]
    omega
  refine an_rank (lt := ct_bef c) (by omega) (fun k => ?_) (fun i j k hi hj hk h1 h2 => ?_) (fun j k hj hk hne => ?_)
  · unfold ct_bef
    apply decide_eq_false
    rintro (h | ⟨_, h⟩)
    · rw [Int32.sub_self] at h
      exact absurd h (by decide)
    · exact absurd h Int32.lt_irrefl
  · obtain ⟨a, fa⟩ := he i
    obtain ⟨b, fb⟩ := he j
    obtain ⟨e, fe⟩ := he k
    obtain ⟨q, fq⟩ := hc i
    obtain ⟨r, fr⟩ := hc j
    obtain ⟨s, fs⟩ := hc k
    rw [bef i j hi hj a b q r (fa hi) (fb hj) (fq hi) (fr hj)] at h1
    rw [bef j k hj hk b e r s (fb hj) (fe hk) (fr hj) (fs hk)] at h2
    rw [bef i k hi hk a e q s (fa hi) (fe hk) (fq hi) (fs hk)]
    have h1 := of_decide_eq_true h1
    have h2 := of_decide_eq_true h2
    exact decide_eq_true (by omega)
  · obtain ⟨b, fb⟩ := he j
    obtain ⟨e, fe⟩ := he k
    obtain ⟨r, fr⟩ := hc j
    obtain ⟨s, fs⟩ := hc k
    rw [bef j k hj hk b e r s (fb hj) (fe hk) (fr hj) (fs hk), bef k j hk hj e b s r (fe hk) (fb hj) (fs hk) (fr hj)]
    have hrs : r ≠ s := fun t => hne (w.2.2.2.1 j hj k hk (by rw [(fr hj).2, (fs hk).2, t]))
    by_cases h : e < b ∨ (b = e ∧ r < s)
    · exact Or.inl (decide_eq_true h)
    · exact Or.inr (decide_eq_true (by omega))
theorem ry_len {co : Nat → Int32} : ∀ (m q w len b : Nat), (ry co m q w len b).2.1 ≤ len + m
  | 0, _, _, len, _ => Nat.le_refl _
  | m + 1, q, w, len, b => by
    unfold ry
    split
    · simp
    · split
      · simp
      · have := ry_len (co := co) m (bx_nb q (bx_refl (co q) w)) (bx_refl (co q) w) (len + 1) (if co q = 46 then b else b + 1)
        omega
theorem rl_len {c : CT} {p : Nat} : (ct_ry c p).2.1 ≤ 140 := by
  have := ry_len (co := ct_c c) 140 (bx_cell p) (bx_dir p) 0 0
  unfold ct_ry
  omega
theorem an_portBy_eq {c : CT} {x : Int32} : an_portBy c x = an_first (fun p => pAh c p == x) 24 := by
  have pa : ∀ i j, pA c j i = decide ((ct_ry c j).2.1 < (ct_ry c i).2.1 ∨ ((ct_ry c i).2.1 = (ct_ry c j).2.1 ∧ i < j)) := fun i j => by
    have h1 := rl_len (c := c) (p := i)
    have h2 := rl_len (c := c) (p := j)
    unfold pA rl
    rw [← Bool.decide_and, ← Bool.decide_or]
    apply decide_eq_decide.mpr
    rw [ii_lt (by omega) (by omega), ii_eq (by omega) (by omega)]
  refine an_rank (lt := fun o p => pA c p o) (by omega) (fun k => ?_) (fun i j k hi hj hk h1 h2 => ?_) (fun j k hj hk hne => ?_)
  · try simp only
    rw [pa]
    exact decide_eq_false (by omega)
  · try simp only at h1 h2 ⊢
    rw [pa] at h1 h2 ⊢
    have h1 := of_decide_eq_true h1
    have h2 := of_decide_eq_true h2
    exact decide_eq_true (by omega)
  · try simp only
    rw [pa, pa]
    by_cases h : ((ct_ry c k).2.1 < (ct_ry c j).2.1 ∨ ((ct_ry c j).2.1 = (ct_ry c k).2.1 ∧ j < k))
    · exact Or.inl (decide_eq_true h)
    · exact Or.inr (decide_eq_true (by omega))
