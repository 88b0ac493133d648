/-! LEAST EFFORTS: what is closed and least is one; the queue and the rounds find it -/
def wt (co : Nat → Int32) (x t : Nat) : Nat := if t = bx_refl (co (x / 4)) (x % 4) then 0 else 1
def okE (co : Nat → Int32) (x t : Nat) : Prop := co (x / 4) ≠ 99 ∧ t ≠ bx_opp (x % 4) ∧ bx_nb (x / 4) t ≠ 35
def ny (x t : Nat) : Nat := 4 * bx_nb (x / 4) t + t
def CL (co : Nat → Int32) (p K : Nat) (F : Nat → Nat) : Prop := F (pe p) = 0 ∧ (∀ x, x < 140 → F x ≤ K) ∧ ∀ x, x < 140 → ∀ t, t < 4 → okE co x t → F (ny x t) ≤ F x + wt co x t
/-- not above any closed one -/
def LE (co : Nat → Int32) (p K : Nat) (E : Nat → Nat) : Prop := ∀ F, CL co p K F → ∀ x, x < 140 → F x ≤ E x
theorem ny_lt {x t : Nat} (hx : x < 140) (ht : t < 4) (h : bx_nb (x / 4) t ≠ 35) : ny x t < 140 := by
  have := bx_lt (q := x / 4) (w := t) (by omega) ht
  unfold ny
  omega
theorem nb_ne : ∀ q, q < 35 → ∀ t, t < 4 → bx_nb q t ≠ q := by decide +kernel
theorem ny_ne {x t : Nat} (hx : x < 140) (ht : t < 4) : ny x t ≠ x := fun e => by
  have := nb_ne (x / 4) (by omega) t ht
  unfold ny at e
  omega
theorem wt_le {co : Nat → Int32} {x t : Nat} : wt co x t ≤ 1 := by
  unfold wt
  split <;> omega
theorem CL_eq {co : Nat → Int32} {p K : Nat} {D E : Nat → Nat} (d1 : CL co p K D) (d2 : LE co p K D) (e1 : CL co p K E) (e2 : LE co p K E) : ∀ x, x < 140 → D x = E x := fun x hx => Nat.le_antisymm (e2 D d1 x hx) (d2 E e1 x hx)
def sumN (f : Nat → Nat) : Nat → Nat
  | 0 => 0
  | n + 1 => sumN f n + f n
theorem sumN_le {f f' : Nat → Nat} : ∀ n, (∀ k, k < n → f k ≤ f' k) → sumN f n ≤ sumN f' n
  | 0, _ => Nat.le_refl _
  | n + 1, h => by
    have := sumN_le n (fun k hk => h k (by omega))
    have := h n (by omega)
    simp only [sumN]
    omega
theorem sumN_lt {f f' : Nat → Nat} : ∀ n, (∀ k, k < n → f k ≤ f' k) → (∃ k, k < n ∧ f k < f' k) → sumN f n < sumN f' n
  | 0, _, ⟨k, hk, _⟩ => absurd hk (by omega)
  | n + 1, h, ⟨k, hk, hlt⟩ => by
    simp only [sumN]
    have h1 := h n (by omega)
    by_cases e : k = n
    · subst e
      have := sumN_le k (fun j hj => h j (by omega))
      omega
    · have := sumN_lt n (fun k hk => h k (by omega)) ⟨k, by omega, hlt⟩
      omega
theorem sumN_c {c : Nat} {f : Nat → Nat} : ∀ n, (∀ k, k < n → f k ≤ c) → sumN f n ≤ c * n
  | 0, _ => Nat.le_refl _
  | n + 1, h => by
    have := sumN_c n (fun k hk => h k (by omega))
    have := h n (by omega)
    simp only [sumN]
    rw [Nat.mul_succ]
    omega
/-! the queue -/
def setl (co : Nat → Int32) (E : Nat → Nat) (x : Nat) : Prop := ∀ t, t < 4 → okE co x t → E (ny x t) ≤ E x + wt co x t
def ph (E : Nat → Nat) (d x : Nat) : Nat := if E x ≤ d then 0 else if E x ≤ d + 1 then 1 else 2
/-- what holds of the queue A ++ B at the level d; of the entry x0 (if there is one), of the edges below t0 alone -/
def qI (co : Nat → Int32) (p d : Nat) (E : Nat → Nat) (A B : List Nat) (x0 : Option (Nat × Nat)) : Prop :=
  E (pe p) = 0 ∧ (∀ x, x < 140 → E x ≤ 1000) ∧ LE co p 1000 E ∧ (∀ x, x ∈ A → E x ≤ d) ∧ (∀ x, x ∈ B → E x ≤ d + 1) ∧ (∀ x, x ∈ A ++ B → x < 140) ∧
  (∀ x, x < 140 → setl co E x ∨ (E x = d ∧ x ∈ A) ∨ (E x = d + 1 ∧ x ∈ B) ∨ ∃ z, x0 = some z ∧ x = z.1 ∧ E x = d ∧ ∀ t, t < z.2 → okE co x t → E (ny x t) ≤ d + wt co x t) ∧ (∀ x, x < 140 → E x ≤ d + 1 ∨ E x = 1000)
def qP (d : Nat) (E : Nat → Nat) (A B : List Nat) : Nat := A.length + B.length + sumN (ph E d) 140
theorem qI_step {co : Nat → Int32} {p d x t : Nat} {E : Nat → Nat} {A B : List Nat} (hx : x < 140) (ht : t < 4) (hex : E x = d) (hc : co (x / 4) ≠ 99) (I : qI co p d E A B (some (x, t))) (hP : qP d E A B ≤ 511) : ∃ E' A' B', gt1 (x / 4) (x % 4) (bx_refl (co (x / 4)) (x % 4)) d t (E, A ++ B) = (E', A' ++ B') ∧ E' x = d ∧ qI co p d E' A' B' (some (x, t + 1)) ∧ qP d E' A' B' ≤ qP d E A B := by
  obtain ⟨i1, i2, i3, i4, i5, i6, i7, i8⟩ := I
  have keep : ∀ (hE : okE co x t → E (ny x t) ≤ d + wt co x t), qI co p d E A B (some (x, t + 1)) := fun hE => ⟨i1, i2, i3, i4, i5, i6, fun z hz => by
    rcases i7 z hz with h | h | h | ⟨w, e, h1, h2, h3⟩
    · exact Or.inl h
    · exact Or.inr (Or.inl h)
    · exact Or.inr (Or.inr (Or.inl h))
    · refine Or.inr (Or.inr (Or.inr ⟨(x, t + 1), rfl, ?_, h2, fun t' ht' ok => ?_⟩))
      · have := Option.some.inj e
        rw [h1, ← this]
      · have ew := Option.some.inj e
        subst ew
        have h1 : z = x := h1
        subst h1
        by_cases e2 : t' = t
        · subst e2
          exact hE ok
        · exact h3 t' (by show t' < t; have : t' < t + 1 := ht'; omega) ok, i8⟩
  unfold gt1
  by_cases h1 : t = bx_opp (x % 4)
  · rw [if_pos h1]
    exact ⟨E, A, B, rfl, hex, keep (fun ok => absurd h1 ok.2.1), Nat.le_refl _⟩
  · rw [if_neg h1]
    by_cases h2 : bx_nb (x / 4) t = 35
    · rw [if_pos h2]
      exact ⟨E, A, B, rfl, hex, keep (fun ok => absurd h2 ok.2.2), Nat.le_refl _⟩
    · rw [if_neg h2]
      have ok : okE co x t := ⟨hc, h1, h2⟩
      have hy := ny_lt hx ht h2
      have hyx := ny_ne (x := x) hx ht
      have ew : (if t = bx_refl (co (x / 4)) (x % 4) then d else d + 1) = d + wt co x t := by
        unfold wt
        split <;> rfl
      rw [ew]
      have eny : 4 * bx_nb (x / 4) t + t = ny x t := rfl
      rw [eny]
      unfold rc
      by_cases hlt : d + wt co x t < E (ny x t)
      · rw [if_pos hlt]
        have up : ∀ z, upE E (ny x t) (d + wt co x t) z = if z = ny x t then d + wt co x t else E z := fun z => rfl
        have upx : upE E (ny x t) (d + wt co x t) x = d := by rw [up, if_neg (fun e => hyx e.symm)]; exact hex
        have upl : ∀ z, upE E (ny x t) (d + wt co x t) z ≤ E z := fun z => by
          rw [up]
          split
          · rename_i e
            rw [e]
            omega
          · exact Nat.le_refl _
        have j1 : upE E (ny x t) (d + wt co x t) (pe p) = 0 := Nat.le_zero.mp (by rw [← i1]; exact upl _)
        have j2 : ∀ z, z < 140 → upE E (ny x t) (d + wt co x t) z ≤ 1000 := fun z hz => Nat.le_trans (upl z) (i2 z hz)
        have j3 : LE co p 1000 (upE E (ny x t) (d + wt co x t)) := fun F hF z hz => by
          rw [up]
          split
          · rename_i e
            rw [e]
            have h4 := hF.2.2 x hx t ht ok
            have h5 := i3 F hF x hx
            omega
          · exact i3 F hF z hz
        have js : ∀ z, z < 140 → z ≠ ny x t → setl co E z → setl co (upE E (ny x t) (d + wt co x t)) z := fun z hz hne h t' ht' ok' => by
          have h3 := h t' ht' ok'
          have h4 := upl (ny z t')
          have h5 : upE E (ny x t) (d + wt co x t) z = E z := by rw [up, if_neg hne]
          rw [h5]
          omega
        have jx : ∀ t', t' < t + 1 → okE co x t' → (t' < t → E (ny x t') ≤ d + wt co x t') → upE E (ny x t) (d + wt co x t) (ny x t') ≤ d + wt co x t' := fun t' ht' ok' h => by
          by_cases e : t' = t
          · subst e
            rw [up, if_pos rfl]
            exact Nat.le_refl _
          · exact Nat.le_trans (upl _) (h (by omega))
        have len : (A ++ B).length < 512 := by
          have : A.length + B.length ≤ qP d E A B := by unfold qP; omega
          rw [List.length_append]
          omega
        rw [if_pos len]
        by_cases hw : t = bx_refl (co (x / 4)) (x % 4)
        · have w0 : wt co x t = 0 := by unfold wt; rw [if_pos hw]
          have eb : decide (t = bx_refl (co (x / 4)) (x % 4)) = true := decide_eq_true hw
          rw [eb, if_pos rfl]
          refine ⟨_, ny x t :: A, B, rfl, upx, ⟨j1, j2, j3, fun z hz => ?_, fun z hz => Nat.le_trans (upl z) (i5 z hz), fun z hz => ?_, fun z hz => ?_, fun z hz => ?_⟩, ?_⟩
          · rcases List.mem_cons.mp hz with e | e
            · rw [e, up, if_pos rfl, w0]; exact Nat.le_refl _
            · exact Nat.le_trans (upl z) (i4 z e)
          · rw [List.cons_append] at hz
            rcases List.mem_cons.mp hz with e | e
            · rw [e]; exact hy
            · exact i6 z e
          · by_cases hzy : z = ny x t
            · refine Or.inr (Or.inl ⟨by rw [hzy, up, if_pos rfl, w0]; rfl, by rw [hzy]; exact List.mem_cons_self⟩)
            · have hz0 : upE E (ny x t) (d + wt co x t) z = E z := by rw [up, if_neg hzy]
              rcases i7 z hz with h | h | h | ⟨w, e, h1, h2, h3⟩
              · exact Or.inl (js z hz hzy h)
              · exact Or.inr (Or.inl ⟨by rw [hz0]; exact h.1, List.mem_cons_of_mem _ h.2⟩)
              · exact Or.inr (Or.inr (Or.inl ⟨by rw [hz0]; exact h.1, h.2⟩))
              · have ew := Option.some.inj e
                subst ew
                have h1 : z = x := h1
                subst h1
                exact Or.inr (Or.inr (Or.inr ⟨(z, t + 1), rfl, rfl, upx, fun t' ht' ok' => jx t' ht' ok' (fun hl => h3 t' hl ok')⟩))
          · rw [up]
            split
            · exact Or.inl (by omega)
            · exact i8 z hz
          · show (ny x t :: A).length + B.length + sumN (ph (upE E (ny x t) (d + wt co x t)) d) 140 ≤ A.length + B.length + sumN (ph E d) 140
            have : sumN (ph (upE E (ny x t) (d + wt co x t)) d) 140 < sumN (ph E d) 140 := by
              refine sumN_lt 140 (fun k hk => ?_) ⟨ny x t, hy, ?_⟩
              · have := upl k
                unfold ph
                repeat' split
                all_goals omega
              · unfold ph
                rw [up, if_pos rfl, w0, if_pos (by omega)]
                repeat' split
                all_goals omega
            rw [List.length_cons]
            omega
        · have w1 : wt co x t = 1 := by unfold wt; rw [if_neg hw]
          have eb : decide (t = bx_refl (co (x / 4)) (x % 4)) = false := decide_eq_false hw
          rw [eb, if_neg (by decide)]
          refine ⟨_, A, B ++ [ny x t], by rw [List.append_assoc], upx, ⟨j1, j2, j3, fun z hz => Nat.le_trans (upl z) (i4 z hz), fun z hz => ?_, fun z hz => ?_, fun z hz => ?_, fun z hz => ?_⟩, ?_⟩
          · rcases List.mem_append.mp hz with e | e
            · exact Nat.le_trans (upl z) (i5 z e)
            · rw [List.mem_singleton.mp e, up, if_pos rfl, w1]; exact Nat.le_refl _
          · rw [← List.append_assoc] at hz
            rcases List.mem_append.mp hz with e | e
            · exact i6 z e
            · rw [List.mem_singleton.mp e]; exact hy
          · by_cases hzy : z = ny x t
            · refine Or.inr (Or.inr (Or.inl ⟨by rw [hzy, up, if_pos rfl, w1], by rw [hzy]; exact List.mem_append_right _ List.mem_cons_self⟩))
            · have hz0 : upE E (ny x t) (d + wt co x t) z = E z := by rw [up, if_neg hzy]
              rcases i7 z hz with h | h | h | ⟨w, e, h1, h2, h3⟩
              · exact Or.inl (js z hz hzy h)
              · exact Or.inr (Or.inl ⟨by rw [hz0]; exact h.1, h.2⟩)
              · exact Or.inr (Or.inr (Or.inl ⟨by rw [hz0]; exact h.1, List.mem_append_left _ h.2⟩))
              · have ew := Option.some.inj e
                subst ew
                have h1 : z = x := h1
                subst h1
                exact Or.inr (Or.inr (Or.inr ⟨(z, t + 1), rfl, rfl, upx, fun t' ht' ok' => jx t' ht' ok' (fun hl => h3 t' hl ok')⟩))
          · rw [up]
            split
            · exact Or.inl (by omega)
            · exact i8 z hz
          · show A.length + (B ++ [ny x t]).length + sumN (ph (upE E (ny x t) (d + wt co x t)) d) 140 ≤ A.length + B.length + sumN (ph E d) 140
            have : sumN (ph (upE E (ny x t) (d + wt co x t)) d) 140 < sumN (ph E d) 140 := by
              refine sumN_lt 140 (fun k hk => ?_) ⟨ny x t, hy, ?_⟩
              · have := upl k
                unfold ph
                repeat' split
                all_goals omega
              · unfold ph
                rw [up, if_pos rfl, w1, if_neg (by omega), if_pos (by omega)]
                repeat' split
                all_goals omega
            rw [List.length_append]
            simp
            omega
      · rw [if_neg hlt]
        exact ⟨E, A, B, rfl, hex, keep (fun _ => by omega), Nat.le_refl _⟩
theorem gl_step {co : Nat → Int32} {p d x : Nat} (hx : x < 140) (hc : co (x / 4) ≠ 99) : ∀ (m t : Nat) (E : Nat → Nat) (A B : List Nat), t + m = 4 → E x = d → qI co p d E A B (some (x, t)) → qP d E A B ≤ 511 → ∃ E' A' B', gl (x / 4) (x % 4) (bx_refl (co (x / 4)) (x % 4)) d m t (E, A ++ B) = (E', A' ++ B') ∧ E' x = d ∧ qI co p d E' A' B' (some (x, 4)) ∧ qP d E' A' B' ≤ qP d E A B
  | 0, t, E, A, B, ht, hex, I, _ => by
    have : t = 4 := by omega
    subst this
    exact ⟨E, A, B, rfl, hex, I, Nat.le_refl _⟩
  | m + 1, t, E, A, B, ht, hex, I, hP => by
    obtain ⟨E1, A1, B1, e1, e2, e3, e4⟩ := qI_step hx (by omega) hex hc I hP
    obtain ⟨E2, A2, B2, f1, f2, f3, f4⟩ := gl_step hx hc m (t + 1) E1 A1 B1 (by omega) e2 e3 (by omega)
    refine ⟨E2, A2, B2, ?_, f2, f3, by omega⟩
    rw [gl, e1]
    exact f1
theorem gl_same {co : Nat → Int32} {x : Nat} {E : Nat → Nat} {Q : List Nat} (hc : co (x / 4) ≠ 99) (hs : setl co E x) : ∀ (m t : Nat), t + m = 4 → gl (x / 4) (x % 4) (bx_refl (co (x / 4)) (x % 4)) (E x) m t (E, Q) = (E, Q)
  | 0, t, _ => rfl
  | m + 1, t, ht => by
    have : gt1 (x / 4) (x % 4) (bx_refl (co (x / 4)) (x % 4)) (E x) t (E, Q) = (E, Q) := by
      unfold gt1
      split
      · rfl
      · rename_i h1
        split
        · rfl
        · rename_i h2
          have := hs t (by omega) ⟨hc, h1, h2⟩
          unfold rc
          rw [if_neg]
          unfold wt ny at this
          split
          · rename_i h3
            rw [if_pos h3] at this
            simp only
            omega
          · rename_i h3
            rw [if_neg h3] at this
            simp only
            omega
    rw [gl, this]
    exact gl_same hc hs m (t + 1) (by omega)
theorem sq_run {co : Nat → Int32} {p : Nat} : ∀ (m d : Nat) (E : Nat → Nat) (A B : List Nat), qI co p d E A B none → qP d E A B ≤ m → m ≤ 512 → CL co p 1000 (sq co m (E, A ++ B)).1 ∧ LE co p 1000 (sq co m (E, A ++ B)).1 := by
  intro m
  induction m with
  | zero =>
    intro d E A B I hP _
    have hA : A = [] := by
      cases A with
      | nil => rfl
      | cons a A => unfold qP at hP; simp at hP
    have hB : B = [] := by
      cases B with
      | nil => rfl
      | cons a A => unfold qP at hP; simp at hP
    subst hA hB
    obtain ⟨i1, i2, i3, i4, i5, i6, i7, i8⟩ := I
    refine ⟨⟨i1, i2, fun x hx => ?_⟩, i3⟩
    rcases i7 x hx with h | ⟨_, h⟩ | ⟨_, h⟩ | ⟨_, h, _⟩
    · exact h
    · cases h
    · cases h
    · cases h
  | succ m ih =>
    -- the first of A is taken
    have main : ∀ (d : Nat) (E : Nat → Nat) (x : Nat) (A B : List Nat), qI co p d E (x :: A) B none → qP d E (x :: A) B ≤ m + 1 → m + 1 ≤ 512 → CL co p 1000 (sq co (m + 1) (E, (x :: A) ++ B)).1 ∧ LE co p 1000 (sq co (m + 1) (E, (x :: A) ++ B)).1 := by
      intro d E x A B I hP hm
      obtain ⟨i1, i2, i3, i4, i5, i6, i7, i8⟩ := I
      have hx : x < 140 := i6 x (by simp)
      have hxd : E x ≤ d := i4 x List.mem_cons_self
      have hP' : qP d E A B ≤ m := by
        unfold qP at hP ⊢
        rw [List.length_cons] at hP
        omega
      have e : sq co (m + 1) (E, (x :: A) ++ B) = sq co m (go co x (E, A ++ B)) := by
        rw [List.cons_append, sq]
      rw [e]
      unfold go
      -- all but x are as they were
      have rest : setl co E x → qI co p d E A B none := fun hs => ⟨i1, i2, i3, fun z hz => i4 z (List.mem_cons_of_mem _ hz), i5, fun z hz => i6 z (List.mem_cons_of_mem _ hz), (fun z hz => by
        by_cases hzx : z = x
        · rw [hzx]; exact Or.inl hs
        · rcases i7 z hz with h | ⟨h1, h2⟩ | h | ⟨_, h, _⟩
          · exact Or.inl h
          · exact Or.inr (Or.inl ⟨h1, (List.mem_cons.mp h2).resolve_left hzx⟩)
          · exact Or.inr (Or.inr (Or.inl h))
          · exact absurd h (by simp)), i8⟩
      by_cases hc : co (x / 4) = 99
      · rw [if_pos hc]
        exact ih d E A B (rest (fun t _ ok => absurd hc ok.1)) hP' (by omega)
      · rw [if_neg hc]
        by_cases hs : setl co E x
        · rw [gl_same hc hs 4 0 (by omega)]
          exact ih d E A B (rest hs) hP' (by omega)
        · have hxd' : E x = d := by
            rcases i7 x hx with h | ⟨h1, _⟩ | ⟨h1, _⟩ | ⟨_, h, _⟩
            · exact absurd h hs
            · exact h1
            · omega
            · cases h
          have I0 : qI co p d E A B (some (x, 0)) := ⟨i1, i2, i3, fun z hz => i4 z (List.mem_cons_of_mem _ hz), i5, fun z hz => i6 z (List.mem_cons_of_mem _ hz), (fun z hz => by
            by_cases hzx : z = x
            · exact Or.inr (Or.inr (Or.inr ⟨(x, 0), rfl, hzx, by rw [hzx]; exact hxd', fun t ht => absurd ht (by omega)⟩))
            · rcases i7 z hz with h | ⟨h1, h2⟩ | h | ⟨_, h, _⟩
              · exact Or.inl h
              · exact Or.inr (Or.inl ⟨h1, (List.mem_cons.mp h2).resolve_left hzx⟩)
              · exact Or.inr (Or.inr (Or.inl h))
              · exact absurd h (by simp)), i8⟩
          obtain ⟨E', A', B', f1, f2, f3, f4⟩ := gl_step (p := p) hx hc 4 0 E A B (by omega) hxd' I0 (by omega)
          rw [show (E, A ++ B).1 x = d from hxd', f1]
          obtain ⟨k1, k2, k3, k4, k5, k6, k7, k8⟩ := f3
          refine ih d E' A' B' ⟨k1, k2, k3, k4, k5, k6, fun z hz => ?_, k8⟩ (by omega) (by omega)
          rcases k7 z hz with h | h | h | ⟨w, e, h1, h2, h3⟩
          · exact Or.inl h
          · exact Or.inr (Or.inl h)
          · exact Or.inr (Or.inr (Or.inl h))
          · have ew := Option.some.inj e
            subst ew
            refine Or.inl (fun t ht ok => ?_)
            rw [h2]
            exact h3 t ht ok
    intro d E A B I hP hm
    cases A with
    | cons x A => exact main d E x A B I hP hm
    | nil =>
      cases B with
      | nil =>
        obtain ⟨i1, i2, i3, i4, i5, i6, i7, i8⟩ := I
        have e : sq co (m + 1) (E, ([] : List Nat) ++ []) = (E, []) := rfl
        rw [e]
        refine ⟨⟨i1, i2, fun x hx => ?_⟩, i3⟩
        rcases i7 x hx with h | ⟨_, h⟩ | ⟨_, h⟩ | ⟨_, h, _⟩
        · exact h
        · cases h
        · cases h
        · cases h
      | cons x B =>
        obtain ⟨i1, i2, i3, i4, i5, i6, i7, i8⟩ := I
        have e : sq co (m + 1) (E, [] ++ x :: B) = sq co (m + 1) (E, (x :: B) ++ []) := by rw [List.append_nil]; rfl
        rw [e]
        refine main (d + 1) E x B [] ⟨i1, i2, i3, i5, fun z hz => (by cases hz), fun z hz => i6 z (by rw [List.append_nil] at hz; exact hz), fun z hz => ?_, fun z hz => ?_⟩ ?_ hm
        · rcases i7 z hz with h | ⟨_, h⟩ | h | ⟨_, h, _⟩
          · exact Or.inl h
          · cases h
          · exact Or.inr (Or.inl h)
          · cases h
        · rcases i8 z hz with h | h
          · exact Or.inl (by omega)
          · exact Or.inr h
        · refine Nat.le_trans ?_ hP
          unfold qP
          have : sumN (ph E (d + 1)) 140 ≤ sumN (ph E d) 140 := sumN_le 140 (fun k hk => by
            unfold ph
            repeat' split
            all_goals omega)
          simp
          omega
theorem E0_LE {co : Nat → Int32} {p : Nat} : LE co p 1000 (E0 p) := fun F hF x hx => by
  unfold E0
  split
  · rename_i e
    rw [e, hF.1]
    exact Nat.le_refl _
  · exact hF.2.1 x hx
theorem sq_ok {co : Nat → Int32} {p : Nat} (hp : p < 24) : CL co p 1000 (sq co 512 (E0 p, [pe p])).1 ∧ LE co p 1000 (sq co 512 (E0 p, [pe p])).1 := by
  have hpe := pe_lt hp
  have e1 : E0 p (pe p) = 0 := by unfold E0; rw [if_pos rfl]
  have e2 : ∀ x, x ≠ pe p → E0 p x = 1000 := fun x h => by unfold E0; rw [if_neg h]
  have le : ∀ x, E0 p x ≤ 1000 := fun x => by unfold E0; split <;> omega
  refine sq_run 512 0 (E0 p) [pe p] [] ⟨e1, fun x _ => le x, E0_LE, fun x hx => ?_, fun x hx => (by cases hx), fun x hx => ?_, fun x hx => ?_, fun x hx => ?_⟩ ?_ (Nat.le_refl _)
  · rw [List.mem_singleton.mp hx, e1]; exact Nat.le_refl _
  · rw [List.append_nil] at hx
    rw [List.mem_singleton.mp hx]; exact hpe
  · by_cases e : x = pe p
    · exact Or.inr (Or.inl ⟨by rw [e]; exact e1, by rw [e]; exact List.mem_cons_self⟩)
    · refine Or.inl (fun t ht ok => ?_)
      rw [e2 x e]
      have := le (ny x t)
      omega
  · by_cases e : x = pe p
    · exact Or.inl (by rw [e, e1]; omega)
    · exact Or.inr (e2 x e)
  · unfold qP
    have : sumN (ph (E0 p) 0) 140 ≤ 2 * 140 := sumN_c 140 (fun k _ => by
      unfold ph
      repeat' split
      all_goals omega)
    simp
    omega
