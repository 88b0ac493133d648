/-! RUNS OF THE SMALL MACHINE, whatever they take of steps: rules, an instruction each -/
theorem ev_ixc (i : Instr) : (∃ j, i = .new j) ∨ (∃ j, i = .invokevirtual j) ∨ (∃ j, i = .invokestatic j) ∨ (∃ j, i = .invokespecial j) ∨ (ev_ix i = none ∧ ∀ j, i ≠ .new j) := by
  cases i <;> simp [ev_ix]
/-- what a run does where it calls, the runs behind given -/
def ev_Kc (G : ev_G) (f : ev_MD → ev_VL → ev_AH → Option (ev_O × ev_AH)) (k : Nat → ev_VL → List Value → ev_AH → Option (ev_O × ev_AH)) (M : ev_MD) (pc : Nat) (L : ev_VL) (S : List Value) (h : ev_AH) (i : Instr) (kd a rc : Nat) (M' : ev_MD) : Option (ev_O × ev_AH) :=
  bif ev_ck i kd then
    (match ev_pop (bif ev_st kd then a else a + 1) [] S with
    | none => none
    | some (A, r) => bif ev_cok G h kd rc M' A r then
      (match f M' (ev_en M' A) h with
      | some (.inl v, h') => k (pc + 3) L (v.toList ++ r) h'
      | some (.inr E, h') => (match ev_hd G M pc E M.2.2.2.2.2.1 with
        | some none => some (.inr E, h')
        | some (some (pc', j)) => bif ev_sok L j then k pc' (L.set j none) [] h' else none
        | none => none)
      | none => none) else none)
    else none
theorem ev_Kc_mono {G : ev_G} {f f' : ev_MD → ev_VL → ev_AH → Option (ev_O × ev_AH)} {k k' : Nat → ev_VL → List Value → ev_AH → Option (ev_O × ev_AH)} (hf : ∀ M L h r, f M L h = some r → f' M L h = some r) (hk : ∀ pc L S h r, k pc L S h = some r → k' pc L S h = some r) {M : ev_MD} {pc : Nat} {L : ev_VL} {S : List Value} {h : ev_AH} {i : Instr} {kd a rc : Nat} {M' : ev_MD} {r : ev_O × ev_AH} (hp : ev_Kc G f k M pc L S h i kd a rc M' = some r) : ev_Kc G f' k' M pc L S h i kd a rc M' = some r := by
  unfold ev_Kc at hp ⊢
  cases hck : ev_ck i kd with
  | false => simp [hck] at hp
  | true =>
    simp only [hck, cond_true] at hp ⊢
    cases hpop : ev_pop (bif ev_st kd then a else a + 1) [] S with
    | none => simp [hpop] at hp
    | some z =>
      obtain ⟨A, R⟩ := z
      simp only [hpop] at hp ⊢
      cases hcok : ev_cok G h kd rc M' A R with
      | false => simp [hcok] at hp
      | true =>
        simp only [hcok, cond_true] at hp ⊢
        cases hc : f M' (ev_en M' A) h with
        | none => simp [hc] at hp
        | some z =>
          obtain ⟨o, h1⟩ := z
          rw [hf _ _ _ _ hc]
          simp only [hc] at hp
          cases o with
          | inl v => exact hk _ _ _ _ _ hp
          | inr E =>
            simp only at hp ⊢
            cases hhd : ev_hd G M pc E M.2.2.2.2.2.1 with
            | none => simp [hhd] at hp
            | some z =>
              cases z with
              | none => simp only [hhd] at hp ⊢; exact hp
              | some z =>
                obtain ⟨pc', j⟩ := z
                simp only [hhd] at hp ⊢
                cases hso : ev_sok L j with
                | false => simp [hso] at hp
                | true =>
                  simp only [hso, cond_true] at hp ⊢
                  exact hk _ _ _ _ _ hp
/-- one step of a run, the runs behind given -/
def ev_K1 (G : ev_G) (c : Option (ev_MD → ev_VL → ev_AH → Option (ev_O × ev_AH))) (k : Nat → ev_VL → List Value → ev_AH → Option (ev_O × ev_AH)) (M : ev_MD) (pc : Nat) (L : ev_VL) (S : List Value) (h : ev_AH) (i : Instr) : Option (ev_O × ev_AH) := match ev_ix i with
  | none => none
  | some j => match ev_ct G M.1 j with
    | none => none
    | some (kd, a, rc, M') => match ev_na G i S h kd with
      | some (S', h') => k (pc + 3) L S' h'
      | none => match c with
        | none => none
        | some f => ev_Kc G f k M pc L S h i kd a rc M'
def ev_F1 (G : ev_G) (c : Option (ev_MD → ev_VL → ev_AH → Option (ev_O × ev_AH))) (k : Nat → ev_VL → List Value → ev_AH → Option (ev_O × ev_AH)) (M : ev_MD) (pc : Nat) (L : ev_VL) (S : List Value) (h : ev_AH) : Option (ev_O × ev_AH) :=
  match ev_lk M.2.2.2.2.2.2 pc with
  | none => none
  | some (i, len) => bif ev_len i len then
    (match ev_s G M pc L S h i len with
    | some (pc', L', S', h') => k pc' L' S' h'
    | none => match ev_e M S i with
      | some v => some (.inl v, h)
      | none => match i with
        | .new j => (match ev_th G M pc j, M.2.2.2.2.2.1 with
          | some E, [] => bif Nat.beq M.1 0 && ev_cs S then some (.inr E, (h.1, h.2.1 + 1, h.2.2 + 6)) else none
          | _, _ => none)
        | _ => ev_K1 G c k M pc L S h i) else none
theorem ev_F_K {G : ev_G} {n d : Nat} {M : ev_MD} {pc : Nat} {L : ev_VL} {S : List Value} {h : ev_AH} : ev_F G (n + 1) d M pc L S h = ev_F1 G (match d with
    | 0 => none
    | d + 1 => some (fun M' L' h' => ev_F G n d M' 0 L' [] h')) (fun pc' L' S' h' => ev_F G n d M pc' L' S' h') M pc L S h := by
  rw [ev_F]
  unfold ev_F1
  cases hlk : ev_lk M.2.2.2.2.2.2 pc with
  | none => rfl
  | some q =>
    obtain ⟨i, len⟩ := q
    simp only
    cases ev_len i len with
    | false => rfl
    | true =>
      simp only [cond_true]
      cases hs : ev_s G M pc L S h i len with
      | some q => rfl
      | none =>
        simp only
        cases he : ev_e M S i with
        | some v => rfl
        | none =>
          simp only
          have key : (match ev_ix i with
            | none => none
            | some j => match ev_ct G M.1 j with
              | none => none
              | some (k, a, rc, M') => match ev_na G i S h k with
                | some (S', h') => ev_F G n d M (pc + 3) L S' h'
                | none => match d with
                  | 0 => none
                  | d + 1 => bif ev_ck i k then
                    (match ev_pop (bif ev_st k then a else a + 1) [] S with
                    | none => none
                    | some (A, r) => bif ev_cok G h k rc M' A r then
                      (match ev_F G n d M' 0 (ev_en M' A) [] h with
                      | some (.inl v, h') => ev_F G n (d + 1) M (pc + 3) L (v.toList ++ r) h'
                      | some (.inr E, h') => (match ev_hd G M pc E M.2.2.2.2.2.1 with
                        | some none => some (.inr E, h')
                        | some (some (pc', j)) => bif ev_sok L j then ev_F G n (d + 1) M pc' (L.set j none) [] h' else none
                        | none => none)
                      | none => none) else none)
                    else none) = ev_K1 G (match d with
    | 0 => none
    | d + 1 => some (fun M' L' h' => ev_F G n d M' 0 L' [] h')) (fun pc' L' S' h' => ev_F G n d M pc' L' S' h') M pc L S h i := by
            unfold ev_K1
            cases ev_ix i with
            | none => rfl
            | some j =>
              simp only
              cases ev_ct G M.1 j with
              | none => rfl
              | some q =>
                obtain ⟨k, a, rc, M'⟩ := q
                simp only
                cases ev_na G i S h k with
                | some z => rfl
                | none =>
                  cases d with
                  | zero => rfl
                  | succ d => rfl
          rw [← key]
          rfl
theorem ev_K1_mono {G : ev_G} {c c' : Option (ev_MD → ev_VL → ev_AH → Option (ev_O × ev_AH))} {k k' : Nat → ev_VL → List Value → ev_AH → Option (ev_O × ev_AH)} (hc : ∀ f, c = some f → ∃ f', c' = some f' ∧ ∀ M L h r, f M L h = some r → f' M L h = some r) (hk : ∀ pc L S h r, k pc L S h = some r → k' pc L S h = some r) {M : ev_MD} {pc : Nat} {L : ev_VL} {S : List Value} {h : ev_AH} {i : Instr} {r : ev_O × ev_AH} (hp : ev_K1 G c k M pc L S h i = some r) : ev_K1 G c' k' M pc L S h i = some r := by
  unfold ev_K1 at hp ⊢
  cases hix : ev_ix i with
  | none => simp [hix] at hp
  | some j =>
    simp only [hix] at hp ⊢
    cases hct : ev_ct G M.1 j with
    | none => simp [hct] at hp
    | some q =>
      obtain ⟨kd, a, rc, M'⟩ := q
      simp only [hct] at hp ⊢
      cases hna : ev_na G i S h kd with
      | some z =>
        obtain ⟨S', h'⟩ := z
        simp only [hna] at hp ⊢
        exact hk _ _ _ _ _ hp
      | none =>
        simp only [hna] at hp ⊢
        cases hcc : c with
        | none => simp [hcc] at hp
        | some f =>
          obtain ⟨f', e, hf⟩ := hc f hcc
          simp only [hcc] at hp
          simp only [e]
          exact ev_Kc_mono hf hk hp
theorem ev_F1_mono {G : ev_G} {c c' : Option (ev_MD → ev_VL → ev_AH → Option (ev_O × ev_AH))} {k k' : Nat → ev_VL → List Value → ev_AH → Option (ev_O × ev_AH)} (hc : ∀ f, c = some f → ∃ f', c' = some f' ∧ ∀ M L h r, f M L h = some r → f' M L h = some r) (hk : ∀ pc L S h r, k pc L S h = some r → k' pc L S h = some r) {M : ev_MD} {pc : Nat} {L : ev_VL} {S : List Value} {h : ev_AH} {r : ev_O × ev_AH} (hp : ev_F1 G c k M pc L S h = some r) : ev_F1 G c' k' M pc L S h = some r := by
  unfold ev_F1 at hp ⊢
  cases hlk : ev_lk M.2.2.2.2.2.2 pc with
  | none => simp [hlk] at hp
  | some q =>
    obtain ⟨i, len⟩ := q
    simp only [hlk] at hp ⊢
    cases hlen : ev_len i len with
    | false => simp [hlen] at hp
    | true =>
      simp only [hlen, cond_true] at hp ⊢
      cases hs : ev_s G M pc L S h i len with
      | some q =>
        obtain ⟨pc', L', S', h'⟩ := q
        simp only [hs] at hp ⊢
        exact hk _ _ _ _ _ hp
      | none =>
        simp only [hs] at hp ⊢
        cases he : ev_e M S i with
        | some v => simp only [he] at hp ⊢; exact hp
        | none =>
          simp only [he] at hp ⊢
          rcases ev_ixc i with ⟨j, rfl⟩ | ⟨j, rfl⟩ | ⟨j, rfl⟩ | ⟨j, rfl⟩ | ⟨h1, h2⟩
          · exact hp
          · exact ev_K1_mono hc hk hp
          · exact ev_K1_mono hc hk hp
          · exact ev_K1_mono hc hk hp
          · split at hp
            · exact absurd rfl (h2 _)
            · unfold ev_K1 at hp
              rw [h1] at hp
              cases hp
theorem ev_F_mono {G : ev_G} : ∀ (n n' d d' : Nat) (M : ev_MD) (pc : Nat) (L : ev_VL) (S : List Value) (h : ev_AH) (r : ev_O × ev_AH), n ≤ n' → d ≤ d' → ev_F G n d M pc L S h = some r → ev_F G n' d' M pc L S h = some r := by
  intro n
  induction n with
  | zero => intro n' d d' M pc L S h r _ _ hp; simp [ev_F] at hp
  | succ n ih =>
    intro n' d d' M pc L S h r hn hd hp
    obtain ⟨n', rfl⟩ : ∃ k, n' = k + 1 := ⟨n' - 1, by omega⟩
    have hn' : n ≤ n' := by omega
    rw [ev_F_K] at hp ⊢
    refine ev_F1_mono (fun f hf => ?_) (fun pc L S h r hp => ih _ _ _ _ _ _ _ _ _ hn' hd hp) hp
    cases d with
    | zero => cases hf
    | succ d =>
      obtain ⟨d', rfl⟩ : ∃ k, d' = k + 1 := ⟨d' - 1, by omega⟩
      cases hf
      exact ⟨_, rfl, fun M L h r hp => ih _ _ _ _ _ _ _ _ _ hn' (by omega) hp⟩
/-- what the tables leave open: the script, and a static that no run reads -/
abbrev tr_g : Type := List Int32 × Value
abbrev tr_G (g : tr_g) : ev_G := ev_G0 g.1 g.2
/-- from this place the run comes to r, and P holds of its cells -/
def tr_T (P : ev_AH → Prop) (g : tr_g) (d : Nat) (M : ev_MD) (pc : Nat) (L : ev_VL) (S : List Value) (h : ev_AH) (r : ev_O × ev_AH) : Prop := (∃ n, ev_F (tr_G g) n d M pc L S h = some r) ∧ P r.2
section
variable {P : ev_AH → Prop} {g : tr_g} {d : Nat} {M : ev_MD} {pc : Nat} {L : ev_VL} {S : List Value} {h : ev_AH} {r : ev_O × ev_AH}
theorem tr_mono {d' : Nat} (hd : d ≤ d') (k : tr_T P g d M pc L S h r) : tr_T P g d' M pc L S h r := by
  obtain ⟨⟨n, k⟩, hP⟩ := k
  exact ⟨⟨n, ev_F_mono _ _ _ _ _ _ _ _ _ _ (Nat.le_refl _) hd k⟩, hP⟩
theorem tr_s (i : Instr) (n pc' : Nat) (L' : ev_VL) (S' : List Value) (h' : ev_AH) (hl : ev_lk M.2.2.2.2.2.2 pc = some (i, n)) (hn : ev_len i n = true) (hs : ev_s (tr_G g) M pc L S h i n = some (pc', L', S', h')) (k : tr_T P g d M pc' L' S' h' r) : tr_T P g d M pc L S h r := by
  obtain ⟨⟨m, k⟩, hP⟩ := k
  refine ⟨⟨m + 1, ?_⟩, hP⟩
  unfold ev_F
  rw [hl]
  simp only
  rw [hn, hs]
  exact k
theorem tr_ret (i : Instr) (n : Nat) (v : Option Value) (hl : ev_lk M.2.2.2.2.2.2 pc = some (i, n)) (hn : ev_len i n = true) (hs : ev_s (tr_G g) M pc L S h i n = none) (he : ev_e M S i = some v) (hP : P h) (hr : r = (.inl v, h)) : tr_T P g d M pc L S h r := by
  subst hr
  refine ⟨⟨1, ?_⟩, hP⟩
  unfold ev_F
  rw [hl]
  simp only
  rw [hn, hs, he]
  rfl
theorem tr_thr (j E : Nat) (hl : ev_lk M.2.2.2.2.2.2 pc = some (.new j, 3)) (hs : ev_s (tr_G g) M pc L S h (.new j) 3 = none) (ht : ev_th (tr_G g) M pc j = some E) (hh : M.2.2.2.2.2.1 = []) (h0 : (Nat.beq M.1 0 && ev_cs S) = true) (hP : P (h.1, h.2.1 + 1, h.2.2 + 6)) (hr : r = (.inr E, (h.1, h.2.1 + 1, h.2.2 + 6))) : tr_T P g d M pc L S h r := by
  subst hr
  refine ⟨⟨1, ?_⟩, hP⟩
  unfold ev_F
  rw [hl]
  simp only
  rw [show ev_len (.new j) 3 = true from rfl, hs]
  simp only [cond_true]
  rw [show ev_e M S (.new j) = none from rfl]
  simp only [ht, hh]
  rw [h0]
  rfl
theorem tr_na (i : Instr) (j k a rc : Nat) (M' : ev_MD) (S' : List Value) (h' : ev_AH) (hl : ev_lk M.2.2.2.2.2.2 pc = some (i, 3)) (hn : ev_len i 3 = true) (hs : ev_s (tr_G g) M pc L S h i 3 = none) (he : ev_e M S i = none) (hx : ev_ix i = some j) (hct : ev_ct0 M.1 j = some (k, a, rc, M')) (hna : ev_na (tr_G g) i S h k = some (S', h')) (kk : tr_T P g d M (pc + 3) L S' h' r) : tr_T P g d M pc L S h r := by
  obtain ⟨⟨m, kk⟩, hP⟩ := kk
  refine ⟨⟨m + 1, ?_⟩, hP⟩
  have hct' : ev_ct (tr_G g) M.1 j = some (k, a, rc, M') := hct
  unfold ev_F
  rw [hl]
  simp only
  rw [hn, hs, he]
  cases i <;> first | (cases hx; done) | (simp only [hx, hct', hna, cond_true]; exact kk)
theorem tr_F_call {G : ev_G} {n d : Nat} {M : ev_MD} {pc : Nat} {L : ev_VL} {S : List Value} {h : ev_AH} (i : Instr) (j k a rc : Nat) (M' : ev_MD) (A R : List Value) (hl : ev_lk M.2.2.2.2.2.2 pc = some (i, 3)) (hn : ev_len i 3 = true) (hs : ev_s G M pc L S h i 3 = none) (he : ev_e M S i = none) (hx : ev_ix i = some j) (hct : ev_ct G M.1 j = some (k, a, rc, M')) (hna : ev_na G i S h k = none) (hck : ev_ck i k = true) (hpop : ev_pop (bif ev_st k then a else a + 1) [] S = some (A, R)) (hcok : ev_cok G h k rc M' A R = true) :
    ev_F G (n + 1) (d + 1) M pc L S h = (match ev_F G n d M' 0 (ev_en M' A) [] h with
      | some (.inl v, h') => ev_F G n (d + 1) M (pc + 3) L (v.toList ++ R) h'
      | some (.inr E, h') => (match ev_hd G M pc E M.2.2.2.2.2.1 with
        | some none => some (.inr E, h')
        | some (some (pc', j)) => bif ev_sok L j then ev_F G n (d + 1) M pc' (L.set j none) [] h' else none
        | none => none)
      | none => none) := by
  rw [ev_F]
  rw [hl]
  simp only
  rw [hn, hs, he]
  cases i <;> first | (cases hx; done) | (simp only [hx, hct, hna, hck, hpop, hcok, cond_true]; rfl)
theorem tr_call (i : Instr) (j k a rc : Nat) (M' : ev_MD) (A R : List Value) (v : Option Value) (h' : ev_AH) (hl : ev_lk M.2.2.2.2.2.2 pc = some (i, 3)) (hn : ev_len i 3 = true) (hs : ev_s (tr_G g) M pc L S h i 3 = none) (he : ev_e M S i = none) (hx : ev_ix i = some j) (hct : ev_ct0 M.1 j = some (k, a, rc, M')) (hna : ev_na (tr_G g) i S h k = none) (hck : ev_ck i k = true) (hpop : ev_pop (bif ev_st k then a else a + 1) [] S = some (A, R)) (hcok : ev_cok (tr_G g) h k rc M' A R = true) {P' : ev_AH → Prop} (hc : tr_T P' g d M' 0 (ev_en M' A) [] h (.inl v, h')) (kk : tr_T P g (d + 1) M (pc + 3) L (v.toList ++ R) h' r) : tr_T P g (d + 1) M pc L S h r := by
  obtain ⟨⟨m, kk⟩, hP⟩ := kk
  obtain ⟨⟨m1, hc⟩, -⟩ := hc
  refine ⟨⟨max m m1 + 1, ?_⟩, hP⟩
  have hct' : ev_ct (tr_G g) M.1 j = some (k, a, rc, M') := hct
  rw [tr_F_call i j k a rc M' A R hl hn hs he hx hct' hna hck hpop hcok, ev_F_mono _ _ _ _ _ _ _ _ _ _ (Nat.le_max_right m m1) (Nat.le_refl _) hc]
  exact ev_F_mono _ _ _ _ _ _ _ _ _ _ (Nat.le_max_left m m1) (Nat.le_refl _) kk
theorem tr_callx (i : Instr) (j k a rc : Nat) (M' : ev_MD) (A R : List Value) (E : Nat) (h' : ev_AH) (hl : ev_lk M.2.2.2.2.2.2 pc = some (i, 3)) (hn : ev_len i 3 = true) (hs : ev_s (tr_G g) M pc L S h i 3 = none) (he : ev_e M S i = none) (hx : ev_ix i = some j) (hct : ev_ct0 M.1 j = some (k, a, rc, M')) (hna : ev_na (tr_G g) i S h k = none) (hck : ev_ck i k = true) (hpop : ev_pop (bif ev_st k then a else a + 1) [] S = some (A, R)) (hcok : ev_cok (tr_G g) h k rc M' A R = true) (hhd : ev_hd (tr_G g) M pc E M.2.2.2.2.2.1 = some none) (hc : tr_T P g d M' 0 (ev_en M' A) [] h (.inr E, h')) (hr : r = (.inr E, h')) : tr_T P g (d + 1) M pc L S h r := by
  obtain ⟨⟨m1, hc⟩, hP⟩ := hc
  subst hr
  refine ⟨⟨m1 + 1, ?_⟩, hP⟩
  have hct' : ev_ct (tr_G g) M.1 j = some (k, a, rc, M') := hct
  rw [tr_F_call i j k a rc M' A R hl hn hs he hx hct' hna hck hpop hcok, hc]
  simp only [hhd]
theorem tr_callh (i : Instr) (j k a rc : Nat) (M' : ev_MD) (A R : List Value) (E pc' j' : Nat) (h' : ev_AH) (hl : ev_lk M.2.2.2.2.2.2 pc = some (i, 3)) (hn : ev_len i 3 = true) (hs : ev_s (tr_G g) M pc L S h i 3 = none) (he : ev_e M S i = none) (hx : ev_ix i = some j) (hct : ev_ct0 M.1 j = some (k, a, rc, M')) (hna : ev_na (tr_G g) i S h k = none) (hck : ev_ck i k = true) (hpop : ev_pop (bif ev_st k then a else a + 1) [] S = some (A, R)) (hcok : ev_cok (tr_G g) h k rc M' A R = true) (hhd : ev_hd (tr_G g) M pc E M.2.2.2.2.2.1 = some (some (pc', j'))) (hsok : ev_sok L j' = true) {P' : ev_AH → Prop} (hc : tr_T P' g d M' 0 (ev_en M' A) [] h (.inr E, h')) (kk : tr_T P g (d + 1) M pc' (L.set j' none) [] h' r) : tr_T P g (d + 1) M pc L S h r := by
  obtain ⟨⟨m, kk⟩, hP⟩ := kk
  obtain ⟨⟨m1, hc⟩, -⟩ := hc
  refine ⟨⟨max m m1 + 1, ?_⟩, hP⟩
  have hct' : ev_ct (tr_G g) M.1 j = some (k, a, rc, M') := hct
  rw [tr_F_call i j k a rc M' A R hl hn hs he hx hct' hna hck hpop hcok, ev_F_mono _ _ _ _ _ _ _ _ _ _ (Nat.le_max_right m m1) (Nat.le_refl _) hc]
  simp only [hhd, hsok, cond_true]
  exact ev_F_mono _ _ _ _ _ _ _ _ _ _ (Nat.le_max_left m m1) (Nat.le_refl _) kk
/-- a constant -/
theorem tr_c (i : Instr) (n : Nat) (c : Int32) (hl : ev_lk M.2.2.2.2.2.2 pc = some (i, n)) (hn : ev_len i n = true) (hs : ev_s (tr_G g) M pc L S h i n = some (pc + n, L, .int c :: S, h)) (k : tr_T P g d M (pc + n) L (.int c :: S) h r) : tr_T P g d M pc L S h r := tr_s i n _ _ _ _ hl hn hs k
theorem tr_ic (m : Int) (c : Int32) (e : Int32.ofInt m = c) (hl : ev_lk M.2.2.2.2.2.2 pc = some (.iconst m, 1)) (k : tr_T P g d M (pc + 1) L (.int c :: S) h r) : tr_T P g d M pc L S h r := by
  subst e
  exact tr_s (.iconst m) 1 _ _ _ _ hl rfl rfl k
theorem tr_bi (m : Int) (c : Int32) (e : (Int8.ofInt m).toInt32 = c) (hl : ev_lk M.2.2.2.2.2.2 pc = some (.bipush m, 2)) (k : tr_T P g d M (pc + 2) L (.int c :: S) h r) : tr_T P g d M pc L S h r := by
  subst e
  exact tr_s (.bipush m) 2 _ _ _ _ hl rfl rfl k
theorem tr_si (m : Int) (c : Int32) (e : (Int16.ofInt m).toInt32 = c) (hl : ev_lk M.2.2.2.2.2.2 pc = some (.sipush m, 3)) (k : tr_T P g d M (pc + 3) L (.int c :: S) h r) : tr_T P g d M pc L S h r := by
  subst e
  exact tr_s (.sipush m) 3 _ _ _ _ hl rfl rfl k
theorem tr_inc (j : Nat) (m : Int) (x c : Int32) (e : Int32.ofInt m = c) (hl : ev_lk M.2.2.2.2.2.2 pc = some (.iinc j m, 3)) (hL : L[j]? = some (some (.int x))) (hok : ev_sok L j = true) (k : tr_T P g d M (pc + 3) (L.set j (some (.int (x + c)))) S h r) : tr_T P g d M pc L S h r := by
  subst e
  refine tr_s (.iinc j m) 3 _ _ _ _ hl rfl ?_ k
  simp only [ev_s, ev_ldi, ev_sti, hL, hok, cond_true]
/-- a store: t says of which sort (0 int, 1 reference) -/
theorem tr_st (i : Instr) (n j t : Nat) (v : Value) (hl : ev_lk M.2.2.2.2.2.2 pc = some (i, n)) (hn : ev_len i n = true) (hld : ev_ldi i = none) (hst : ev_sti i = some (j, t)) (ht : Nat.beq t 3 = false) (hv : ev_srt t v = true) (hok : ev_sok L j = true) (k : tr_T P g d M (pc + n) (L.set j (some v)) S h r) : tr_T P g d M pc L (v :: S) h r := by
  refine tr_s i n _ _ _ _ hl hn ?_ k
  unfold ev_s
  simp only [hld, hst, hv, hok, ht, Bool.and_true, cond_true, cond_false]
/-- nothing wide lies in the place -/
def tr_ow : Option Value → Bool
  | some (.long _) => false
  | some (.double _) => false
  | _ => true
theorem tr_sok {j : Nat} {w : Option Value} (h1 : j + 1 < L.length) (h2 : L[j]? = some w) (h3 : tr_ow w = true) : ev_sok L (j + 1) = true := by
  have : ev_c2 L j = false := by
    unfold ev_c2
    rw [h2]
    rcases w with _ | v
    · rfl
    · cases v <;> first | rfl | cases h3
  have h4 : Nat.blt (j + 1) L.length = true := Nat.ble_eq_true_of_le h1
  simp [ev_sok, this, h4]
theorem tr_goto (off : Int) (tg : Nat) (hl : ev_lk M.2.2.2.2.2.2 pc = some (.goto off, 3)) (ht : ev_tg pc off = tg) (hok : ev_tok pc off = true) (k : tr_T P g d M tg L S h r) : tr_T P g d M pc L S h r := by
  subst ht
  refine tr_s (.goto off) 3 _ _ _ _ hl rfl ?_ k
  simp [ev_s, ev_ldi, ev_sti, ev_p, ev_r, ev_w, ev_j, hok]
theorem tr_if2 (c : Jvm.ClassFile.Cond) (off : Int) (tg : Nat) (x y : Int32) (hl : ev_lk M.2.2.2.2.2.2 pc = some (.if_icmp c off, 3)) (ht : ev_tg pc off = tg) (hok : ev_tok pc off = true) (kt : ev_cnd c x y = true → tr_T P g d M tg L S h r) (kf : ev_cnd c x y = false → tr_T P g d M (pc + 3) L S h r) : tr_T P g d M pc L (.int y :: .int x :: S) h r := by
  subst ht
  cases hc : ev_cnd c x y with
  | true =>
    refine tr_s (.if_icmp c off) 3 _ _ _ _ hl rfl ?_ (kt hc)
    simp [ev_s, ev_ldi, ev_sti, ev_p, ev_r, ev_w, ev_j, hok, hc]
  | false =>
    refine tr_s (.if_icmp c off) 3 _ _ _ _ hl rfl ?_ (kf hc)
    simp [ev_s, ev_ldi, ev_sti, ev_p, ev_r, ev_w, ev_j, hok, hc]
theorem tr_if1 (c : Jvm.ClassFile.Cond) (off : Int) (tg : Nat) (x : Int32) (hl : ev_lk M.2.2.2.2.2.2 pc = some (.ifCond c off, 3)) (ht : ev_tg pc off = tg) (hok : ev_tok pc off = true) (kt : ev_cnd c x 0 = true → tr_T P g d M tg L S h r) (kf : ev_cnd c x 0 = false → tr_T P g d M (pc + 3) L S h r) : tr_T P g d M pc L (.int x :: S) h r := by
  subst ht
  cases hc : ev_cnd c x 0 with
  | true =>
    refine tr_s (.ifCond c off) 3 _ _ _ _ hl rfl ?_ (kt hc)
    simp [ev_s, ev_ldi, ev_sti, ev_p, ev_r, ev_w, ev_j, hok, hc]
  | false =>
    refine tr_s (.ifCond c off) 3 _ _ _ _ hl rfl ?_ (kf hc)
    simp [ev_s, ev_ldi, ev_sti, ev_p, ev_r, ev_w, ev_j, hok, hc]
theorem tr_lt {x y : Int32} {b : Bool} (h : ev_cnd .lt x y = b) : (b = true → x < y) ∧ (b = false → y ≤ x) := by
  subst h; simp [ev_cnd]
theorem tr_ge {x y : Int32} {b : Bool} (h : ev_cnd .ge x y = b) : (b = true → y ≤ x) ∧ (b = false → x < y) := by
  subst h; simp [ev_cnd]
theorem tr_gt {x y : Int32} {b : Bool} (h : ev_cnd .gt x y = b) : (b = true → y < x) ∧ (b = false → x ≤ y) := by
  subst h; simp [ev_cnd]
theorem tr_le {x y : Int32} {b : Bool} (h : ev_cnd .le x y = b) : (b = true → x ≤ y) ∧ (b = false → y < x) := by
  subst h; simp [ev_cnd]
theorem tr_eq {x y : Int32} {b : Bool} (h : ev_cnd .eq x y = b) : (b = true → x = y) ∧ (b = false → x ≠ y) := by
  subst h; simp [ev_cnd]
theorem tr_ne {x y : Int32} {b : Bool} (h : ev_cnd .ne x y = b) : (b = true → x ≠ y) ∧ (b = false → x = y) := by
  subst h; simp [ev_cnd]
/-- a field is read -/
theorem tr_gf (i : Nat) (a ci sl : Nat) (vs : List Value) (v : Value) (hl : ev_lk M.2.2.2.2.2.2 pc = some (.getfield i, 3)) (hf : ev_fld0 M.1 i = some (ci, sl)) (hr : ev_rd (tr_G g) h a = some (.inr (ci, vs))) (hv : vs[sl]? = some v) (k : tr_T P g d M (pc + 3) L (v :: S) h r) : tr_T P g d M pc L (.ref a :: S) h r := by
  refine tr_s (.getfield i) 3 _ _ _ _ hl rfl ?_ k
  have hf' : ev_fld (tr_G g) M.1 i = some (ci, sl) := hf
  simp only [ev_s, ev_ldi, ev_sti, ev_p, ev_r, hf', hr, hv, Nat.beq_refl, cond_true]
/-- a field is written -/
theorem tr_pf (i : Nat) (a ci sl : Nat) (vs : List Value) (v : Value) (ty : FieldType) (hl : ev_lk M.2.2.2.2.2.2 pc = some (.putfield i, 3)) (hf : ev_fld0 M.1 i = some (ci, sl)) (ha : 1000 ≤ a) (hr : h.1[a - 1000]? = some (.inr (ci, vs))) (hft : (ev_ft0 ci)[sl]? = some (ty, false)) (hsl : sl < vs.length) (hok : ev_okv ty v = true) (k : tr_T P g d M (pc + 3) L S (ev_wr h a (.inr (ci, vs.set sl v))) r) : tr_T P g d M pc L (v :: .ref a :: S) h r := by
  refine tr_s (.putfield i) 3 _ _ _ _ hl rfl ?_ k
  have hf' : ev_fld (tr_G g) M.1 i = some (ci, sl) := hf
  have hft' : (ev_ft (tr_G g) ci)[sl]? = some (ty, false) := hft
  have h1 : Nat.ble 1000 a = true := Nat.ble_eq_true_of_le ha
  have h2 : Nat.blt sl vs.length = true := Nat.ble_eq_true_of_le hsl
  simp only [ev_s, ev_ldi, ev_sti, ev_p, ev_r, ev_w, hf', hr, hft', h1, h2, hok, Nat.beq_refl, Bool.and_true, Bool.not_false, Bool.true_or, cond_true]
/-- a field of a fresh object is written, final or not, by its constructor -/
theorem tr_pfF (i : Nat) (a ci sl : Nat) (vs : List Value) (v : Value) (ty : FieldType) (fin : Bool) (hl : ev_lk M.2.2.2.2.2.2 pc = some (.putfield i, 3)) (hf : ev_fld0 M.1 i = some (ci, sl)) (ha : 1000 ≤ a) (hr : h.1[a - 1000]? = some (.inr (ci, vs))) (hft : (ev_ft0 ci)[sl]? = some (ty, fin)) (hsl : sl < vs.length) (hok : ev_okv ty v = true) (hin : M.2.1.name = "<init>") (hci : Nat.beq ci M.1 = true) (k : tr_T P g d M (pc + 3) L S (ev_wr h a (.inr (ci, vs.set sl v))) r) : tr_T P g d M pc L (v :: .ref a :: S) h r := by
  refine tr_s (.putfield i) 3 _ _ _ _ hl rfl ?_ k
  have hf' : ev_fld (tr_G g) M.1 i = some (ci, sl) := hf
  have hft' : (ev_ft (tr_G g) ci)[sl]? = some (ty, fin) := hft
  have h1 : Nat.ble 1000 a = true := Nat.ble_eq_true_of_le ha
  have h2 : Nat.blt sl vs.length = true := Nat.ble_eq_true_of_le hsl
  simp only [ev_s, ev_ldi, ev_sti, ev_p, ev_r, ev_w, hf', hr, hft', h1, h2, hok, hci, hin, Nat.beq_refl, Bool.and_true, decide_true, Bool.or_true, cond_true]
theorem tr_in {j n : Nat} (hj : j < n) (hn : n < 2147483648) : ev_in (Int32.ofNat j) n = true ∧ (Int32.ofNat j).toNatClampNeg = j := by
  have h1 : (Int32.ofNat j).toInt = (j : Int) := by
    rw [Int32.toInt_ofNat_of_lt (by omega)]
  have h2 : (Int32.ofNat j).toNatClampNeg = j := by
    rw [Int32.toNatClampNeg, h1]
    rfl
  refine ⟨?_, h2⟩
  have h3 : ¬ (Int32.ofNat j < 0) := by
    rw [Int32.lt_iff_toInt_lt, h1]
    simp
  have h4 : Nat.blt j n = true := Nat.ble_eq_true_of_le hj
  simp [ev_in, h3, h2, h4]
theorem tr_alen (a k0 : Nat) (l : List Int32) (hl : ev_lk M.2.2.2.2.2.2 pc = some (.arraylength, 1)) (hr : ev_rd (tr_G g) h a = some (.inl (k0, l))) (hk : k0 ≤ 2) (k : tr_T P g d M (pc + 1) L (.int (Int32.ofNat l.length) :: S) h r) : tr_T P g d M pc L (.ref a :: S) h r := by
  refine tr_s .arraylength 1 _ _ _ _ hl rfl ?_ k
  have h1 : Nat.ble k0 2 = true := Nat.ble_eq_true_of_le hk
  simp only [ev_s, ev_ldi, ev_sti, ev_p, ev_r, hr, h1, cond_true]
theorem tr_alenR (a k0 : Nat) (vs : List Value) (hl : ev_lk M.2.2.2.2.2.2 pc = some (.arraylength, 1)) (hr : ev_rd (tr_G g) h a = some (.inr (k0, vs))) (ha : 1000 ≤ a) (hk : 100 ≤ k0) (hk2 : k0 ≤ 102) (k : tr_T P g d M (pc + 1) L (.int (Int32.ofNat vs.length) :: S) h r) : tr_T P g d M pc L (.ref a :: S) h r := by
  refine tr_s .arraylength 1 _ _ _ _ hl rfl ?_ k
  have h1 : Nat.ble 100 k0 = true := Nat.ble_eq_true_of_le hk
  have h2 : Nat.ble k0 102 = true := Nat.ble_eq_true_of_le hk2
  have h3 : Nat.ble 1000 a = true := Nat.ble_eq_true_of_le ha
  simp only [ev_s, ev_ldi, ev_sti, ev_p, ev_r, hr, h1, h2, h3, Bool.and_true, cond_true]
/-- elements are read: the array's kind t (0 ints, 1 chars, 2 bytes) -/
theorem tr_ald (i : Instr) (t a j : Nat) (x : Int32) (l : List Int32) (hi : (i = .iaload ∧ t = 0) ∨ (i = .caload ∧ t = 1 ∧ 1000 ≤ a) ∨ (i = .baload ∧ t = 2)) (hl : ev_lk M.2.2.2.2.2.2 pc = some (i, 1)) (hr : ev_rd (tr_G g) h a = some (.inl (t, l))) (hx : x = Int32.ofNat j) (hj : j < l.length) (hs : l.length < 2147483648) (k : tr_T P g d M (pc + 1) L (.int (l.getD j 0) :: S) h r) : tr_T P g d M pc L (.int x :: .ref a :: S) h r := by
  subst hx
  obtain ⟨h1, h2⟩ := tr_in hj hs
  rcases hi with ⟨rfl, rfl⟩ | ⟨rfl, rfl, ha⟩ | ⟨rfl, rfl⟩
  · refine tr_s .iaload 1 _ _ _ _ hl rfl ?_ k
    simp only [ev_s, ev_ldi, ev_sti, ev_p, ev_r, hr, h1, h2, cond_true]
  · refine tr_s .caload 1 _ _ _ _ hl rfl ?_ k
    have h3 : Nat.ble 1000 a = true := Nat.ble_eq_true_of_le ha
    simp only [ev_s, ev_ldi, ev_sti, ev_p, ev_r, hr, h1, h2, h3, Bool.and_true, cond_true]
  · refine tr_s .baload 1 _ _ _ _ hl rfl ?_ k
    simp only [ev_s, ev_ldi, ev_sti, ev_p, ev_r, hr, h1, h2, cond_true]
theorem tr_ias (a j : Nat) (x y : Int32) (l : List Int32) (hl : ev_lk M.2.2.2.2.2.2 pc = some (.iastore, 1)) (ha : 1000 ≤ a) (hr : h.1[a - 1000]? = some (.inl (0, l))) (hx : x = Int32.ofNat j) (hj : j < l.length) (hs : l.length < 2147483648) (k : tr_T P g d M (pc + 1) L S (ev_wr h a (.inl (0, l.set j y))) r) : tr_T P g d M pc L (.int y :: .int x :: .ref a :: S) h r := by
  subst hx
  obtain ⟨h1, h2⟩ := tr_in hj hs
  refine tr_s .iastore 1 _ _ _ _ hl rfl ?_ k
  have h3 : Nat.ble 1000 a = true := Nat.ble_eq_true_of_le ha
  simp only [ev_s, ev_ldi, ev_sti, ev_p, ev_r, ev_w, hr, h1, h2, h3, Bool.and_true, cond_true]
theorem tr_cas (a j : Nat) (x y : Int32) (l : List Int32) (hl : ev_lk M.2.2.2.2.2.2 pc = some (.castore, 1)) (ha : 1000 ≤ a) (hr : h.1[a - 1000]? = some (.inl (1, l))) (hx : x = Int32.ofNat j) (hj : j < l.length) (hs : l.length < 2147483648) (hy : vp_nar .char y = y) (k : tr_T P g d M (pc + 1) L S (ev_wr h a (.inl (1, l.set j y))) r) : tr_T P g d M pc L (.int y :: .int x :: .ref a :: S) h r := by
  subst hx
  obtain ⟨h1, h2⟩ := tr_in hj hs
  refine tr_s .castore 1 _ _ _ _ hl rfl ?_ k
  have h3 : Nat.ble 1000 a = true := Nat.ble_eq_true_of_le ha
  simp only [ev_s, ev_ldi, ev_sti, ev_p, ev_r, ev_w, hr, h1, h2, h3, hy, Bool.and_true, cond_true]
theorem tr_bas (a j : Nat) (x y : Int32) (l : List Int32) (hl : ev_lk M.2.2.2.2.2.2 pc = some (.bastore, 1)) (ha : 1000 ≤ a) (hr : h.1[a - 1000]? = some (.inl (2, l))) (hx : x = Int32.ofNat j) (hj : j < l.length) (hs : l.length < 2147483648) (hy : vp_nar .byte y = y) (k : tr_T P g d M (pc + 1) L S (ev_wr h a (.inl (2, l.set j y))) r) : tr_T P g d M pc L (.int y :: .int x :: .ref a :: S) h r := by
  subst hx
  obtain ⟨h1, h2⟩ := tr_in hj hs
  refine tr_s .bastore 1 _ _ _ _ hl rfl ?_ k
  have h3 : Nat.ble 1000 a = true := Nat.ble_eq_true_of_le ha
  simp only [ev_s, ev_ldi, ev_sti, ev_p, ev_r, ev_w, hr, h1, h2, h3, hy, Bool.and_true, cond_true]
theorem tr_aald (a j b : Nat) (x : Int32) (vs : List Value) (hl : ev_lk M.2.2.2.2.2.2 pc = some (.aaload, 1)) (ha : 1000 ≤ a) (hr : ev_rd (tr_G g) h a = some (.inr (102, vs))) (hx : x = Int32.ofNat j) (hj : j < vs.length) (hs : vs.length < 2147483648) (hb : vs[j]? = some (.ref b)) (k : tr_T P g d M (pc + 1) L (.ref b :: S) h r) : tr_T P g d M pc L (.int x :: .ref a :: S) h r := by
  subst hx
  obtain ⟨h1, h2⟩ := tr_in hj hs
  refine tr_s .aaload 1 _ _ _ _ hl rfl ?_ k
  have h3 : Nat.ble 1000 a = true := Nat.ble_eq_true_of_le ha
  simp only [ev_s, ev_ldi, ev_sti, ev_p, ev_r, hr, h1, h2, h3, hb, Bool.and_true, cond_true]
/-- characters: 16 bits without a sign -/
def tr_ch (x : Int32) : Prop := 0 ≤ x ∧ x < 65536
theorem tr_cok {k rc : Nat} {M' : ev_MD} {A R : List Value} (h1 : (ev_cs R && Nat.ble A.length M'.2.2.2.1 && Nat.ble M'.2.2.2.1 40 && A.all ev_cat1) = true) (h2 : ev_st k = true ∨ ∃ v A', A = v :: A' ∧ ev_rc (tr_G g) h k rc v = true) : ev_cok (tr_G g) h k rc M' A R = true := by
  unfold ev_cok
  rw [h1]
  rcases h2 with h2 | ⟨v, A', rfl, h2⟩
  · rw [h2]; rfl
  · simp only [h2, Bool.or_true, Bool.and_true]
theorem tr_rc {k rc a : Nat} {vs : List Value} (hr : ev_rd (tr_G g) h a = some (.inr (rc, vs))) (hc : rc < 100) : ev_rc (tr_G g) h k rc (.ref a) = true := by
  have : Nat.blt rc 100 = true := Nat.ble_eq_true_of_le hc
  simp only [ev_rc, hr, this, Nat.beq_refl, Bool.and_true, Bool.or_true]
theorem tr_rcI {k rc a : Nat} (hk : (Nat.beq k 4 || Nat.beq k 5) = true) : ev_rc (tr_G g) h k rc (.ref a) = true := by
  simp only [ev_rc, hk, Bool.true_or]
end
