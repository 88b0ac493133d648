/-! THE SMALL MACHINE AND THE REAL ONE: how their states belong together, and that each of its steps is the real machine's -/
/-- a value, its cell's number turned to its address -/
def ev_cv (ρ : Nat → Nat) : Value → Value
  | .ref a => .ref (ρ a)
  | v => v
def ev_lg : Value → Int64
  | .long x => x
  | _ => 0
def ev_db : Value → UInt64
  | .double x => x
  | _ => 0
def ev_rf (ρ : Nat → Nat) : Value → Option Nat
  | .ref a => some (ρ a)
  | _ => none
def ev_at (T : Nat → ClassId) (ρ : Nat → Nat) : ev_AC → va_E
  | .inl (k, l) => .inl (T k, l.length, .inl (fun j => l.getD j 0))
  | .inr (100, vs) => .inl (T 3, vs.length, .inr (.inl (fun j => ev_lg (vs.getD j .null))))
  | .inr (101, vs) => .inl (T 4, vs.length, .inr (.inr (.inr (.inl (fun j => ev_db (vs.getD j .null))))))
  | .inr (102, vs) => .inl (T 5, vs.length, .inr (.inr (.inr (.inr (fun j => ev_rf ρ (vs.getD j .null))))))
  | .inr (ci, vs) => .inr (ci, vs.map (ev_cv ρ))
/-- the world that belongs to the cells -/
def ev_wl (T : Nat → ClassId) (ρ : Nat → Nat) (σ : List ev_AC) : va_W := σ.mapIdx (fun i c => (ρ (1000 + i), ev_at T ρ c))
def ev_tys (T : Nat → ClassId) (CN : String) : List (ClassId × FieldType) := [(T 0, .int), (T 1, .char), (T 2, .byte), (T 3, .int), (T 4, .int), (T 5, .object CN)]
/-- no number of a cell that isn't made yet -/
def ev_ok (n : Nat) : Value → Prop
  | .ref a => a < 1000 + n
  | _ => True
def ev_okc (n : Nat) : ev_AC → Prop
  | .inl _ => True
  | .inr (_, vs) => ∀ v ∈ vs, ev_ok n v
def ev_SR (ρ : Nat → Nat) (n : Nat) (S st : List Value) : Prop := st = S.map (ev_cv ρ) ∧ ∀ v ∈ S, ev_ok n v
def ev_LR (ρ : Nat → Nat) (n nL : Nat) (L : ev_VL) (ls : Array Slot) : Prop := ls.size = nL ∧ L.length = nL ∧ lv_wf ls ∧ ∀ (i : Nat) (v : Value), L[i]? = some (some v) → ls[i]? = some (.val (ev_cv ρ v)) ∧ ev_ok n v
def ev_HR (D : va_G) (T : Nat → ClassId) (cl : List vw_C) (A : Nat → Prop) (H0 : Heap) (κ ρ : Nat → Nat) (k0 s0 : Nat) (h : ev_AH) (H : Heap) (locs : List Loc) (cells slots : Nat) : Prop :=
  va_P D cl (ev_wl T ρ h.1) H ∧ va_D A (ev_wl T ρ h.1) ∧ va_S A H0 H locs ∧ (∀ a, a < 1000 → ρ a = κ a) ∧ (∀ c ∈ h.1, ev_okc h.1.length c) ∧ cells + k0 = h.2.1 ∧ slots + s0 = h.2.2
theorem ev_wl_get {T : Nat → ClassId} {ρ : Nat → Nat} {σ : List ev_AC} {i : Nat} {c : ev_AC} (h : σ[i]? = some c) : (ev_wl T ρ σ)[i]? = some (ρ (1000 + i), ev_at T ρ c) := by
  simp [ev_wl, List.getElem?_mapIdx, h]
theorem ev_wl_len {T : Nat → ClassId} {ρ : Nat → Nat} {σ : List ev_AC} : (ev_wl T ρ σ).length = σ.length := by simp [ev_wl]
theorem ev_wl_set {T : Nat → ClassId} {ρ : Nat → Nat} {σ : List ev_AC} {i : Nat} {c : ev_AC} : ev_wl T ρ (σ.set i c) = (ev_wl T ρ σ).set i (ρ (1000 + i), ev_at T ρ c) := by
  apply List.ext_getElem?
  intro j
  simp only [ev_wl, List.getElem?_mapIdx, List.getElem?_set, List.length_mapIdx]
  by_cases hj : i = j
  · subst hj
    by_cases hl : i < σ.length <;> simp [hl]
  · simp [hj]
theorem ev_ok_mono {n k : Nat} {v : Value} (h : ev_ok n v) (hk : n ≤ k) : ev_ok k v := by
  cases v <;> simp only [ev_ok] at h ⊢
  exact Nat.lt_of_lt_of_le h (Nat.add_le_add_left hk 1000)
theorem ev_okc_mono {n k : Nat} {c : ev_AC} (h : ev_okc n c) (hk : n ≤ k) : ev_okc k c := by
  rcases c with _ | ⟨ci, vs⟩
  · trivial
  · exact fun v hv => ev_ok_mono (h v hv) hk
/-- two namings that agree on what is there already -/
def ev_ex2 (ρ ρ' : Nat → Nat) (n : Nat) : Prop := ∀ a, a < 1000 + n → ρ' a = ρ a
theorem ev_cv_ext {ρ ρ' : Nat → Nat} {n : Nat} (h : ev_ex2 ρ ρ' n) {v : Value} (hv : ev_ok n v) : ev_cv ρ' v = ev_cv ρ v := by
  cases v <;> simp only [ev_cv]
  rw [h _ hv]
theorem ev_rf_ext {ρ ρ' : Nat → Nat} {n : Nat} (h : ev_ex2 ρ ρ' n) {v : Value} (hv : ev_ok n v) : ev_rf ρ' v = ev_rf ρ v := by
  cases v <;> simp only [ev_rf]
  rw [h _ hv]
theorem ev_at_obj {T : Nat → ClassId} {ρ : Nat → Nat} {ci : Nat} {vs : List Value} (h : ci < 100) : ev_at T ρ (.inr (ci, vs)) = .inr (ci, vs.map (ev_cv ρ)) := by
  unfold ev_at
  split <;> first | omega | simp_all
theorem ev_at_ext {T : Nat → ClassId} {ρ ρ' : Nat → Nat} {n : Nat} (h : ev_ex2 ρ ρ' n) {c : ev_AC} (hc : ev_okc n c) : ev_at T ρ' c = ev_at T ρ c := by
  rcases c with ⟨k, l⟩ | ⟨ci, vs⟩
  · rfl
  · unfold ev_at
    split
    · rfl
    · rfl
    · rfl
    · rename_i vs' e
      injection e with e
      injection e with e1 e2
      subst e2
      have : (fun j => ev_rf ρ' (vs.getD j .null)) = (fun j => ev_rf ρ (vs.getD j .null)) := by
        funext j
        apply ev_rf_ext h
        cases hj : vs[j]? with
        | none => simp [List.getD, hj, ev_ok]
        | some v => simp only [List.getD, hj, Option.getD]; exact hc v (List.mem_of_getElem? hj)
      rw [this]
    · rename_i e
      injection e with e
      injection e with e1 e2
      subst e1; subst e2
      have : vs.map (ev_cv ρ') = vs.map (ev_cv ρ) := List.map_congr_left (fun v hv => ev_cv_ext h (hc v hv))
      rw [this]
theorem ev_wl_ext {T : Nat → ClassId} {ρ ρ' : Nat → Nat} {σ : List ev_AC} (h : ev_ex2 ρ ρ' σ.length) (hc : ∀ c ∈ σ, ev_okc σ.length c) : ev_wl T ρ' σ = ev_wl T ρ σ := by
  apply List.ext_getElem?
  intro j
  simp only [ev_wl, List.getElem?_mapIdx]
  cases hj : σ[j]? with
  | none => rfl
  | some c =>
    have hlt : j < σ.length := (List.getElem?_eq_some_iff.mp hj).1
    simp only [Option.map]
    rw [h (1000 + j) (by omega), ev_at_ext h (hc c (List.mem_of_getElem? hj))]
theorem ev_wl_push {T : Nat → ClassId} {ρ : Nat → Nat} {σ : List ev_AC} {c : ev_AC} : ev_wl T ρ (σ ++ [c]) = ev_wl T ρ σ ++ [(ρ (1000 + σ.length), ev_at T ρ c)] := by
  simp [ev_wl, List.mapIdx_append]
theorem ev_SR_ext {ρ ρ' : Nat → Nat} {n k : Nat} {S st : List Value} (h : ev_SR ρ n S st) (he : ev_ex2 ρ ρ' n) (hk : n ≤ k) : ev_SR ρ' k S st :=
  ⟨by rw [h.1]; exact List.map_congr_left (fun v hv => (ev_cv_ext he (h.2 v hv)).symm), fun v hv => ev_ok_mono (h.2 v hv) hk⟩
theorem ev_LR_ext {ρ ρ' : Nat → Nat} {n k nL : Nat} {L : ev_VL} {ls : Array Slot} (h : ev_LR ρ n nL L ls) (he : ev_ex2 ρ ρ' n) (hk : n ≤ k) : ev_LR ρ' k nL L ls :=
  ⟨h.1, h.2.1, h.2.2.1, fun i v hv => by
    obtain ⟨h1, h2⟩ := h.2.2.2 i v hv
    exact ⟨by rw [h1, ev_cv_ext he h2], ev_ok_mono h2 hk⟩⟩
theorem ev_SR_cons {ρ : Nat → Nat} {n : Nat} {v : Value} {S st : List Value} (h : ev_SR ρ n (v :: S) st) : ∃ r, st = ev_cv ρ v :: r ∧ ev_SR ρ n S r ∧ ev_ok n v :=
  ⟨S.map (ev_cv ρ), h.1, ⟨rfl, fun w hw => h.2 w (List.mem_cons_of_mem _ hw)⟩, h.2 v List.mem_cons_self⟩
theorem ev_SR_push {ρ : Nat → Nat} {n : Nat} {v : Value} {S st : List Value} (h : ev_SR ρ n S st) (hv : ev_ok n v) : ev_SR ρ n (v :: S) (ev_cv ρ v :: st) :=
  ⟨by rw [h.1]; rfl, fun w hw => by
    rcases List.mem_cons.mp hw with rfl | hw
    · exact hv
    · exact h.2 w hw⟩
theorem ev_i2_some {f : Int32 → Int32 → Int32} {S S' : List Value} (h : ev_i2 f S = some S') : ∃ x y r, S = .int y :: .int x :: r ∧ S' = .int (f x y) :: r := by
  unfold ev_i2 at h
  split at h
  · exact ⟨_, _, _, rfl, (Option.some.inj h).symm⟩
  · cases h
theorem ev_i2n_some {f : Int32 → Int32 → Int32} {S S' : List Value} (h : ev_i2n f S = some S') : ∃ x y r, S = .int y :: .int x :: r ∧ S' = .int (f x y) :: r ∧ ¬ y = 0 := by
  unfold ev_i2n at h
  split at h
  · rename_i y x r
    by_cases hy : y = 0
    · simp [hy] at h
    · simp [hy] at h
      exact ⟨_, _, _, rfl, h.symm, hy⟩
  · cases h
theorem ev_i1_some {f : Int32 → Value} {S S' : List Value} (h : ev_i1 f S = some S') : ∃ x r, S = .int x :: r ∧ S' = f x :: r := by
  unfold ev_i1 at h
  split at h
  · exact ⟨_, _, rfl, (Option.some.inj h).symm⟩
  · cases h
theorem ev_cat1_ok {v : Value} (ρ : Nat → Nat) (h : ev_cat1 v = true) : (ev_cv ρ v).category = 1 := by
  cases v <;> first | rfl | cases h
