/-! loads, stores, iinc -/
def ev_lvo (ρ : Nat → Nat) (L : ev_VL) : List (Nat × Value) := (List.range L.length).filterMap (fun i => match L[i]? with
  | some (some v) => some (i, ev_cv ρ v)
  | _ => none)
theorem ev_lvo_mem {ρ : Nat → Nat} {L : ev_VL} {q : Nat × Value} : q ∈ ev_lvo ρ L ↔ ∃ v, L[q.1]? = some (some v) ∧ q.2 = ev_cv ρ v := by
  unfold ev_lvo
  rw [List.mem_filterMap]
  constructor
  · rintro ⟨i, hi, h⟩
    split at h
    · rename_i v hv
      cases h
      exact ⟨v, hv, rfl⟩
    · cases h
  · rintro ⟨v, hv, h2⟩
    refine ⟨q.1, List.mem_range.mpr (List.getElem?_eq_some_iff.mp hv).1, ?_⟩
    rw [hv]
    obtain ⟨a, b⟩ := q
    simp only at h2 ⊢
    rw [h2]
theorem ev_LR_has {ρ : Nat → Nat} {n nL : Nat} {L : ev_VL} {ls : Array Slot} (h : ev_LR ρ n nL L ls) : lv_has ls nL (ev_lvo ρ L) :=
  ⟨h.1, h.2.2.1, fun q hq => by
    obtain ⟨v, hv, e⟩ := ev_lvo_mem.mp hq
    rw [e]
    exact (h.2.2.2 _ _ hv).1⟩
theorem ev_cv_cat (ρ : Nat → Nat) (v : Value) : (ev_cv ρ v).category = v.category := by cases v <;> rfl
theorem ev_c2_of {L : ev_VL} {i : Nat} {v : Value} (h : ev_c2 L i = false) (hv : L[i]? = some (some v)) : v.category ≠ 2 := by
  unfold ev_c2 at h
  rw [hv] at h
  cases v <;> first | (cases h; done) | (intro h9; cases h9)
theorem ev_sok_lt {L : ev_VL} {j : Nat} (h : ev_sok L j = true) : j < L.length := by
  unfold ev_sok at h
  rw [Bool.and_eq_true] at h
  exact Nat.le_of_ble_eq_true h.1
theorem ev_sok_cut {L : ev_VL} {i j : Nat} {w : Value} (h : ev_sok L j = true) (hw : L[i]? = some (some w)) : (i + 1 == j && w.category == 2) = false := by
  unfold ev_sok at h
  rw [Bool.and_eq_true] at h
  by_cases hij : i + 1 = j
  · subst hij
    have h2 : ev_c2 L i = false := by simpa using h.2
    have := ev_c2_of h2 hw
    simp [this]
  · simp [hij]
theorem ev_LR_st1 {ρ : Nat → Nat} {n nL j : Nat} {L : ev_VL} {ls ls' : Array Slot} {v : Value} (h : ev_LR ρ n nL L ls) (hj : ev_sok L j = true) (hv : ev_ok n v)
    (hl : lv_has ls' nL ((j, ev_cv ρ v) :: (ev_lvo ρ L).filter (fun q => !(q.1 == j) && !(q.1 + 1 == j && q.2.category == 2)))) : ev_LR ρ n nL (L.set j (some v)) ls' := by
  refine ⟨hl.1, by rw [List.length_set]; exact h.2.1, hl.2.1, fun i w hw => ?_⟩
  rw [List.getElem?_set] at hw
  by_cases hij : j = i
  · subst hij
    rw [if_pos rfl, if_pos (ev_sok_lt hj)] at hw
    cases hw
    exact ⟨hl.2.2 _ List.mem_cons_self, hv⟩
  · rw [if_neg hij] at hw
    refine ⟨hl.2.2 (i, ev_cv ρ w) (List.mem_cons_of_mem _ (List.mem_filter.mpr ⟨ev_lvo_mem.mpr ⟨w, hw, rfl⟩, ?_⟩)), (h.2.2.2 _ _ hw).2⟩
    have h1 := ev_sok_cut hj hw
    rw [ev_cv_cat]
    simp only [h1]
    simp [Ne.symm hij]
theorem ev_LR_st2 {ρ : Nat → Nat} {n nL j : Nat} {L : ev_VL} {ls ls' : Array Slot} {v : Value} (h : ev_LR ρ n nL L ls) (hj : ev_sok L j = true) (hv : ev_ok n v)
    (hl : lv_has ls' nL ((j, ev_cv ρ v) :: (ev_lvo ρ L).filter (fun q => !(q.1 == j) && (!(q.1 == j + 1) && !(q.1 + 1 == j && q.2.category == 2))))) : ev_LR ρ n nL ((L.set j (some v)).set (j + 1) none) ls' := by
  refine ⟨hl.1, by rw [List.length_set, List.length_set]; exact h.2.1, hl.2.1, fun i w hw => ?_⟩
  rw [List.getElem?_set] at hw
  by_cases hij1 : j + 1 = i
  · rw [if_pos hij1] at hw
    split at hw <;> cases hw
  rw [if_neg hij1, List.getElem?_set] at hw
  by_cases hij : j = i
  · subst hij
    rw [if_pos rfl, if_pos (ev_sok_lt hj)] at hw
    cases hw
    exact ⟨hl.2.2 _ List.mem_cons_self, hv⟩
  · rw [if_neg hij] at hw
    refine ⟨hl.2.2 (i, ev_cv ρ w) (List.mem_cons_of_mem _ (List.mem_filter.mpr ⟨ev_lvo_mem.mpr ⟨w, hw, rfl⟩, ?_⟩)), (h.2.2.2 _ _ hw).2⟩
    have h1 := ev_sok_cut hj hw
    rw [ev_cv_cat]
    simp only [h1]
    simp [Ne.symm hij, Ne.symm hij1]
theorem ev_LR_forget {ρ : Nat → Nat} {n nL j : Nat} {L : ev_VL} {ls : Array Slot} (h : ev_LR ρ n nL L ls) : ev_LR ρ n nL (L.set j none) ls := by
  refine ⟨h.1, by rw [List.length_set]; exact h.2.1, h.2.2.1, fun i w hw => ?_⟩
  rw [List.getElem?_set] at hw
  split at hw
  · split at hw <;> cases hw
  · exact h.2.2.2 i w hw
section
variable {G : ev_G} {B : ev_B} {M : ev_MD} {D : va_G} {T : Nat → ClassId} {κ ρ : Nat → Nat} {A : Nat → Prop} {p : Program} {l : Launch} {e : Env} {R : Room} {s : State} {m : MethodId} {args : Array Value} {below : List Frame} {meth : Method} {c : Code} {H : Heap} {locs : List Loc} {cells slots : Nat} {Q : State → Prop} {pc n nn nL : Nat} {ls : Array Slot} {S S' st : List Value} {i : Instr} {L : ev_VL}
theorem ev_l_ok (F : ev_Fx G B M D T κ A p l s m args meth c) {j t : Nat} {v : Value} (hd : decode M.2.2.1 pc = .ok (i, n)) (hl : ev_len i n = true) (hi : ev_ldi i = some (j, t)) (hj : L[j]? = some (some v)) (hv : ev_srt t v = true) (hR : ev_SR ρ nn S st) (hL : ev_LR ρ nn nL L ls)
    (kk : ∀ st', ev_SR ρ nn (v :: S) st' → W p l e R s m args below meth c H locs cells slots Q (F0 m (pc + n) ls st')) : W p l e R s m args below meth c H locs cells slots Q (F0 m pc ls st) := by
  obtain ⟨hx, hb, -⟩ := F
  obtain ⟨hg, hok⟩ := hL.2.2.2 _ _ hj
  have kk := kk _ (ev_SR_push hR hok)
  cases i with
  | iload_n k =>
    obtain rfl : n = 1 := Nat.eq_of_beq_eq_true hl
    cases hi
    cases v <;> first | (cases hv; done) | exact lv_iload_n hx hb hd rfl hg kk
  | iload k =>
    obtain rfl : n = 2 := Nat.eq_of_beq_eq_true hl
    cases hi
    cases v <;> first | (cases hv; done) | exact lv_iload hx hb hd hg kk
  | aload_n k =>
    obtain rfl : n = 1 := Nat.eq_of_beq_eq_true hl
    cases hi
    cases v <;> first | (cases hv; done) | exact lv_aload_n hx hb hd rfl hg kk
  | aload k =>
    obtain rfl : n = 2 := Nat.eq_of_beq_eq_true hl
    cases hi
    cases v <;> first | (cases hv; done) | exact lv_aload hx hb hd hg kk
  | fload_n k =>
    obtain rfl : n = 1 := Nat.eq_of_beq_eq_true hl
    cases hi
    cases v <;> first | (cases hv; done) | exact lv_fload_n hx hb hd rfl hg kk
  | fload k =>
    obtain rfl : n = 2 := Nat.eq_of_beq_eq_true hl
    cases hi
    cases v <;> first | (cases hv; done) | exact lv_fload hx hb hd hg kk
  | dload_n k =>
    obtain rfl : n = 1 := Nat.eq_of_beq_eq_true hl
    cases hi
    cases v <;> first | (cases hv; done) | exact lv_dload_n hx hb hd rfl hg kk
  | dload k =>
    obtain rfl : n = 2 := Nat.eq_of_beq_eq_true hl
    cases hi
    cases v <;> first | (cases hv; done) | exact lv_dload hx hb hd hg kk
  | _ => simp [ev_ldi] at hi
theorem ev_st_ok (F : ev_Fx G B M D T κ A p l s m args meth c) {j t : Nat} {v : Value} (hd : decode M.2.2.1 pc = .ok (i, n)) (hl : ev_len i n = true) (hi : ev_sti i = some (j, t)) (hv : ev_srt t v = true) (hj : ev_sok L j = true) (hj2 : Nat.beq t 3 = true → Nat.blt (j + 1) L.length = true) (hR : ev_SR ρ nn (v :: S) st) (hL : ev_LR ρ nn nL L ls)
    (kk : ∀ ls' st', ev_SR ρ nn S st' → ev_LR ρ nn nL (bif Nat.beq t 3 then (L.set j (some v)).set (j + 1) none else L.set j (some v)) ls' → W p l e R s m args below meth c H locs cells slots Q (F0 m (pc + n) ls' st')) : W p l e R s m args below meth c H locs cells slots Q (F0 m pc ls st) := by
  obtain ⟨hx, hb, -⟩ := F
  obtain ⟨st, rfl, hR2, hok⟩ := ev_SR_cons hR
  have hh := ev_LR_has hL
  have hlt : j < nL := by rw [← hL.2.1]; exact ev_sok_lt hj
  cases i with
  | istore_n k =>
    obtain rfl : n = 1 := Nat.eq_of_beq_eq_true hl
    cases hi
    cases v <;> first | (cases hv; done) | exact lv_istore_n hx hb hd rfl hh hlt rfl (fun ls' h' => kk ls' _ hR2 (ev_LR_st1 hL hj hok h'))
  | istore k =>
    obtain rfl : n = 2 := Nat.eq_of_beq_eq_true hl
    cases hi
    cases v <;> first | (cases hv; done) | exact lv_istore hx hb hd hh hlt rfl (fun ls' h' => kk ls' _ hR2 (ev_LR_st1 hL hj hok h'))
  | astore_n k =>
    obtain rfl : n = 1 := Nat.eq_of_beq_eq_true hl
    cases hi
    cases v <;> first | (cases hv; done) | exact lv_astore_n hx hb hd rfl hh hlt rfl (fun ls' h' => kk ls' _ hR2 (ev_LR_st1 hL hj hok h'))
  | astore k =>
    obtain rfl : n = 2 := Nat.eq_of_beq_eq_true hl
    cases hi
    cases v <;> first | (cases hv; done) | exact lv_astore hx hb hd hh hlt rfl (fun ls' h' => kk ls' _ hR2 (ev_LR_st1 hL hj hok h'))
  | fstore_n k =>
    obtain rfl : n = 1 := Nat.eq_of_beq_eq_true hl
    cases hi
    cases v <;> first | (cases hv; done) | exact lv_fstore_n hx hb hd rfl hh hlt rfl (fun ls' h' => kk ls' _ hR2 (ev_LR_st1 hL hj hok h'))
  | fstore k =>
    obtain rfl : n = 2 := Nat.eq_of_beq_eq_true hl
    cases hi
    cases v <;> first | (cases hv; done) | exact lv_fstore hx hb hd hh hlt rfl (fun ls' h' => kk ls' _ hR2 (ev_LR_st1 hL hj hok h'))
  | dstore_n k =>
    obtain rfl : n = 1 := Nat.eq_of_beq_eq_true hl
    cases hi
    cases v <;> first | (cases hv; done) | exact lv_dstore_n hx hb hd rfl hh (by rw [← hL.2.1]; exact Nat.le_of_ble_eq_true (hj2 rfl)) rfl (fun ls' h' => kk ls' _ hR2 (ev_LR_st2 hL hj hok h'))
  | dstore k =>
    obtain rfl : n = 2 := Nat.eq_of_beq_eq_true hl
    cases hi
    cases v <;> first | (cases hv; done) | exact lv_dstore hx hb hd hh (by rw [← hL.2.1]; exact Nat.le_of_ble_eq_true (hj2 rfl)) rfl (fun ls' h' => kk ls' _ hR2 (ev_LR_st2 hL hj hok h'))
  | _ => simp [ev_sti] at hi
theorem ev_inc_ok (F : ev_Fx G B M D T κ A p l s m args meth c) {j : Nat} {k : Int} {x : Int32} (hd : decode M.2.2.1 pc = .ok (.iinc j k, n)) (hl : ev_len (.iinc j k) n = true) (hg : L[j]? = some (some (.int x))) (hj : ev_sok L j = true) (hL : ev_LR ρ nn nL L ls)
    (kk : ∀ ls', ev_LR ρ nn nL (L.set j (some (.int (x + Int32.ofInt k)))) ls' → W p l e R s m args below meth c H locs cells slots Q (F0 m (pc + 3) ls' st)) : W p l e R s m args below meth c H locs cells slots Q (F0 m pc ls st) := by
  obtain ⟨hx, hb, -⟩ := F
  obtain rfl : n = 3 := Nat.eq_of_beq_eq_true hl
  have hh := ev_LR_has hL
  have hlt : j < nL := by rw [← hL.2.1]; exact ev_sok_lt hj
  obtain ⟨q, hq⟩ := List.getElem?_of_mem (ev_lvo_mem (ρ := ρ) (L := L) (q := (j, .int x)) |>.mpr ⟨.int x, hg, rfl⟩)
  exact lv_iinc hx hb hd hh hq rfl hlt rfl (fun ls' h' => kk ls' (ev_LR_st1 (v := .int _) hL hj trivial h'))
end
