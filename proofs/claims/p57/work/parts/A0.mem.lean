/-! words of the tables, by their places -/
theorem ev_mem (i : Nat) {w : Jvm.Cond} (h : lw_tbl[i]? = some w) (g : goodWord w = true) : w ∈ ev_Tb0 := List.mem_append_right _ (List.mem_filter.mpr ⟨List.mem_of_getElem? h, g⟩)
theorem ev_memx (i : Nat) {w : Jvm.Cond} (h : ev_Tx[i]? = some w) : w ∈ ev_Tb0 := List.mem_append_left _ (List.mem_of_getElem? h)
theorem ev_memN (i : Nat) {w : Jvm.Cond} (h : tables_1[i]? = some w) (g : (ev_ngk w && w.onTables) = true) : w ∈ ev_NG0 := List.mem_filter.mpr ⟨List.mem_of_getElem? h, g⟩
theorem ev_dec_all (b : ByteArray) (l : List (Nat × Instr × Nat)) (h : l.all (fun q => decide (decode b q.1 = .ok q.2)) = true) : ∀ q ∈ l, decode b q.1 = .ok q.2 := fun q hq => of_decide_eq_true (List.all_eq_true.mp h q hq)
theorem ev_lkS {t : List (Nat × List (Nat × Value × Nat))} {k i : Nat} {v : Value} (h : ev_skl t k i = some v) : ∃ l q, (k, l) ∈ t ∧ (i, q) ∈ l ∧ q.1 = v := by
  unfold ev_skl at h
  split at h
  · rename_i l hl
    split at h
    · rename_i q hq
      exact ⟨l, q, ev_lk_mem hl, ev_lk_mem hq, Option.some.inj h⟩
    · cases h
  · cases h
theorem ev_lkF {k i ci sl : Nat} (h : ev_fld0 k i = some (ci, sl)) : ∃ l q, (k, l) ∈ fl_t ∧ (i, q) ∈ l ∧ (q.1, q.2.1) = (ci, sl) := by
  unfold ev_fld0 at h
  split at h
  · rename_i l hl
    split at h
    · rename_i q hq
      exact ⟨l, q, ev_lk_mem hl, ev_lk_mem hq, Option.some.inj h⟩
    · cases h
  · cases h
theorem ev_lkN {k i ci : Nat} (h : ev_nw0 k i = some ci) : ∃ l q, (k, l) ∈ nw_t ∧ (i, q) ∈ l ∧ q.1 = ci := by
  unfold ev_nw0 at h
  split at h
  · rename_i l hl
    split at h
    · rename_i q hq
      exact ⟨l, q, ev_lk_mem hl, ev_lk_mem hq, Option.some.inj h⟩
    · cases h
  · cases h
theorem ev_lkC {k i kd n rc : Nat} {M : ev_MD} (h : ev_ct0 k i = some (kd, n, rc, M)) : ∃ l q, (k, l) ∈ ct_t ∧ (i, q) ∈ l ∧ (q.1, q.2.1, q.2.2.1, q.2.2.2.1) = (kd, n, rc, M) := by
  unfold ev_ct0 at h
  split at h
  · rename_i l hl
    split at h
    · rename_i q hq
      exact ⟨l, q, ev_lk_mem hl, ev_lk_mem hq, Option.some.inj h⟩
    · cases h
  · cases h
