/-! the tables of the small machine are true, all of them; laid by wip/whole/gen/gena3.py -/
theorem vV11 (xs : List Int32) (v9 : Value) : ev_V11 (ev_G0 xs v9) (ev_B0 v9) := by
  intro i is ic E h
  have h : ev_ex0 i is ic = some E := h
  unfold ev_ex0 at h
  obtain ⟨q, hq, e⟩ := Option.map_eq_some_iff.mp h
  have hm := List.mem_of_find?_eq_some hq
  have hp := List.find?_some hq
  rw [Bool.and_eq_true, Bool.and_eq_true] at hp
  have h4 := vvc_t q hm
  rw [Nat.eq_of_beq_eq_true hp.1.1, Nat.eq_of_beq_eq_true hp.1.2, Nat.eq_of_beq_eq_true hp.2, e] at h4
  exact h4
theorem vVn (v9 : Value) : ev_Vn (ev_B0 v9) := by
  refine ⟨fun w hw => ?_, fun w hw => ?_, fun w hw => ?_⟩
  · have h := (List.mem_filter.mp (show w ∈ ev_NG0 from hw)).2
    rw [Bool.and_eq_true] at h
    exact h.2
  · have h := (List.mem_filter.mp (show w ∈ ev_NG0 from hw)).2
    rw [Bool.and_eq_true] at h
    exact h.1
  · rcases List.mem_append.mp (show w ∈ ev_Tx ++ lw_tbl.filter goodWord from hw) with h | h
    · exact List.all_eq_true.mp (show ev_Tx.all goodWord = true by decide +kernel) w h
    · exact (List.mem_filter.mp h).2
theorem vVV (xs : List Int32) {v9 : Value} (h9 : ev_ok 0 v9) : ev_VV (ev_G0 xs v9) (ev_B0 v9) := ⟨vV xs h9, ev_V9_0 xs v9, vV10 xs v9, vV11 xs v9, vVn v9⟩
