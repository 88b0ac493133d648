/-! the tables of the small machine are true: constants, statics, fields, classes; laid by wip/whole/gen/gena3.py -/
def zv_v : Value → Bool
  | .ref a => Nat.blt a 1000
  | _ => true
theorem zv_v_ok {v : Value} (h : zv_v v = true) : ev_ok 0 v := by
  cases v with
  | ref a =>
    have h : Nat.blt a 1000 = true := h
    rw [Nat.blt_eq] at h
    show a < 1000 + 0
    omega
  | _ => trivial
def zv_c : ev_AC → Bool
  | .inl (k, _) => Nat.beq k 0 || Nat.beq k 2
  | .inr (ci, vs) => Nat.beq ci 8 && Nat.ble vs.length 2 && vs.all zv_v
theorem zv_cs : cs_t.all (fun q => zv_c q.2) = true := by decide +kernel
theorem vV0 (xs : List Int32) (v9 : Value) : ev_V0 (ev_G0 xs v9) := by
  intro a x h
  have h : ev_cst0 xs a = some x := h
  unfold ev_cst0 at h
  cases hb : Nat.beq a 0 with
  | true =>
    rw [hb] at h
    have e : x = .inl (0, xs) := (Option.some.inj h).symm
    subst e
    exact Or.inl rfl
  | false =>
    rw [hb] at h
    have hm : (a, x) ∈ cs_t := ev_lk_mem h
    have hz := List.all_eq_true.mp zv_cs _ hm
    rcases x with ⟨k, l⟩ | ⟨ci, vs⟩
    · have hz : (Nat.beq k 0 || Nat.beq k 2) = true := hz
      rw [Bool.or_eq_true] at hz
      rcases hz with z | z
      · exact Or.inl (Nat.eq_of_beq_eq_true z)
      · exact Or.inr (Nat.eq_of_beq_eq_true z)
    · have hz : (Nat.beq ci 8 && Nat.ble vs.length 2 && vs.all zv_v) = true := hz
      rw [Bool.and_eq_true, Bool.and_eq_true] at hz
      exact ⟨Nat.eq_of_beq_eq_true hz.1.1, Nat.le_of_ble_eq_true hz.1.2, fun v hv => zv_v_ok (List.all_eq_true.mp hz.2 v hv)⟩
def zP1 (k i : Nat) (v : Value) : Prop := (∃ x : Int32, v = .int x ∧ Cond.constant (ev_cn0 k) i x ∈ ev_Tb0) ∨ (∃ (a : Nat) (tx : String), v = .ref a ∧ a < 1000 ∧ (ev_cn0 k, i, tx, a) ∈ ev_SS0)
theorem vv1_7_46 : zP1 7 46 (.ref 23) := Or.inr ⟨23, _, rfl, by decide, List.mem_of_getElem? (i := 11) rfl⟩
theorem vv1_7_56 : zP1 7 56 (.ref 1) := Or.inr ⟨1, _, rfl, by decide, List.mem_of_getElem? (i := 0) rfl⟩
theorem vv1_7_61 : zP1 7 61 (.ref 3) := Or.inr ⟨3, _, rfl, by decide, List.mem_of_getElem? (i := 1) rfl⟩
theorem vv1_7_66 : zP1 7 66 (.ref 7) := Or.inr ⟨7, _, rfl, by decide, List.mem_of_getElem? (i := 3) rfl⟩
theorem vv1_7_71 : zP1 7 71 (.ref 17) := Or.inr ⟨17, _, rfl, by decide, List.mem_of_getElem? (i := 8) rfl⟩
theorem vv1_7_73 : zP1 7 73 (.ref 5) := Or.inr ⟨5, _, rfl, by decide, List.mem_of_getElem? (i := 2) rfl⟩
theorem vv1_7_78 : zP1 7 78 (.ref 19) := Or.inr ⟨19, _, rfl, by decide, List.mem_of_getElem? (i := 9) rfl⟩
theorem vv1_7_80 : zP1 7 80 (.ref 21) := Or.inr ⟨21, _, rfl, by decide, List.mem_of_getElem? (i := 10) rfl⟩
theorem vv1_7_82 : zP1 7 82 (.ref 9) := Or.inr ⟨9, _, rfl, by decide, List.mem_of_getElem? (i := 4) rfl⟩
theorem vv1_7_84 : zP1 7 84 (.ref 11) := Or.inr ⟨11, _, rfl, by decide, List.mem_of_getElem? (i := 5) rfl⟩
theorem vv1_7_86 : zP1 7 86 (.ref 13) := Or.inr ⟨13, _, rfl, by decide, List.mem_of_getElem? (i := 6) rfl⟩
theorem vv1_7_88 : zP1 7 88 (.ref 15) := Or.inr ⟨15, _, rfl, by decide, List.mem_of_getElem? (i := 7) rfl⟩
theorem vv1_11_7 : zP1 11 7 (.int 69069) := Or.inl ⟨69069, rfl, (ev_mem 978 (by decide +kernel) (by decide +kernel))⟩
theorem vv1_11_8 : zP1 11 8 (.int 1103515245) := Or.inl ⟨1103515245, rfl, (ev_mem 979 (by decide +kernel) (by decide +kernel))⟩
theorem vv1_11_17 : zP1 11 17 (.int (-900001)) := Or.inl ⟨-900001, rfl, (ev_mem 641 (by decide +kernel) (by decide +kernel))⟩
theorem vv1_11_20 : zP1 11 20 (.int (-900002)) := Or.inl ⟨-900002, rfl, (ev_mem 642 (by decide +kernel) (by decide +kernel))⟩
theorem vv1_11_23 : zP1 11 23 (.int (-900003)) := Or.inl ⟨-900003, rfl, (ev_mem 643 (by decide +kernel) (by decide +kernel))⟩
theorem vv1_11_101 : zP1 11 101 (.int 2147483647) := Or.inl ⟨2147483647, rfl, (ev_mem 980 (by decide +kernel) (by decide +kernel))⟩
theorem vv1_11_114 : zP1 11 114 (.int (-900009)) := Or.inl ⟨-900009, rfl, (ev_mem 1318 (by decide +kernel) (by decide +kernel))⟩
theorem vv1_11_135 : zP1 11 135 (.ref 25) := Or.inr ⟨25, _, rfl, by decide, List.mem_of_getElem? (i := 28) rfl⟩
theorem vv1_11_142 : zP1 11 142 (.int (-90000000)) := Or.inl ⟨-90000000, rfl, (ev_mem 1285 (by decide +kernel) (by decide +kernel))⟩
theorem vv1_11_143 : zP1 11 143 (.ref 27) := Or.inr ⟨27, _, rfl, by decide, List.mem_of_getElem? (i := 30) rfl⟩
theorem vv1_11_145 : zP1 11 145 (.ref 29) := Or.inr ⟨29, _, rfl, by decide, List.mem_of_getElem? (i := 31) rfl⟩
theorem vv1_11_147 : zP1 11 147 (.ref 31) := Or.inr ⟨31, _, rfl, by decide, List.mem_of_getElem? (i := 32) rfl⟩
theorem vv1_11_149 : zP1 11 149 (.ref 33) := Or.inr ⟨33, _, rfl, by decide, List.mem_of_getElem? (i := 33) rfl⟩
theorem vv1_11_156 : zP1 11 156 (.ref 35) := Or.inr ⟨35, _, rfl, by decide, List.mem_of_getElem? (i := 34) rfl⟩
theorem vv1_11_165 : zP1 11 165 (.ref 37) := Or.inr ⟨37, _, rfl, by decide, List.mem_of_getElem? (i := 35) rfl⟩
theorem vv1_11_167 : zP1 11 167 (.ref 39) := Or.inr ⟨39, _, rfl, by decide, List.mem_of_getElem? (i := 36) rfl⟩
theorem vv1_11_176 : zP1 11 176 (.ref 41) := Or.inr ⟨41, _, rfl, by decide, List.mem_of_getElem? (i := 37) rfl⟩
theorem vv1_11_178 : zP1 11 178 (.ref 43) := Or.inr ⟨43, _, rfl, by decide, List.mem_of_getElem? (i := 38) rfl⟩
theorem vv1_11_180 : zP1 11 180 (.ref 45) := Or.inr ⟨45, _, rfl, by decide, List.mem_of_getElem? (i := 39) rfl⟩
theorem vv1_11_182 : zP1 11 182 (.ref 47) := Or.inr ⟨47, _, rfl, by decide, List.mem_of_getElem? (i := 40) rfl⟩
theorem vv1_11_184 : zP1 11 184 (.ref 49) := Or.inr ⟨49, _, rfl, by decide, List.mem_of_getElem? (i := 41) rfl⟩
theorem vv1_11_186 : zP1 11 186 (.ref 51) := Or.inr ⟨51, _, rfl, by decide, List.mem_of_getElem? (i := 42) rfl⟩
theorem vv1_11_291 : zP1 11 291 (.int (-900000)) := Or.inl ⟨-900000, rfl, (ev_mem 1676 (by decide +kernel) (by decide +kernel))⟩
theorem vv1_12_39 : zP1 12 39 (.int 2147483647) := Or.inl ⟨2147483647, rfl, (ev_mem 265 (by decide +kernel) (by decide +kernel))⟩
theorem vv1_16_200 : zP1 16 200 (.int 2147483639) := Or.inl ⟨2147483639, rfl, (ev_mem 261 (by decide +kernel) (by decide +kernel))⟩
theorem vv1_18_20 : zP1 18 20 (.int 1073741823) := Or.inl ⟨1073741823, rfl, (ev_mem 221 (by decide +kernel) (by decide +kernel))⟩
theorem vv1_18_227 : zP1 18 227 (.int 65536) := Or.inl ⟨65536, rfl, (ev_mem 1398 (by decide +kernel) (by decide +kernel))⟩
theorem vv1_20_76 : zP1 20 76 (.int 56320) := Or.inl ⟨56320, rfl, (ev_mem 1418 (by decide +kernel) (by decide +kernel))⟩
theorem vv1_20_110 : zP1 20 110 (.int 55232) := Or.inl ⟨55232, rfl, (ev_mem 1414 (by decide +kernel) (by decide +kernel))⟩
theorem vv1_t : ∀ z ∈ sk_0, ∀ q ∈ z.2, zP1 z.1 q.1 q.2.1 := List.forall_mem_cons.mpr ⟨List.forall_mem_cons.mpr ⟨vv1_7_46, List.forall_mem_cons.mpr ⟨vv1_7_56, List.forall_mem_cons.mpr ⟨vv1_7_61, List.forall_mem_cons.mpr ⟨vv1_7_66, List.forall_mem_cons.mpr ⟨vv1_7_71, List.forall_mem_cons.mpr ⟨vv1_7_73, List.forall_mem_cons.mpr ⟨vv1_7_78, List.forall_mem_cons.mpr ⟨vv1_7_80, List.forall_mem_cons.mpr ⟨vv1_7_82, List.forall_mem_cons.mpr ⟨vv1_7_84, List.forall_mem_cons.mpr ⟨vv1_7_86, List.forall_mem_cons.mpr ⟨vv1_7_88, fun _ h => absurd h List.not_mem_nil⟩⟩⟩⟩⟩⟩⟩⟩⟩⟩⟩⟩, List.forall_mem_cons.mpr ⟨List.forall_mem_cons.mpr ⟨vv1_11_7, List.forall_mem_cons.mpr ⟨vv1_11_8, List.forall_mem_cons.mpr ⟨vv1_11_17, List.forall_mem_cons.mpr ⟨vv1_11_20, List.forall_mem_cons.mpr ⟨vv1_11_23, List.forall_mem_cons.mpr ⟨vv1_11_101, List.forall_mem_cons.mpr ⟨vv1_11_114, List.forall_mem_cons.mpr ⟨vv1_11_135, List.forall_mem_cons.mpr ⟨vv1_11_142, List.forall_mem_cons.mpr ⟨vv1_11_143, List.forall_mem_cons.mpr ⟨vv1_11_145, List.forall_mem_cons.mpr ⟨vv1_11_147, List.forall_mem_cons.mpr ⟨vv1_11_149, List.forall_mem_cons.mpr ⟨vv1_11_156, List.forall_mem_cons.mpr ⟨vv1_11_165, List.forall_mem_cons.mpr ⟨vv1_11_167, List.forall_mem_cons.mpr ⟨vv1_11_176, List.forall_mem_cons.mpr ⟨vv1_11_178, List.forall_mem_cons.mpr ⟨vv1_11_180, List.forall_mem_cons.mpr ⟨vv1_11_182, List.forall_mem_cons.mpr ⟨vv1_11_184, List.forall_mem_cons.mpr ⟨vv1_11_186, List.forall_mem_cons.mpr ⟨vv1_11_291, fun _ h => absurd h List.not_mem_nil⟩⟩⟩⟩⟩⟩⟩⟩⟩⟩⟩⟩⟩⟩⟩⟩⟩⟩⟩⟩⟩⟩⟩, List.forall_mem_cons.mpr ⟨List.forall_mem_cons.mpr ⟨vv1_12_39, fun _ h => absurd h List.not_mem_nil⟩, List.forall_mem_cons.mpr ⟨List.forall_mem_cons.mpr ⟨vv1_16_200, fun _ h => absurd h List.not_mem_nil⟩, List.forall_mem_cons.mpr ⟨List.forall_mem_cons.mpr ⟨vv1_18_20, List.forall_mem_cons.mpr ⟨vv1_18_227, fun _ h => absurd h List.not_mem_nil⟩⟩, List.forall_mem_cons.mpr ⟨List.forall_mem_cons.mpr ⟨vv1_20_76, List.forall_mem_cons.mpr ⟨vv1_20_110, fun _ h => absurd h List.not_mem_nil⟩⟩, fun _ h => absurd h List.not_mem_nil⟩⟩⟩⟩⟩⟩
theorem vV1 (xs : List Int32) (v9 : Value) : ev_V1 (ev_G0 xs v9) (ev_B0 v9) := by
  intro k i v h
  obtain ⟨l, q, h1, h2, h3⟩ := ev_lkS (t := sk_0) h
  have h4 := vv1_t (k, l) h1 (i, q) h2
  have h3 : q.1 = v := h3
  rw [← h3]
  exact h4
def zP2 (v9 : Value) (k i : Nat) (v : Value) : Prop := ev_ok 0 v ∧ ∃ C n d : String, (C, n, d, v) ∈ ev_ST0 v9 ∧ Cond.fieldLink (ev_cn0 k) i C n d ∈ ev_Tb0
theorem vv2_8_38 {v9 : Value} (h9 : ev_ok 0 v9) : zP2 v9 8 38 (.int 1) := ⟨trivial, _, _, _, List.mem_of_getElem? (i := 0) rfl, (ev_mem 321 (by decide +kernel) (by decide +kernel))⟩
theorem vv2_8_1053 {v9 : Value} (h9 : ev_ok 0 v9) : zP2 v9 8 1053 (v9) := ⟨h9, _, _, _, List.mem_of_getElem? (i := 3) rfl, (ev_mem 299 (by decide +kernel) (by decide +kernel))⟩
theorem vv2_12_18 {v9 : Value} (h9 : ev_ok 0 v9) : zP2 v9 12 18 (.int 1) := ⟨trivial, _, _, _, List.mem_of_getElem? (i := 0) rfl, (ev_mem 213 (by decide +kernel) (by decide +kernel))⟩
theorem vv2_14_83 {v9 : Value} (h9 : ev_ok 0 v9) : zP2 v9 14 83 (.ref 901) := ⟨(by show 901 < 1000 + 0; decide), _, _, _, List.mem_of_getElem? (i := 2) rfl, (ev_mem 369 (by decide +kernel) (by decide +kernel))⟩
theorem vv2_14_87 {v9 : Value} (h9 : ev_ok 0 v9) : zP2 v9 14 87 (.ref 900) := ⟨(by show 900 < 1000 + 0; decide), _, _, _, List.mem_of_getElem? (i := 1) rfl, (ev_mem 371 (by decide +kernel) (by decide +kernel))⟩
theorem vv2_18_403 {v9 : Value} (h9 : ev_ok 0 v9) : zP2 v9 18 403 (.ref 901) := ⟨(by show 901 < 1000 + 0; decide), _, _, _, List.mem_of_getElem? (i := 2) rfl, (ev_mem 379 (by decide +kernel) (by decide +kernel))⟩
theorem vv2_18_407 {v9 : Value} (h9 : ev_ok 0 v9) : zP2 v9 18 407 (.ref 900) := ⟨(by show 900 < 1000 + 0; decide), _, _, _, List.mem_of_getElem? (i := 1) rfl, (ev_mem 380 (by decide +kernel) (by decide +kernel))⟩
theorem vv2_t {v9 : Value} (h9 : ev_ok 0 v9) : ∀ z ∈ sk_1 v9, ∀ q ∈ z.2, zP2 v9 z.1 q.1 q.2.1 := List.forall_mem_cons.mpr ⟨List.forall_mem_cons.mpr ⟨vv2_8_38 h9, List.forall_mem_cons.mpr ⟨vv2_8_1053 h9, fun _ h => absurd h List.not_mem_nil⟩⟩, List.forall_mem_cons.mpr ⟨List.forall_mem_cons.mpr ⟨vv2_12_18 h9, fun _ h => absurd h List.not_mem_nil⟩, List.forall_mem_cons.mpr ⟨List.forall_mem_cons.mpr ⟨vv2_14_83 h9, List.forall_mem_cons.mpr ⟨vv2_14_87 h9, fun _ h => absurd h List.not_mem_nil⟩⟩, List.forall_mem_cons.mpr ⟨List.forall_mem_cons.mpr ⟨vv2_18_403 h9, List.forall_mem_cons.mpr ⟨vv2_18_407 h9, fun _ h => absurd h List.not_mem_nil⟩⟩, fun _ h => absurd h List.not_mem_nil⟩⟩⟩⟩
theorem vV2 (xs : List Int32) {v9 : Value} (h9 : ev_ok 0 v9) : ev_V2 (ev_G0 xs v9) (ev_B0 v9) := by
  intro k i v h
  obtain ⟨l, q, h1, h2, h3⟩ := ev_lkS (t := sk_1 v9) h
  have h4 := vv2_t h9 (k, l) h1 (i, q) h2
  have h3 : q.1 = v := h3
  rw [← h3]
  exact h4
