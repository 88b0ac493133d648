/-! the tables of the small machine are true: classes, exceptions; laid by wip/whole/gen/gena3.py -/
theorem zm_all {ws : List Cond} (is : List Nat) (h : is.map (fun i => lw_tbl[i]?) = ws.map some) (g : ws.all goodWord = true) : ∀ w ∈ ws, w ∈ ev_Tb0 := by
  intro w hw
  have h1 : some w ∈ is.map (fun i => lw_tbl[i]?) := by rw [h]; exact List.mem_map_of_mem hw
  obtain ⟨i, _, hi⟩ := List.mem_map.mp h1
  exact ev_mem i hi (List.all_eq_true.mp g w hw)
def zP4 (ci : Nat) (C : String) (F : u_T) (N : Nat) : Prop := (∀ w ∈ u_ws C F N, w ∈ ev_Tb0) ∧ (ev_ft0 ci).length = N ∧ (∀ (j : Nat) (q : FieldType × Bool), (ev_ft0 ci)[j]? = some q → parseFieldDescriptor (F j).2.2.1 = some q.1 ∧ (F j).2.2.2 = q.2 ∧ (q.2 = true → (F j).1 = C)) ∧
  (∀ a, a < N → ∀ b, b < N → a ≠ b → (F a).2.1 ≠ (F b).2.1) ∧ ev_cn0 ci = C
theorem zp4 {ci N : Nat} {C : String} {F : u_T} (is : List Nat) (h : is.map (fun i => lw_tbl[i]?) = (u_ws C F N).map some) (g : (u_ws C F N).all goodWord = true) (hl : (ev_ft0 ci).length = N) (hf : ∀ j, j < N → parseFieldDescriptor (F j).2.2.1 = some ((ev_ft0 ci).getD j (.int, false)).1 ∧ (F j).2.2.2 = ((ev_ft0 ci).getD j (.int, false)).2 ∧ (((ev_ft0 ci).getD j (.int, false)).2 = true → (F j).1 = C))
    (hn : ∀ a, a < N → ∀ b, b < N → a ≠ b → (F a).2.1 ≠ (F b).2.1) (hc : ev_cn0 ci = C) : zP4 ci C F N := by
  refine ⟨zm_all is h g, hl, fun j q hq => ?_, hn, hc⟩
  have hj : j < N := by rw [← hl]; exact (List.getElem?_eq_some_iff.mp hq).1
  have e : (ev_ft0 ci).getD j (.int, false) = q := by rw [List.getD_eq_getElem?_getD, hq]; rfl
  have := hf j hj
  rw [e] at this
  exact this
theorem vv4_0 : zP4 0 RX8 TX8 16 := zp4 [1225, 1227, 1229, 1231, 1233, 1235, 1237, 1239, 1241, 1243, 1245, 1247, 1249, 1251, 1253, 1255] (by decide +kernel) (by decide +kernel) (by decide +kernel) (by decide +kernel) nmX8 rfl
theorem vv4_1 : zP4 1 RX2 TX2 14 := zp4 [1052, 1054, 1056, 1058, 1060, 1062, 1064, 1066, 1068, 1070, 1072, 1074, 1076, 1078] (by decide +kernel) (by decide +kernel) (by decide +kernel) (by decide +kernel) nmX2 rfl
theorem vv4_2 : zP4 2 RX3 TX3 3 := zp4 [1095, 1097, 1099] (by decide +kernel) (by decide +kernel) (by decide +kernel) (by decide +kernel) nmX3 rfl
theorem vv4_3 : zP4 3 RX5 TX5 4 := zp4 [1115, 1117, 1119, 1121] (by decide +kernel) (by decide +kernel) (by decide +kernel) (by decide +kernel) nmX5 rfl
theorem vv4_4 : zP4 4 RX4 TX4 1 := zp4 [1131] (by decide +kernel) (by decide +kernel) (by decide +kernel) (by decide +kernel) nmX4 rfl
theorem vv4_5 : zP4 5 RX1 TX1 4 := zp4 [1143, 1145, 1147, 1149] (by decide +kernel) (by decide +kernel) (by decide +kernel) (by decide +kernel) nmX1 rfl
theorem vv4_6 : zP4 6 RX7 TX7 4 := zp4 [1161, 1163, 1165, 1167] (by decide +kernel) (by decide +kernel) (by decide +kernel) (by decide +kernel) nmX7 rfl
theorem vv4_7 : zP4 7 RX6 TX6 7 := zp4 [1192, 1194, 1196, 1198, 1200, 1202, 1204] (by decide +kernel) (by decide +kernel) (by decide +kernel) (by decide +kernel) nmX6 rfl
theorem vv4_8 : zP4 8 RJ0 TJ0 4 := zp4 [453, 455, 457, 459] (by decide +kernel) (by decide +kernel) (by decide +kernel) (by decide +kernel) nmJ0 rfl
theorem vv4_9 : zP4 9 RJ4 TJ4 4 := zp4 [227, 229, 231, 233] (by decide +kernel) (by decide +kernel) (by decide +kernel) (by decide +kernel) nmJ4 rfl
theorem vV4 (xs : List Int32) (v9 : Value) : ev_V4 (ev_G0 xs v9) (ev_B0 v9) := by
  intro ci C F N h
  have h : ev_cl0[ci]? = some (C, F, N) := h
  show zP4 ci C F N
  match ci, h with
  | 0, h => cases h; exact vv4_0
  | 1, h => cases h; exact vv4_1
  | 2, h => cases h; exact vv4_2
  | 3, h => cases h; exact vv4_3
  | 4, h => cases h; exact vv4_4
  | 5, h => cases h; exact vv4_5
  | 6, h => cases h; exact vv4_6
  | 7, h => cases h; exact vv4_7
  | 8, h => cases h; exact vv4_8
  | 9, h => cases h; exact vv4_9
  | n + 10, h => simp [ev_cl0] at h
def zP5 (k i ci : Nat) : Prop := ∃ (C : String) (F : u_T) (N : Nat), ci < 50 ∧ ev_cl0[ci]? = some (C, F, N) ∧ Cond.classLink (ev_cn0 k) i C ∈ ev_Tb0 ∧ Cond.instantiable C N ∈ ev_Tb0 ∧ Cond.initialized C ∈ ev_Tb0
theorem vv5_0_7 : zP5 0 7 1 := ⟨RX2, TX2, 14, by decide, rfl, (ev_mem 1018 (by decide +kernel) (by decide +kernel)), (ev_mem 515 (by decide +kernel) (by decide +kernel)), (ev_mem 82 (by decide +kernel) (by decide +kernel))⟩
theorem vv5_0_19 : zP5 0 19 2 := ⟨RX3, TX3, 3, by decide, rfl, (ev_mem 1083 (by decide +kernel) (by decide +kernel)), (ev_mem 614 (by decide +kernel) (by decide +kernel)), (ev_mem 83 (by decide +kernel) (by decide +kernel))⟩
theorem vv5_0_26 : zP5 0 26 3 := ⟨RX5, TX5, 4, by decide, rfl, (ev_mem 1102 (by decide +kernel) (by decide +kernel)), (ev_mem 748 (by decide +kernel) (by decide +kernel)), (ev_mem 84 (by decide +kernel) (by decide +kernel))⟩
theorem vv5_0_33 : zP5 0 33 4 := ⟨RX4, TX4, 1, by decide, rfl, (ev_mem 1124 (by decide +kernel) (by decide +kernel)), (ev_mem 1125 (by decide +kernel) (by decide +kernel)), (ev_mem 85 (by decide +kernel) (by decide +kernel))⟩
theorem vv5_0_40 : zP5 0 40 5 := ⟨RX1, TX1, 4, by decide, rfl, (ev_mem 1134 (by decide +kernel) (by decide +kernel)), (ev_mem 667 (by decide +kernel) (by decide +kernel)), (ev_mem 86 (by decide +kernel) (by decide +kernel))⟩
theorem vv5_0_50 : zP5 0 50 6 := ⟨RX7, TX7, 4, by decide, rfl, (ev_mem 1152 (by decide +kernel) (by decide +kernel)), (ev_mem 881 (by decide +kernel) (by decide +kernel)), (ev_mem 87 (by decide +kernel) (by decide +kernel))⟩
theorem vv5_0_57 : zP5 0 57 7 := ⟨RX6, TX6, 7, by decide, rfl, (ev_mem 1170 (by decide +kernel) (by decide +kernel)), (ev_mem 1171 (by decide +kernel) (by decide +kernel)), (ev_mem 88 (by decide +kernel) (by decide +kernel))⟩
theorem vv5_0_64 : zP5 0 64 9 := ⟨RJ4, TJ4, 4, by decide, rfl, (ev_mem 1207 (by decide +kernel) (by decide +kernel)), (ev_mem 205 (by decide +kernel) (by decide +kernel)), (ev_mem 90 (by decide +kernel) (by decide +kernel))⟩
theorem vv5_2_11 : zP5 2 11 1 := ⟨RX2, TX2, 14, by decide, rfl, (ev_mem 1088 (by decide +kernel) (by decide +kernel)), (ev_mem 515 (by decide +kernel) (by decide +kernel)), (ev_mem 82 (by decide +kernel) (by decide +kernel))⟩
theorem vv5_7_9 : zP5 7 9 9 := ⟨RJ4, TJ4, 4, by decide, rfl, (ev_mem 1176 (by decide +kernel) (by decide +kernel)), (ev_mem 205 (by decide +kernel) (by decide +kernel)), (ev_mem 90 (by decide +kernel) (by decide +kernel))⟩
theorem vv5_9_18 : zP5 9 18 8 := ⟨RJ0, TJ0, 4, by decide, rfl, (ev_mem 385 (by decide +kernel) (by decide +kernel)), (ev_mem 386 (by decide +kernel) (by decide +kernel)), (ev_mem 91 (by decide +kernel) (by decide +kernel))⟩
theorem vv5_11_10 : zP5 11 10 0 := ⟨RX8, TX8, 16, by decide, rfl, (ev_mem 1013 (by decide +kernel) (by decide +kernel)), (ev_mem 593 (by decide +kernel) (by decide +kernel)), (ev_mem 81 (by decide +kernel) (by decide +kernel))⟩
theorem vv5_11_153 : zP5 11 153 9 := ⟨RJ4, TJ4, 4, by decide, rfl, (ev_mem 1293 (by decide +kernel) (by decide +kernel)), (ev_mem 205 (by decide +kernel) (by decide +kernel)), (ev_mem 90 (by decide +kernel) (by decide +kernel))⟩
theorem vv5_15_45 : zP5 15 45 9 := ⟨RJ4, TJ4, 4, by decide, rfl, (ev_mem 426 (by decide +kernel) (by decide +kernel)), (ev_mem 205 (by decide +kernel) (by decide +kernel)), (ev_mem 90 (by decide +kernel) (by decide +kernel))⟩
theorem vv5_t : ∀ z ∈ nw_t, ∀ q ∈ z.2, zP5 z.1 q.1 q.2.1 := List.forall_mem_cons.mpr ⟨List.forall_mem_cons.mpr ⟨vv5_0_7, List.forall_mem_cons.mpr ⟨vv5_0_19, List.forall_mem_cons.mpr ⟨vv5_0_26, List.forall_mem_cons.mpr ⟨vv5_0_33, List.forall_mem_cons.mpr ⟨vv5_0_40, List.forall_mem_cons.mpr ⟨vv5_0_50, List.forall_mem_cons.mpr ⟨vv5_0_57, List.forall_mem_cons.mpr ⟨vv5_0_64, fun _ h => absurd h List.not_mem_nil⟩⟩⟩⟩⟩⟩⟩⟩, List.forall_mem_cons.mpr ⟨List.forall_mem_cons.mpr ⟨vv5_2_11, fun _ h => absurd h List.not_mem_nil⟩, List.forall_mem_cons.mpr ⟨List.forall_mem_cons.mpr ⟨vv5_7_9, fun _ h => absurd h List.not_mem_nil⟩, List.forall_mem_cons.mpr ⟨List.forall_mem_cons.mpr ⟨vv5_9_18, fun _ h => absurd h List.not_mem_nil⟩, List.forall_mem_cons.mpr ⟨List.forall_mem_cons.mpr ⟨vv5_11_10, List.forall_mem_cons.mpr ⟨vv5_11_153, fun _ h => absurd h List.not_mem_nil⟩⟩, List.forall_mem_cons.mpr ⟨List.forall_mem_cons.mpr ⟨vv5_15_45, fun _ h => absurd h List.not_mem_nil⟩, fun _ h => absurd h List.not_mem_nil⟩⟩⟩⟩⟩⟩
theorem vV5 (xs : List Int32) (v9 : Value) : ev_V5 (ev_G0 xs v9) (ev_B0 v9) := by
  intro k i ci h
  obtain ⟨l, q, h1, h2, h3⟩ := ev_lkN h
  have h4 := vv5_t (k, l) h1 (i, q) h2
  have h3 : q.1 = ci := h3
  rw [← h3]
  exact h4
theorem vv6_t : ∀ z ∈ sk_2, ∀ q ∈ z.2, Cond.classLink (ev_cn0 z.1) q.1 "MirrorJury$Court" ∈ ev_Tb0 := List.forall_mem_cons.mpr ⟨List.forall_mem_cons.mpr ⟨(ev_mem 1088 (by decide +kernel) (by decide +kernel)), fun _ h => absurd h List.not_mem_nil⟩, fun _ h => absurd h List.not_mem_nil⟩
theorem vV6 (xs : List Int32) (v9 : Value) : ev_V6 (ev_G0 xs v9) (ev_B0 v9) := by
  refine ⟨fun k i v h => ?_, (ev_mem 1082 (by decide +kernel) (by decide +kernel)), (ev_mem 1081 (by decide +kernel) (by decide +kernel)), (ev_mem 190 (by decide +kernel) (by decide +kernel)), TX2, 14, rfl⟩
  obtain ⟨l, q, h1, h2, h3⟩ := ev_lkS (t := sk_2) h
  exact vv6_t (k, l) h1 (i, q) h2
theorem vvk_t : ∀ z ∈ sk_3, ∀ q ∈ z.2, Cond.classLink (ev_cn0 z.1) q.1 "[B" ∈ ev_Tb0 := List.forall_mem_cons.mpr ⟨List.forall_mem_cons.mpr ⟨(ev_mem 275 (by decide +kernel) (by decide +kernel)), fun _ h => absurd h List.not_mem_nil⟩, fun _ h => absurd h List.not_mem_nil⟩
theorem vV13 (xs : List Int32) (v9 : Value) : ev_V13 (ev_G0 xs v9) (ev_B0 v9) := by
  intro k i v h
  obtain ⟨l, q, h1, h2, h3⟩ := ev_lkS (t := sk_3) h
  exact vvk_t (k, l) h1 (i, q) h2
def zP12 (k i : Nat) : Prop := Cond.methodLink (ev_cn0 k) i ⟨"[B", "clone", "()Ljava/lang/Object;"⟩ ∈ ev_Tb0 ∧ Cond.sameMethod "[B" "java/lang/Object" "clone" "()Ljava/lang/Object;" ∈ ev_Tb0 ∧ Cond.native ⟨"java/lang/Object", "clone", "()Ljava/lang/Object;"⟩ ∈ ev_Tb0 ∧ Cond.instanceMethod ⟨"java/lang/Object", "clone", "()Ljava/lang/Object;"⟩ ∈ ev_Tb0 ∧ Cond.selects "[B" ⟨"[B", "clone", "()Ljava/lang/Object;"⟩ ⟨"java/lang/Object", "clone", "()Ljava/lang/Object;"⟩ ∈ ev_Tb0 ∧ Cond.castable "[B" "java/lang/Cloneable" ∈ ev_NG0
theorem vvl_t : ∀ z ∈ sk_4, ∀ q ∈ z.2, zP12 z.1 q.1 := List.forall_mem_cons.mpr ⟨List.forall_mem_cons.mpr ⟨⟨(ev_mem 269 (by decide +kernel) (by decide +kernel)), (ev_mem 270 (by decide +kernel) (by decide +kernel)), (ev_mem 271 (by decide +kernel) (by decide +kernel)), (ev_mem 272 (by decide +kernel) (by decide +kernel)), (ev_mem 273 (by decide +kernel) (by decide +kernel)), (ev_memN 194 (by decide +kernel) (by decide +kernel))⟩, fun _ h => absurd h List.not_mem_nil⟩, fun _ h => absurd h List.not_mem_nil⟩
theorem vV12 (xs : List Int32) (v9 : Value) : ev_V12 (ev_G0 xs v9) (ev_B0 v9) := by
  intro k i v h
  obtain ⟨l, q, h1, h2, h3⟩ := ev_lkS (t := sk_4) h
  exact vvl_t (k, l) h1 (i, q) h2
theorem vV (xs : List Int32) {v9 : Value} (h9 : ev_ok 0 v9) : ev_V (ev_G0 xs v9) (ev_B0 v9) := ⟨vV0 xs v9, vV1 xs v9, vV2 xs h9, vV3 xs v9, vV4 xs v9, vV5 xs v9, vV6 xs v9, ⟨vV12 xs v9, vV13 xs v9⟩, TJ0, 4, rfl⟩
def zP10 (ct E v : Nat) : Prop := (v = 1 → ct ≠ 0 ∧ ∃ nm : String, Cond.classLink (ev_cn0 11) ct nm ∈ ev_Tb0 ∧ Cond.castable (ev_xn0 E) nm ∈ ev_NG0) ∧ (v = 0 → ct ≠ 0 ∧ ∃ nm : String, Cond.classLink (ev_cn0 11) ct nm ∈ ev_Tb0 ∧ (ev_xn0 E, nm) ∈ ev_NC0)
theorem vva_15_0 : zP10 15 0 1 := ⟨fun _ => ⟨by decide, "java/lang/IndexOutOfBoundsException", (ev_mem 563 (by decide +kernel) (by decide +kernel)), (ev_memN 39 (by decide +kernel) (by decide +kernel))⟩, fun h => absurd h (by decide)⟩
theorem vva_15_1 : zP10 15 1 0 := ⟨fun h => absurd h (by decide), fun _ => ⟨by decide, "java/lang/IndexOutOfBoundsException", (ev_mem 563 (by decide +kernel) (by decide +kernel)), List.mem_of_getElem? (i := 1) rfl⟩⟩
theorem vva_15_2 : zP10 15 2 0 := ⟨fun h => absurd h (by decide), fun _ => ⟨by decide, "java/lang/IndexOutOfBoundsException", (ev_mem 563 (by decide +kernel) (by decide +kernel)), List.mem_of_getElem? (i := 14) rfl⟩⟩
theorem vva_15_3 : zP10 15 3 0 := ⟨fun h => absurd h (by decide), fun _ => ⟨by decide, "java/lang/IndexOutOfBoundsException", (ev_mem 563 (by decide +kernel) (by decide +kernel)), List.mem_of_getElem? (i := 18) rfl⟩⟩
theorem vva_15_5 : zP10 15 5 0 := ⟨fun h => absurd h (by decide), fun _ => ⟨by decide, "java/lang/IndexOutOfBoundsException", (ev_mem 563 (by decide +kernel) (by decide +kernel)), List.mem_of_getElem? (i := 5) rfl⟩⟩
theorem vva_18_0 : zP10 18 0 0 := ⟨fun h => absurd h (by decide), fun _ => ⟨by decide, "java/lang/IllegalArgumentException", (ev_mem 566 (by decide +kernel) (by decide +kernel)), List.mem_of_getElem? (i := 8) rfl⟩⟩
theorem vva_18_1 : zP10 18 1 1 := ⟨fun _ => ⟨by decide, "java/lang/IllegalArgumentException", (ev_mem 566 (by decide +kernel) (by decide +kernel)), (ev_memN 339 (by decide +kernel) (by decide +kernel))⟩, fun h => absurd h (by decide)⟩
theorem vva_18_2 : zP10 18 2 0 := ⟨fun h => absurd h (by decide), fun _ => ⟨by decide, "java/lang/IllegalArgumentException", (ev_mem 566 (by decide +kernel) (by decide +kernel)), List.mem_of_getElem? (i := 12) rfl⟩⟩
theorem vva_18_3 : zP10 18 3 0 := ⟨fun h => absurd h (by decide), fun _ => ⟨by decide, "java/lang/IllegalArgumentException", (ev_mem 566 (by decide +kernel) (by decide +kernel)), List.mem_of_getElem? (i := 16) rfl⟩⟩
theorem vva_18_5 : zP10 18 5 0 := ⟨fun h => absurd h (by decide), fun _ => ⟨by decide, "java/lang/IllegalArgumentException", (ev_mem 566 (by decide +kernel) (by decide +kernel)), List.mem_of_getElem? (i := 4) rfl⟩⟩
theorem vva_21_0 : zP10 21 0 0 := ⟨fun h => absurd h (by decide), fun _ => ⟨by decide, "java/lang/UnsupportedOperationException", (ev_mem 567 (by decide +kernel) (by decide +kernel)), List.mem_of_getElem? (i := 10) rfl⟩⟩
theorem vva_21_1 : zP10 21 1 0 := ⟨fun h => absurd h (by decide), fun _ => ⟨by decide, "java/lang/UnsupportedOperationException", (ev_mem 567 (by decide +kernel) (by decide +kernel)), List.mem_of_getElem? (i := 2) rfl⟩⟩
theorem vva_21_2 : zP10 21 2 1 := ⟨fun _ => ⟨by decide, "java/lang/UnsupportedOperationException", (ev_mem 567 (by decide +kernel) (by decide +kernel)), (ev_memN 517 (by decide +kernel) (by decide +kernel))⟩, fun h => absurd h (by decide)⟩
theorem vva_21_3 : zP10 21 3 0 := ⟨fun h => absurd h (by decide), fun _ => ⟨by decide, "java/lang/UnsupportedOperationException", (ev_mem 567 (by decide +kernel) (by decide +kernel)), List.mem_of_getElem? (i := 19) rfl⟩⟩
theorem vva_21_5 : zP10 21 5 0 := ⟨fun h => absurd h (by decide), fun _ => ⟨by decide, "java/lang/UnsupportedOperationException", (ev_mem 567 (by decide +kernel) (by decide +kernel)), List.mem_of_getElem? (i := 6) rfl⟩⟩
theorem vva_32_0 : zP10 32 0 0 := ⟨fun h => absurd h (by decide), fun _ => ⟨by decide, "java/util/NoSuchElementException", (ev_mem 647 (by decide +kernel) (by decide +kernel)), List.mem_of_getElem? (i := 11) rfl⟩⟩
theorem vva_32_1 : zP10 32 1 0 := ⟨fun h => absurd h (by decide), fun _ => ⟨by decide, "java/util/NoSuchElementException", (ev_mem 647 (by decide +kernel) (by decide +kernel)), List.mem_of_getElem? (i := 3) rfl⟩⟩
theorem vva_32_2 : zP10 32 2 0 := ⟨fun h => absurd h (by decide), fun _ => ⟨by decide, "java/util/NoSuchElementException", (ev_mem 647 (by decide +kernel) (by decide +kernel)), List.mem_of_getElem? (i := 15) rfl⟩⟩
theorem vva_32_3 : zP10 32 3 1 := ⟨fun _ => ⟨by decide, "java/util/NoSuchElementException", (ev_mem 647 (by decide +kernel) (by decide +kernel)), (ev_memN 643 (by decide +kernel) (by decide +kernel))⟩, fun h => absurd h (by decide)⟩
theorem vva_32_5 : zP10 32 5 0 := ⟨fun h => absurd h (by decide), fun _ => ⟨by decide, "java/util/NoSuchElementException", (ev_mem 647 (by decide +kernel) (by decide +kernel)), List.mem_of_getElem? (i := 7) rfl⟩⟩
theorem vva_66_0 : zP10 66 0 0 := ⟨fun h => absurd h (by decide), fun _ => ⟨by decide, "java/lang/IllegalStateException", (ev_mem 829 (by decide +kernel) (by decide +kernel)), List.mem_of_getElem? (i := 9) rfl⟩⟩
theorem vva_66_1 : zP10 66 1 0 := ⟨fun h => absurd h (by decide), fun _ => ⟨by decide, "java/lang/IllegalStateException", (ev_mem 829 (by decide +kernel) (by decide +kernel)), List.mem_of_getElem? (i := 0) rfl⟩⟩
theorem vva_66_2 : zP10 66 2 0 := ⟨fun h => absurd h (by decide), fun _ => ⟨by decide, "java/lang/IllegalStateException", (ev_mem 829 (by decide +kernel) (by decide +kernel)), List.mem_of_getElem? (i := 13) rfl⟩⟩
theorem vva_66_3 : zP10 66 3 0 := ⟨fun h => absurd h (by decide), fun _ => ⟨by decide, "java/lang/IllegalStateException", (ev_mem 829 (by decide +kernel) (by decide +kernel)), List.mem_of_getElem? (i := 17) rfl⟩⟩
theorem vva_66_5 : zP10 66 5 1 := ⟨fun _ => ⟨by decide, "java/lang/IllegalStateException", (ev_mem 829 (by decide +kernel) (by decide +kernel)), (ev_memN 756 (by decide +kernel) (by decide +kernel))⟩, fun h => absurd h (by decide)⟩
theorem vva_t : ∀ q ∈ hc_t, zP10 q.1 q.2.1 q.2.2.1 := List.forall_mem_cons.mpr ⟨vva_15_0, List.forall_mem_cons.mpr ⟨vva_15_1, List.forall_mem_cons.mpr ⟨vva_15_2, List.forall_mem_cons.mpr ⟨vva_15_3, List.forall_mem_cons.mpr ⟨vva_15_5, List.forall_mem_cons.mpr ⟨vva_18_0, List.forall_mem_cons.mpr ⟨vva_18_1, List.forall_mem_cons.mpr ⟨vva_18_2, List.forall_mem_cons.mpr ⟨vva_18_3, List.forall_mem_cons.mpr ⟨vva_18_5, List.forall_mem_cons.mpr ⟨vva_21_0, List.forall_mem_cons.mpr ⟨vva_21_1, List.forall_mem_cons.mpr ⟨vva_21_2, List.forall_mem_cons.mpr ⟨vva_21_3, List.forall_mem_cons.mpr ⟨vva_21_5, List.forall_mem_cons.mpr ⟨vva_32_0, List.forall_mem_cons.mpr ⟨vva_32_1, List.forall_mem_cons.mpr ⟨vva_32_2, List.forall_mem_cons.mpr ⟨vva_32_3, List.forall_mem_cons.mpr ⟨vva_32_5, List.forall_mem_cons.mpr ⟨vva_66_0, List.forall_mem_cons.mpr ⟨vva_66_1, List.forall_mem_cons.mpr ⟨vva_66_2, List.forall_mem_cons.mpr ⟨vva_66_3, List.forall_mem_cons.mpr ⟨vva_66_5, fun _ h => absurd h List.not_mem_nil⟩⟩⟩⟩⟩⟩⟩⟩⟩⟩⟩⟩⟩⟩⟩⟩⟩⟩⟩⟩⟩⟩⟩⟩⟩
theorem vva_f {ct E v : Nat} (h : ev_hc0 ct E = some v) : zP10 ct E v := by
  unfold ev_hc0 at h
  obtain ⟨q, hq, e⟩ := Option.map_eq_some_iff.mp h
  have hm := List.mem_of_find?_eq_some hq
  have hp := List.find?_some hq
  rw [Bool.and_eq_true] at hp
  have h4 := vva_t q hm
  rw [Nat.eq_of_beq_eq_true hp.1, Nat.eq_of_beq_eq_true hp.2, e] at h4
  exact h4
theorem vV10 (xs : List Int32) (v9 : Value) : ev_V10 (ev_G0 xs v9) (ev_B0 v9) := fun ct E => ⟨fun h => (vva_f (v := 1) h).1 rfl, fun h => (vva_f (v := 0) h).2 rfl⟩
theorem zm_at {ws : List Cond} (is : List Nat) (h : is.map (fun i => tables_1[i]?) = ws.map some) (g : ws.all (fun w => goodWord w || (ev_ngk w && w.onTables)) = true) : ∀ w ∈ ws, w ∈ ev_Tb0 ∨ w ∈ ev_NG0 := by
  intro w hw
  have h1 : some w ∈ is.map (fun i => tables_1[i]?) := by rw [h]; exact List.mem_map_of_mem hw
  obtain ⟨i, _, hi⟩ := List.mem_map.mp h1
  have hg := List.all_eq_true.mp g w hw
  rw [Bool.or_eq_true] at hg
  rcases hg with hg | hg
  · exact Or.inl (List.mem_append_right _ (List.mem_filter.mpr ⟨List.mem_append_right _ (List.mem_of_getElem? hi), hg⟩))
  · exact Or.inr (ev_memN i hi hg)
def zP11 (i is ic E : Nat) : Prop := ∃ (names : List String) (tx : String) (a ix : Nat) (rx : ByteArray), Bundle.fit (ev_xn0 E) = true ∧ (∀ n ∈ names, Bundle.fit n = true) ∧ names.length ≤ 5 ∧ Cond.classLink (ev_cn0 0) i (ev_xn0 E) ∈ ev_Tb0 ∧ Cond.initialized (ev_xn0 E) ∈ ev_Tb0 ∧ (ev_cn0 0, is, tx, a) ∈ ev_SS0 ∧
  (∀ w ∈ vx_at9 (ev_cn0 0) ic (ev_xn0 E) ix rx names, w ∈ ev_Tb0 ∨ w ∈ ev_NG0) ∧ (∀ w ∈ Cond.classLink (ev_cn0 0) i (ev_xn0 E) :: Cond.initialized (ev_xn0 E) :: vx_at9 (ev_cn0 0) ic (ev_xn0 E) ix rx names, vx_ot w = true) ∧ decode rx 0 = .ok (.aload_n 0, 1) ∧ decode rx 1 = .ok (.aload_n 1, 1) ∧ decode rx 2 = .ok (.invokespecial ix, 3) ∧ decode rx 5 = .ok (.return_, 1)
theorem vvb_1 : (∀ w ∈ vx_at9 (ev_cn0 0) 104 (ev_xn0 1) 7 Bundle.six ["java/lang/RuntimeException", "java/lang/Exception"], w ∈ ev_Tb0 ∨ w ∈ ev_NG0) ∧ (∀ w ∈ Cond.classLink (ev_cn0 0) 100 (ev_xn0 1) :: Cond.initialized (ev_xn0 1) :: vx_at9 (ev_cn0 0) 104 (ev_xn0 1) 7 Bundle.six ["java/lang/RuntimeException", "java/lang/Exception"], vx_ot w = true) := ⟨zm_at [13, 59, 70, 78, 81, 83, 60, 61, 63, 64, 62, 69, 79, 99, 49, 100, 51, 101, 53, 65, 67, 55, 95, 96, 98, 55, 353, 354, 355, 89, 41, 89, 90, 91, 92, 43, 92, 93, 94, 95, 45, 504, 338, 339, 340, 73, 341, 342, 343, 344, 58, 57, 345] (by decide +kernel) (by decide +kernel), List.all_eq_true.mp (by decide +kernel)⟩
theorem vvd_1_0 : decode Bundle.six 0 = .ok (.aload_n 0, 1) := by decide +kernel
theorem vvd_1_1 : decode Bundle.six 1 = .ok (.aload_n 1, 1) := by decide +kernel
theorem vvd_1_2 : decode Bundle.six 2 = .ok (.invokespecial 7, 3) := by decide +kernel
theorem vvd_1_5 : decode Bundle.six 5 = .ok (.return_, 1) := by decide +kernel
theorem vvb_2 : (∀ w ∈ vx_at9 (ev_cn0 0) 122 (ev_xn0 2) 7 Bundle.six ["java/lang/RuntimeException", "java/lang/Exception"], w ∈ ev_Tb0 ∨ w ∈ ev_NG0) ∧ (∀ w ∈ Cond.classLink (ev_cn0 0) 118 (ev_xn0 2) :: Cond.initialized (ev_xn0 2) :: vx_at9 (ev_cn0 0) 122 (ev_xn0 2) 7 Bundle.six ["java/lang/RuntimeException", "java/lang/Exception"], vx_ot w = true) := ⟨zm_at [13, 59, 70, 78, 81, 83, 60, 61, 63, 64, 62, 69, 79, 99, 49, 100, 51, 101, 53, 65, 67, 55, 95, 96, 98, 55, 526, 527, 528, 89, 41, 89, 90, 91, 92, 43, 92, 93, 94, 95, 45, 525, 516, 517, 518, 76, 519, 520, 521, 522, 58, 57, 523] (by decide +kernel) (by decide +kernel), List.all_eq_true.mp (by decide +kernel)⟩
theorem vvd_2_0 : decode Bundle.six 0 = .ok (.aload_n 0, 1) := by decide +kernel
theorem vvd_2_1 : decode Bundle.six 1 = .ok (.aload_n 1, 1) := by decide +kernel
theorem vvd_2_2 : decode Bundle.six 2 = .ok (.invokespecial 7, 3) := by decide +kernel
theorem vvd_2_5 : decode Bundle.six 5 = .ok (.return_, 1) := by decide +kernel
theorem vvb_3 : (∀ w ∈ vx_at9 (ev_cn0 0) 167 (ev_xn0 3) 13 prog_39_method_4_code ["java/lang/RuntimeException", "java/lang/Exception"], w ∈ ev_Tb0 ∨ w ∈ ev_NG0) ∧ (∀ w ∈ Cond.classLink (ev_cn0 0) 163 (ev_xn0 3) :: Cond.initialized (ev_xn0 3) :: vx_at9 (ev_cn0 0) 167 (ev_xn0 3) 13 prog_39_method_4_code ["java/lang/RuntimeException", "java/lang/Exception"], vx_ot w = true) := ⟨zm_at [13, 59, 70, 78, 81, 83, 60, 61, 63, 64, 62, 69, 79, 99, 49, 100, 51, 101, 53, 65, 67, 55, 95, 96, 98, 55, 652, 653, 654, 89, 41, 89, 90, 91, 92, 43, 92, 93, 94, 95, 45, 651, 642, 643, 644, 77, 645, 646, 647, 648, 58, 57, 649] (by decide +kernel) (by decide +kernel), List.all_eq_true.mp (by decide +kernel)⟩
theorem vvd_3_0 : decode prog_39_method_4_code 0 = .ok (.aload_n 0, 1) := by decide +kernel
theorem vvd_3_1 : decode prog_39_method_4_code 1 = .ok (.aload_n 1, 1) := by decide +kernel
theorem vvd_3_2 : decode prog_39_method_4_code 2 = .ok (.invokespecial 13, 3) := by decide +kernel
theorem vvd_3_5 : decode prog_39_method_4_code 5 = .ok (.return_, 1) := by decide +kernel
theorem vvb_0 : (∀ w ∈ vx_at9 (ev_cn0 0) 362 (ev_xn0 0) 7 Bundle.six ["java/lang/RuntimeException", "java/lang/Exception"], w ∈ ev_Tb0 ∨ w ∈ ev_NG0) ∧ (∀ w ∈ Cond.classLink (ev_cn0 0) 358 (ev_xn0 0) :: Cond.initialized (ev_xn0 0) :: vx_at9 (ev_cn0 0) 362 (ev_xn0 0) 7 Bundle.six ["java/lang/RuntimeException", "java/lang/Exception"], vx_ot w = true) := ⟨zm_at [13, 59, 70, 78, 81, 83, 60, 61, 63, 64, 62, 69, 79, 99, 49, 100, 51, 101, 53, 65, 67, 55, 95, 96, 98, 55, 86, 87, 88, 89, 41, 89, 90, 91, 92, 43, 92, 93, 94, 95, 45, 85, 38, 39, 46, 47, 48, 50, 52, 54, 58, 57, 56] (by decide +kernel) (by decide +kernel), List.all_eq_true.mp (by decide +kernel)⟩
theorem vvd_0_0 : decode Bundle.six 0 = .ok (.aload_n 0, 1) := by decide +kernel
theorem vvd_0_1 : decode Bundle.six 1 = .ok (.aload_n 1, 1) := by decide +kernel
theorem vvd_0_2 : decode Bundle.six 2 = .ok (.invokespecial 7, 3) := by decide +kernel
theorem vvd_0_5 : decode Bundle.six 5 = .ok (.return_, 1) := by decide +kernel
theorem vvb_5 : (∀ w ∈ vx_at9 (ev_cn0 0) 392 (ev_xn0 5) 7 Bundle.six ["java/lang/RuntimeException", "java/lang/Exception"], w ∈ ev_Tb0 ∨ w ∈ ev_NG0) ∧ (∀ w ∈ Cond.classLink (ev_cn0 0) 388 (ev_xn0 5) :: Cond.initialized (ev_xn0 5) :: vx_at9 (ev_cn0 0) 392 (ev_xn0 5) 7 Bundle.six ["java/lang/RuntimeException", "java/lang/Exception"], vx_ot w = true) := ⟨zm_at [13, 59, 70, 78, 81, 83, 60, 61, 63, 64, 62, 69, 79, 99, 49, 100, 51, 101, 53, 65, 67, 55, 95, 96, 98, 55, 765, 766, 767, 89, 41, 89, 90, 91, 92, 43, 92, 93, 94, 95, 45, 764, 755, 756, 757, 74, 758, 759, 760, 761, 58, 57, 762] (by decide +kernel) (by decide +kernel), List.all_eq_true.mp (by decide +kernel)⟩
theorem vvd_5_0 : decode Bundle.six 0 = .ok (.aload_n 0, 1) := by decide +kernel
theorem vvd_5_1 : decode Bundle.six 1 = .ok (.aload_n 1, 1) := by decide +kernel
theorem vvd_5_2 : decode Bundle.six 2 = .ok (.invokespecial 7, 3) := by decide +kernel
theorem vvd_5_5 : decode Bundle.six 5 = .ok (.return_, 1) := by decide +kernel
theorem vvc_100_102 : zP11 100 102 104 1 := ⟨["java/lang/RuntimeException", "java/lang/Exception"], _, _, 7, Bundle.six, by decide +kernel, by decide +kernel, by decide, (ev_mem 582 (by decide +kernel) (by decide +kernel)), (ev_mem 98 (by decide +kernel) (by decide +kernel)), List.mem_of_getElem? (i := 26) rfl, vvb_1.1, vvb_1.2, vvd_1_0, vvd_1_1, vvd_1_2, vvd_1_5⟩
theorem vvc_100_138 : zP11 100 138 104 1 := ⟨["java/lang/RuntimeException", "java/lang/Exception"], _, _, 7, Bundle.six, by decide +kernel, by decide +kernel, by decide, (ev_mem 582 (by decide +kernel) (by decide +kernel)), (ev_mem 98 (by decide +kernel) (by decide +kernel)), List.mem_of_getElem? (i := 14) rfl, vvb_1.1, vvb_1.2, vvd_1_0, vvd_1_1, vvd_1_2, vvd_1_5⟩
theorem vvc_100_175 : zP11 100 175 104 1 := ⟨["java/lang/RuntimeException", "java/lang/Exception"], _, _, 7, Bundle.six, by decide +kernel, by decide +kernel, by decide, (ev_mem 582 (by decide +kernel) (by decide +kernel)), (ev_mem 98 (by decide +kernel) (by decide +kernel)), List.mem_of_getElem? (i := 48) rfl, vvb_1.1, vvb_1.2, vvd_1_0, vvd_1_1, vvd_1_2, vvd_1_5⟩
theorem vvc_100_301 : zP11 100 301 104 1 := ⟨["java/lang/RuntimeException", "java/lang/Exception"], _, _, 7, Bundle.six, by decide +kernel, by decide +kernel, by decide, (ev_mem 582 (by decide +kernel) (by decide +kernel)), (ev_mem 98 (by decide +kernel) (by decide +kernel)), List.mem_of_getElem? (i := 29) rfl, vvb_1.1, vvb_1.2, vvd_1_0, vvd_1_1, vvd_1_2, vvd_1_5⟩
theorem vvc_100_383 : zP11 100 383 104 1 := ⟨["java/lang/RuntimeException", "java/lang/Exception"], _, _, 7, Bundle.six, by decide +kernel, by decide +kernel, by decide, (ev_mem 582 (by decide +kernel) (by decide +kernel)), (ev_mem 98 (by decide +kernel) (by decide +kernel)), List.mem_of_getElem? (i := 43) rfl, vvb_1.1, vvb_1.2, vvd_1_0, vvd_1_1, vvd_1_2, vvd_1_5⟩
theorem vvc_100_399 : zP11 100 399 104 1 := ⟨["java/lang/RuntimeException", "java/lang/Exception"], _, _, 7, Bundle.six, by decide +kernel, by decide +kernel, by decide, (ev_mem 582 (by decide +kernel) (by decide +kernel)), (ev_mem 98 (by decide +kernel) (by decide +kernel)), List.mem_of_getElem? (i := 45) rfl, vvb_1.1, vvb_1.2, vvd_1_0, vvd_1_1, vvd_1_2, vvd_1_5⟩
theorem vvc_100_449 : zP11 100 449 104 1 := ⟨["java/lang/RuntimeException", "java/lang/Exception"], _, _, 7, Bundle.six, by decide +kernel, by decide +kernel, by decide, (ev_mem 582 (by decide +kernel) (by decide +kernel)), (ev_mem 98 (by decide +kernel) (by decide +kernel)), List.mem_of_getElem? (i := 16) rfl, vvb_1.1, vvb_1.2, vvd_1_0, vvd_1_1, vvd_1_2, vvd_1_5⟩
theorem vvc_100_451 : zP11 100 451 104 1 := ⟨["java/lang/RuntimeException", "java/lang/Exception"], _, _, 7, Bundle.six, by decide +kernel, by decide +kernel, by decide, (ev_mem 582 (by decide +kernel) (by decide +kernel)), (ev_mem 98 (by decide +kernel) (by decide +kernel)), List.mem_of_getElem? (i := 20) rfl, vvb_1.1, vvb_1.2, vvd_1_0, vvd_1_1, vvd_1_2, vvd_1_5⟩
theorem vvc_100_453 : zP11 100 453 104 1 := ⟨["java/lang/RuntimeException", "java/lang/Exception"], _, _, 7, Bundle.six, by decide +kernel, by decide +kernel, by decide, (ev_mem 582 (by decide +kernel) (by decide +kernel)), (ev_mem 98 (by decide +kernel) (by decide +kernel)), List.mem_of_getElem? (i := 52) rfl, vvb_1.1, vvb_1.2, vvd_1_0, vvd_1_1, vvd_1_2, vvd_1_5⟩
theorem vvc_118_120 : zP11 118 120 122 2 := ⟨["java/lang/RuntimeException", "java/lang/Exception"], _, _, 7, Bundle.six, by decide +kernel, by decide +kernel, by decide, (ev_mem 595 (by decide +kernel) (by decide +kernel)), (ev_mem 99 (by decide +kernel) (by decide +kernel)), List.mem_of_getElem? (i := 27) rfl, vvb_2.1, vvb_2.2, vvd_2_0, vvd_2_1, vvd_2_2, vvd_2_5⟩
theorem vvc_118_143 : zP11 118 143 122 2 := ⟨["java/lang/RuntimeException", "java/lang/Exception"], _, _, 7, Bundle.six, by decide +kernel, by decide +kernel, by decide, (ev_mem 595 (by decide +kernel) (by decide +kernel)), (ev_mem 99 (by decide +kernel) (by decide +kernel)), List.mem_of_getElem? (i := 15) rfl, vvb_2.1, vvb_2.2, vvd_2_0, vvd_2_1, vvd_2_2, vvd_2_5⟩
theorem vvc_118_220 : zP11 118 220 122 2 := ⟨["java/lang/RuntimeException", "java/lang/Exception"], _, _, 7, Bundle.six, by decide +kernel, by decide +kernel, by decide, (ev_mem 595 (by decide +kernel) (by decide +kernel)), (ev_mem 99 (by decide +kernel) (by decide +kernel)), List.mem_of_getElem? (i := 21) rfl, vvb_2.1, vvb_2.2, vvd_2_0, vvd_2_1, vvd_2_2, vvd_2_5⟩
theorem vvc_118_307 : zP11 118 307 122 2 := ⟨["java/lang/RuntimeException", "java/lang/Exception"], _, _, 7, Bundle.six, by decide +kernel, by decide +kernel, by decide, (ev_mem 595 (by decide +kernel) (by decide +kernel)), (ev_mem 99 (by decide +kernel) (by decide +kernel)), List.mem_of_getElem? (i := 25) rfl, vvb_2.1, vvb_2.2, vvd_2_0, vvd_2_1, vvd_2_2, vvd_2_5⟩
theorem vvc_118_322 : zP11 118 322 122 2 := ⟨["java/lang/RuntimeException", "java/lang/Exception"], _, _, 7, Bundle.six, by decide +kernel, by decide +kernel, by decide, (ev_mem 595 (by decide +kernel) (by decide +kernel)), (ev_mem 99 (by decide +kernel) (by decide +kernel)), List.mem_of_getElem? (i := 22) rfl, vvb_2.1, vvb_2.2, vvd_2_0, vvd_2_1, vvd_2_2, vvd_2_5⟩
theorem vvc_118_415 : zP11 118 415 122 2 := ⟨["java/lang/RuntimeException", "java/lang/Exception"], _, _, 7, Bundle.six, by decide +kernel, by decide +kernel, by decide, (ev_mem 595 (by decide +kernel) (by decide +kernel)), (ev_mem 99 (by decide +kernel) (by decide +kernel)), List.mem_of_getElem? (i := 47) rfl, vvb_2.1, vvb_2.2, vvd_2_0, vvd_2_1, vvd_2_2, vvd_2_5⟩
theorem vvc_163_165 : zP11 163 165 167 3 := ⟨["java/lang/RuntimeException", "java/lang/Exception"], _, _, 13, prog_39_method_4_code, by decide +kernel, by decide +kernel, by decide, (ev_mem 721 (by decide +kernel) (by decide +kernel)), (ev_mem 104 (by decide +kernel) (by decide +kernel)), List.mem_of_getElem? (i := 50) rfl, vvb_3.1, vvb_3.2, vvd_3_0, vvd_3_1, vvd_3_2, vvd_3_5⟩
theorem vvc_163_209 : zP11 163 209 167 3 := ⟨["java/lang/RuntimeException", "java/lang/Exception"], _, _, 13, prog_39_method_4_code, by decide +kernel, by decide +kernel, by decide, (ev_mem 721 (by decide +kernel) (by decide +kernel)), (ev_mem 104 (by decide +kernel) (by decide +kernel)), List.mem_of_getElem? (i := 51) rfl, vvb_3.1, vvb_3.2, vvd_3_0, vvd_3_1, vvd_3_2, vvd_3_5⟩
theorem vvc_163_220 : zP11 163 220 167 3 := ⟨["java/lang/RuntimeException", "java/lang/Exception"], _, _, 13, prog_39_method_4_code, by decide +kernel, by decide +kernel, by decide, (ev_mem 721 (by decide +kernel) (by decide +kernel)), (ev_mem 104 (by decide +kernel) (by decide +kernel)), List.mem_of_getElem? (i := 21) rfl, vvb_3.1, vvb_3.2, vvd_3_0, vvd_3_1, vvd_3_2, vvd_3_5⟩
theorem vvc_163_234 : zP11 163 234 167 3 := ⟨["java/lang/RuntimeException", "java/lang/Exception"], _, _, 13, prog_39_method_4_code, by decide +kernel, by decide +kernel, by decide, (ev_mem 721 (by decide +kernel) (by decide +kernel)), (ev_mem 104 (by decide +kernel) (by decide +kernel)), List.mem_of_getElem? (i := 18) rfl, vvb_3.1, vvb_3.2, vvd_3_0, vvd_3_1, vvd_3_2, vvd_3_5⟩
theorem vvc_163_239 : zP11 163 239 167 3 := ⟨["java/lang/RuntimeException", "java/lang/Exception"], _, _, 13, prog_39_method_4_code, by decide +kernel, by decide +kernel, by decide, (ev_mem 721 (by decide +kernel) (by decide +kernel)), (ev_mem 104 (by decide +kernel) (by decide +kernel)), List.mem_of_getElem? (i := 19) rfl, vvb_3.1, vvb_3.2, vvd_3_0, vvd_3_1, vvd_3_2, vvd_3_5⟩
theorem vvc_163_307 : zP11 163 307 167 3 := ⟨["java/lang/RuntimeException", "java/lang/Exception"], _, _, 13, prog_39_method_4_code, by decide +kernel, by decide +kernel, by decide, (ev_mem 721 (by decide +kernel) (by decide +kernel)), (ev_mem 104 (by decide +kernel) (by decide +kernel)), List.mem_of_getElem? (i := 25) rfl, vvb_3.1, vvb_3.2, vvd_3_0, vvd_3_1, vvd_3_2, vvd_3_5⟩
theorem vvc_163_327 : zP11 163 327 167 3 := ⟨["java/lang/RuntimeException", "java/lang/Exception"], _, _, 13, prog_39_method_4_code, by decide +kernel, by decide +kernel, by decide, (ev_mem 721 (by decide +kernel) (by decide +kernel)), (ev_mem 104 (by decide +kernel) (by decide +kernel)), List.mem_of_getElem? (i := 49) rfl, vvb_3.1, vvb_3.2, vvd_3_0, vvd_3_1, vvd_3_2, vvd_3_5⟩
theorem vvc_358_360 : zP11 358 360 362 0 := ⟨["java/lang/RuntimeException", "java/lang/Exception"], _, _, 7, Bundle.six, by decide +kernel, by decide +kernel, by decide, (ev_mem 117 (by decide +kernel) (by decide +kernel)), (ev_mem 96 (by decide +kernel) (by decide +kernel)), List.mem_of_getElem? (i := 12) rfl, vvb_0.1, vvb_0.2, vvd_0_0, vvd_0_1, vvd_0_2, vvd_0_5⟩
theorem vvc_358_444 : zP11 358 444 362 0 := ⟨["java/lang/RuntimeException", "java/lang/Exception"], _, _, 7, Bundle.six, by decide +kernel, by decide +kernel, by decide, (ev_mem 117 (by decide +kernel) (by decide +kernel)), (ev_mem 96 (by decide +kernel) (by decide +kernel)), List.mem_of_getElem? (i := 13) rfl, vvb_0.1, vvb_0.2, vvd_0_0, vvd_0_1, vvd_0_2, vvd_0_5⟩
theorem vvc_358_455 : zP11 358 455 362 0 := ⟨["java/lang/RuntimeException", "java/lang/Exception"], _, _, 7, Bundle.six, by decide +kernel, by decide +kernel, by decide, (ev_mem 117 (by decide +kernel) (by decide +kernel)), (ev_mem 96 (by decide +kernel) (by decide +kernel)), List.mem_of_getElem? (i := 17) rfl, vvb_0.1, vvb_0.2, vvd_0_0, vvd_0_1, vvd_0_2, vvd_0_5⟩
theorem vvc_388_390 : zP11 388 390 392 5 := ⟨["java/lang/RuntimeException", "java/lang/Exception"], _, _, 7, Bundle.six, by decide +kernel, by decide +kernel, by decide, (ev_mem 834 (by decide +kernel) (by decide +kernel)), (ev_mem 110 (by decide +kernel) (by decide +kernel)), List.mem_of_getElem? (i := 44) rfl, vvb_5.1, vvb_5.2, vvd_5_0, vvd_5_1, vvd_5_2, vvd_5_5⟩
theorem vvc_388_413 : zP11 388 413 392 5 := ⟨["java/lang/RuntimeException", "java/lang/Exception"], _, _, 7, Bundle.six, by decide +kernel, by decide +kernel, by decide, (ev_mem 834 (by decide +kernel) (by decide +kernel)), (ev_mem 110 (by decide +kernel) (by decide +kernel)), List.mem_of_getElem? (i := 46) rfl, vvb_5.1, vvb_5.2, vvd_5_0, vvd_5_1, vvd_5_2, vvd_5_5⟩
theorem vvc_388_427 : zP11 388 427 392 5 := ⟨["java/lang/RuntimeException", "java/lang/Exception"], _, _, 7, Bundle.six, by decide +kernel, by decide +kernel, by decide, (ev_mem 834 (by decide +kernel) (by decide +kernel)), (ev_mem 110 (by decide +kernel) (by decide +kernel)), List.mem_of_getElem? (i := 23) rfl, vvb_5.1, vvb_5.2, vvd_5_0, vvd_5_1, vvd_5_2, vvd_5_5⟩
theorem vvc_388_435 : zP11 388 435 392 5 := ⟨["java/lang/RuntimeException", "java/lang/Exception"], _, _, 7, Bundle.six, by decide +kernel, by decide +kernel, by decide, (ev_mem 834 (by decide +kernel) (by decide +kernel)), (ev_mem 110 (by decide +kernel) (by decide +kernel)), List.mem_of_getElem? (i := 24) rfl, vvb_5.1, vvb_5.2, vvd_5_0, vvd_5_1, vvd_5_2, vvd_5_5⟩
theorem vvc_t : ∀ q ∈ ex_t, zP11 q.1 q.2.1 q.2.2.1 q.2.2.2 := List.forall_mem_cons.mpr ⟨vvc_100_102, List.forall_mem_cons.mpr ⟨vvc_100_138, List.forall_mem_cons.mpr ⟨vvc_100_175, List.forall_mem_cons.mpr ⟨vvc_100_301, List.forall_mem_cons.mpr ⟨vvc_100_383, List.forall_mem_cons.mpr ⟨vvc_100_399, List.forall_mem_cons.mpr ⟨vvc_100_449, List.forall_mem_cons.mpr ⟨vvc_100_451, List.forall_mem_cons.mpr ⟨vvc_100_453, List.forall_mem_cons.mpr ⟨vvc_118_120, List.forall_mem_cons.mpr ⟨vvc_118_143, List.forall_mem_cons.mpr ⟨vvc_118_220, List.forall_mem_cons.mpr ⟨vvc_118_307, List.forall_mem_cons.mpr ⟨vvc_118_322, List.forall_mem_cons.mpr ⟨vvc_118_415, List.forall_mem_cons.mpr ⟨vvc_163_165, List.forall_mem_cons.mpr ⟨vvc_163_209, List.forall_mem_cons.mpr ⟨vvc_163_220, List.forall_mem_cons.mpr ⟨vvc_163_234, List.forall_mem_cons.mpr ⟨vvc_163_239, List.forall_mem_cons.mpr ⟨vvc_163_307, List.forall_mem_cons.mpr ⟨vvc_163_327, List.forall_mem_cons.mpr ⟨vvc_358_360, List.forall_mem_cons.mpr ⟨vvc_358_444, List.forall_mem_cons.mpr ⟨vvc_358_455, List.forall_mem_cons.mpr ⟨vvc_388_390, List.forall_mem_cons.mpr ⟨vvc_388_413, List.forall_mem_cons.mpr ⟨vvc_388_427, List.forall_mem_cons.mpr ⟨vvc_388_435, fun _ h => absurd h List.not_mem_nil⟩⟩⟩⟩⟩⟩⟩⟩⟩⟩⟩⟩⟩⟩⟩⟩⟩⟩⟩⟩⟩⟩⟩⟩⟩⟩⟩⟩⟩
