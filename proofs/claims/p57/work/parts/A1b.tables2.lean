/-! the tables of the small machine are true: fields; laid by wip/whole/gen/gena3.py -/
def zP3 (k i ci sl : Nat) : Prop := (ci < 50 ∧ ∃ (C : String) (F : u_T) (N : Nat), ev_cl0[ci]? = some (C, F, N) ∧ sl < N ∧ (Cond.fieldLink (ev_cn0 k) i (F sl).1 (F sl).2.1 (F sl).2.2.1 ∈ ev_Tb0 ∨ (ci ≠ k ∧ ∃ host, Cond.fieldLinkNest (ev_cn0 k) i (F sl).1 (F sl).2.1 (F sl).2.2.1 host ∈ ev_NG0))) ∧
  (ci = 8 → sl < 2 → Cond.fieldLink (ev_cn0 k) i "java/lang/String" (ev_sfn sl).1 (ev_sfn sl).2 ∈ ev_Tb0)
theorem vv3_0_10 : zP3 0 10 0 0 := ⟨⟨by decide, RX8, TX8, 16, rfl, by decide, Or.inl (ev_mem 1209 (by decide +kernel) (by decide +kernel))⟩, fun h => absurd h (by decide)⟩
theorem vv3_0_16 : zP3 0 16 0 1 := ⟨⟨by decide, RX8, TX8, 16, rfl, by decide, Or.inl (ev_mem 1210 (by decide +kernel) (by decide +kernel))⟩, fun h => absurd h (by decide)⟩
theorem vv3_0_22 : zP3 0 22 0 2 := ⟨⟨by decide, RX8, TX8, 16, rfl, by decide, Or.inl (ev_mem 1211 (by decide +kernel) (by decide +kernel))⟩, fun h => absurd h (by decide)⟩
theorem vv3_0_29 : zP3 0 29 0 3 := ⟨⟨by decide, RX8, TX8, 16, rfl, by decide, Or.inl (ev_mem 1212 (by decide +kernel) (by decide +kernel))⟩, fun h => absurd h (by decide)⟩
theorem vv3_0_36 : zP3 0 36 0 4 := ⟨⟨by decide, RX8, TX8, 16, rfl, by decide, Or.inl (ev_mem 1213 (by decide +kernel) (by decide +kernel))⟩, fun h => absurd h (by decide)⟩
theorem vv3_0_43 : zP3 0 43 0 5 := ⟨⟨by decide, RX8, TX8, 16, rfl, by decide, Or.inl (ev_mem 1214 (by decide +kernel) (by decide +kernel))⟩, fun h => absurd h (by decide)⟩
theorem vv3_0_47 : zP3 0 47 0 6 := ⟨⟨by decide, RX8, TX8, 16, rfl, by decide, Or.inl (ev_mem 1215 (by decide +kernel) (by decide +kernel))⟩, fun h => absurd h (by decide)⟩
theorem vv3_0_53 : zP3 0 53 0 7 := ⟨⟨by decide, RX8, TX8, 16, rfl, by decide, Or.inl (ev_mem 1216 (by decide +kernel) (by decide +kernel))⟩, fun h => absurd h (by decide)⟩
theorem vv3_0_60 : zP3 0 60 0 8 := ⟨⟨by decide, RX8, TX8, 16, rfl, by decide, Or.inl (ev_mem 1217 (by decide +kernel) (by decide +kernel))⟩, fun h => absurd h (by decide)⟩
theorem vv3_0_67 : zP3 0 67 0 9 := ⟨⟨by decide, RX8, TX8, 16, rfl, by decide, Or.inl (ev_mem 1218 (by decide +kernel) (by decide +kernel))⟩, fun h => absurd h (by decide)⟩
theorem vv3_0_71 : zP3 0 71 0 10 := ⟨⟨by decide, RX8, TX8, 16, rfl, by decide, Or.inl (ev_mem 1219 (by decide +kernel) (by decide +kernel))⟩, fun h => absurd h (by decide)⟩
theorem vv3_0_75 : zP3 0 75 0 11 := ⟨⟨by decide, RX8, TX8, 16, rfl, by decide, Or.inl (ev_mem 1220 (by decide +kernel) (by decide +kernel))⟩, fun h => absurd h (by decide)⟩
theorem vv3_0_79 : zP3 0 79 0 12 := ⟨⟨by decide, RX8, TX8, 16, rfl, by decide, Or.inl (ev_mem 1221 (by decide +kernel) (by decide +kernel))⟩, fun h => absurd h (by decide)⟩
theorem vv3_0_83 : zP3 0 83 0 13 := ⟨⟨by decide, RX8, TX8, 16, rfl, by decide, Or.inl (ev_mem 1222 (by decide +kernel) (by decide +kernel))⟩, fun h => absurd h (by decide)⟩
theorem vv3_0_86 : zP3 0 86 0 14 := ⟨⟨by decide, RX8, TX8, 16, rfl, by decide, Or.inl (ev_mem 1223 (by decide +kernel) (by decide +kernel))⟩, fun h => absurd h (by decide)⟩
theorem vv3_0_89 : zP3 0 89 0 15 := ⟨⟨by decide, RX8, TX8, 16, rfl, by decide, Or.inl (ev_mem 1224 (by decide +kernel) (by decide +kernel))⟩, fun h => absurd h (by decide)⟩
theorem vv3_0_131 : zP3 0 131 1 6 := ⟨⟨by decide, RX2, TX2, 14, rfl, by decide, Or.inr ⟨by decide, "MirrorJury", (ev_memN 958 (by decide +kernel) (by decide +kernel))⟩⟩, fun h => absurd h (by decide)⟩
theorem vv3_0_156 : zP3 0 156 1 1 := ⟨⟨by decide, RX2, TX2, 14, rfl, by decide, Or.inr ⟨by decide, "MirrorJury", (ev_memN 949 (by decide +kernel) (by decide +kernel))⟩⟩, fun h => absurd h (by decide)⟩
theorem vv3_0_168 : zP3 0 168 1 0 := ⟨⟨by decide, RX2, TX2, 14, rfl, by decide, Or.inr ⟨by decide, "MirrorJury", (ev_memN 947 (by decide +kernel) (by decide +kernel))⟩⟩, fun h => absurd h (by decide)⟩
theorem vv3_0_196 : zP3 0 196 1 4 := ⟨⟨by decide, RX2, TX2, 14, rfl, by decide, Or.inr ⟨by decide, "MirrorJury", (ev_memN 954 (by decide +kernel) (by decide +kernel))⟩⟩, fun h => absurd h (by decide)⟩
theorem vv3_0_206 : zP3 0 206 3 0 := ⟨⟨by decide, RX5, TX5, 4, rfl, by decide, Or.inr ⟨by decide, "MirrorJury", (ev_memN 1028 (by decide +kernel) (by decide +kernel))⟩⟩, fun h => absurd h (by decide)⟩
theorem vv3_0_217 : zP3 0 217 3 1 := ⟨⟨by decide, RX5, TX5, 4, rfl, by decide, Or.inr ⟨by decide, "MirrorJury", (ev_memN 1030 (by decide +kernel) (by decide +kernel))⟩⟩, fun h => absurd h (by decide)⟩
theorem vv3_0_222 : zP3 0 222 3 2 := ⟨⟨by decide, RX5, TX5, 4, rfl, by decide, Or.inr ⟨by decide, "MirrorJury", (ev_memN 1032 (by decide +kernel) (by decide +kernel))⟩⟩, fun h => absurd h (by decide)⟩
theorem vv3_0_225 : zP3 0 225 3 3 := ⟨⟨by decide, RX5, TX5, 4, rfl, by decide, Or.inr ⟨by decide, "MirrorJury", (ev_memN 1034 (by decide +kernel) (by decide +kernel))⟩⟩, fun h => absurd h (by decide)⟩
theorem vv3_0_303 : zP3 0 303 1 7 := ⟨⟨by decide, RX2, TX2, 14, rfl, by decide, Or.inr ⟨by decide, "MirrorJury", (ev_memN 961 (by decide +kernel) (by decide +kernel))⟩⟩, fun h => absurd h (by decide)⟩
theorem vv3_0_312 : zP3 0 312 1 5 := ⟨⟨by decide, RX2, TX2, 14, rfl, by decide, Or.inr ⟨by decide, "MirrorJury", (ev_memN 956 (by decide +kernel) (by decide +kernel))⟩⟩, fun h => absurd h (by decide)⟩
theorem vv3_0_319 : zP3 0 319 1 8 := ⟨⟨by decide, RX2, TX2, 14, rfl, by decide, Or.inr ⟨by decide, "MirrorJury", (ev_memN 963 (by decide +kernel) (by decide +kernel))⟩⟩, fun h => absurd h (by decide)⟩
theorem vv3_0_329 : zP3 0 329 1 9 := ⟨⟨by decide, RX2, TX2, 14, rfl, by decide, Or.inr ⟨by decide, "MirrorJury", (ev_memN 965 (by decide +kernel) (by decide +kernel))⟩⟩, fun h => absurd h (by decide)⟩
theorem vv3_0_332 : zP3 0 332 1 10 := ⟨⟨by decide, RX2, TX2, 14, rfl, by decide, Or.inr ⟨by decide, "MirrorJury", (ev_memN 967 (by decide +kernel) (by decide +kernel))⟩⟩, fun h => absurd h (by decide)⟩
theorem vv3_0_335 : zP3 0 335 1 11 := ⟨⟨by decide, RX2, TX2, 14, rfl, by decide, Or.inr ⟨by decide, "MirrorJury", (ev_memN 969 (by decide +kernel) (by decide +kernel))⟩⟩, fun h => absurd h (by decide)⟩
theorem vv3_0_385 : zP3 0 385 7 0 := ⟨⟨by decide, RX6, TX6, 7, rfl, by decide, Or.inr ⟨by decide, "MirrorJury", (ev_memN 1099 (by decide +kernel) (by decide +kernel))⟩⟩, fun h => absurd h (by decide)⟩
theorem vv3_0_396 : zP3 0 396 7 1 := ⟨⟨by decide, RX6, TX6, 7, rfl, by decide, Or.inr ⟨by decide, "MirrorJury", (ev_memN 1101 (by decide +kernel) (by decide +kernel))⟩⟩, fun h => absurd h (by decide)⟩
theorem vv3_0_424 : zP3 0 424 2 2 := ⟨⟨by decide, RX3, TX3, 3, rfl, by decide, Or.inr ⟨by decide, "MirrorJury", (ev_memN 1014 (by decide +kernel) (by decide +kernel))⟩⟩, fun h => absurd h (by decide)⟩
theorem vv3_0_468 : zP3 0 468 7 2 := ⟨⟨by decide, RX6, TX6, 7, rfl, by decide, Or.inr ⟨by decide, "MirrorJury", (ev_memN 1103 (by decide +kernel) (by decide +kernel))⟩⟩, fun h => absurd h (by decide)⟩
theorem vv3_0_480 : zP3 0 480 7 4 := ⟨⟨by decide, RX6, TX6, 7, rfl, by decide, Or.inr ⟨by decide, "MirrorJury", (ev_memN 1107 (by decide +kernel) (by decide +kernel))⟩⟩, fun h => absurd h (by decide)⟩
theorem vv3_0_483 : zP3 0 483 7 3 := ⟨⟨by decide, RX6, TX6, 7, rfl, by decide, Or.inr ⟨by decide, "MirrorJury", (ev_memN 1105 (by decide +kernel) (by decide +kernel))⟩⟩, fun h => absurd h (by decide)⟩
theorem vv3_0_486 : zP3 0 486 7 5 := ⟨⟨by decide, RX6, TX6, 7, rfl, by decide, Or.inr ⟨by decide, "MirrorJury", (ev_memN 1109 (by decide +kernel) (by decide +kernel))⟩⟩, fun h => absurd h (by decide)⟩
theorem vv3_0_489 : zP3 0 489 7 6 := ⟨⟨by decide, RX6, TX6, 7, rfl, by decide, Or.inr ⟨by decide, "MirrorJury", (ev_memN 1111 (by decide +kernel) (by decide +kernel))⟩⟩, fun h => absurd h (by decide)⟩
theorem vv3_l0 : ∀ q ∈ fl_0, zP3 0 q.1 q.2.1 q.2.2.1 := List.forall_mem_cons.mpr ⟨vv3_0_10, List.forall_mem_cons.mpr ⟨vv3_0_16, List.forall_mem_cons.mpr ⟨vv3_0_22, List.forall_mem_cons.mpr ⟨vv3_0_29, List.forall_mem_cons.mpr ⟨vv3_0_36, List.forall_mem_cons.mpr ⟨vv3_0_43, List.forall_mem_cons.mpr ⟨vv3_0_47, List.forall_mem_cons.mpr ⟨vv3_0_53, List.forall_mem_cons.mpr ⟨vv3_0_60, List.forall_mem_cons.mpr ⟨vv3_0_67, List.forall_mem_cons.mpr ⟨vv3_0_71, List.forall_mem_cons.mpr ⟨vv3_0_75, List.forall_mem_cons.mpr ⟨vv3_0_79, List.forall_mem_cons.mpr ⟨vv3_0_83, List.forall_mem_cons.mpr ⟨vv3_0_86, List.forall_mem_cons.mpr ⟨vv3_0_89, List.forall_mem_cons.mpr ⟨vv3_0_131, List.forall_mem_cons.mpr ⟨vv3_0_156, List.forall_mem_cons.mpr ⟨vv3_0_168, List.forall_mem_cons.mpr ⟨vv3_0_196, List.forall_mem_cons.mpr ⟨vv3_0_206, List.forall_mem_cons.mpr ⟨vv3_0_217, List.forall_mem_cons.mpr ⟨vv3_0_222, List.forall_mem_cons.mpr ⟨vv3_0_225, List.forall_mem_cons.mpr ⟨vv3_0_303, List.forall_mem_cons.mpr ⟨vv3_0_312, List.forall_mem_cons.mpr ⟨vv3_0_319, List.forall_mem_cons.mpr ⟨vv3_0_329, List.forall_mem_cons.mpr ⟨vv3_0_332, List.forall_mem_cons.mpr ⟨vv3_0_335, List.forall_mem_cons.mpr ⟨vv3_0_385, List.forall_mem_cons.mpr ⟨vv3_0_396, List.forall_mem_cons.mpr ⟨vv3_0_424, List.forall_mem_cons.mpr ⟨vv3_0_468, List.forall_mem_cons.mpr ⟨vv3_0_480, List.forall_mem_cons.mpr ⟨vv3_0_483, List.forall_mem_cons.mpr ⟨vv3_0_486, List.forall_mem_cons.mpr ⟨vv3_0_489, fun _ h => absurd h List.not_mem_nil⟩⟩⟩⟩⟩⟩⟩⟩⟩⟩⟩⟩⟩⟩⟩⟩⟩⟩⟩⟩⟩⟩⟩⟩⟩⟩⟩⟩⟩⟩⟩⟩⟩⟩⟩⟩⟩⟩
theorem vv3_1_9 : zP3 1 9 1 0 := ⟨⟨by decide, RX2, TX2, 14, rfl, by decide, Or.inl (ev_mem 1023 (by decide +kernel) (by decide +kernel))⟩, fun h => absurd h (by decide)⟩
theorem vv3_1_15 : zP3 1 15 1 1 := ⟨⟨by decide, RX2, TX2, 14, rfl, by decide, Or.inl (ev_mem 1028 (by decide +kernel) (by decide +kernel))⟩, fun h => absurd h (by decide)⟩
theorem vv3_1_19 : zP3 1 19 1 2 := ⟨⟨by decide, RX2, TX2, 14, rfl, by decide, Or.inl (ev_mem 1030 (by decide +kernel) (by decide +kernel))⟩, fun h => absurd h (by decide)⟩
theorem vv3_1_22 : zP3 1 22 1 3 := ⟨⟨by decide, RX2, TX2, 14, rfl, by decide, Or.inl (ev_mem 1032 (by decide +kernel) (by decide +kernel))⟩, fun h => absurd h (by decide)⟩
theorem vv3_1_25 : zP3 1 25 1 4 := ⟨⟨by decide, RX2, TX2, 14, rfl, by decide, Or.inl (ev_mem 1033 (by decide +kernel) (by decide +kernel))⟩, fun h => absurd h (by decide)⟩
theorem vv3_1_28 : zP3 1 28 1 5 := ⟨⟨by decide, RX2, TX2, 14, rfl, by decide, Or.inl (ev_mem 1035 (by decide +kernel) (by decide +kernel))⟩, fun h => absurd h (by decide)⟩
theorem vv3_1_31 : zP3 1 31 1 6 := ⟨⟨by decide, RX2, TX2, 14, rfl, by decide, Or.inl (ev_mem 1037 (by decide +kernel) (by decide +kernel))⟩, fun h => absurd h (by decide)⟩
theorem vv3_1_35 : zP3 1 35 1 7 := ⟨⟨by decide, RX2, TX2, 14, rfl, by decide, Or.inl (ev_mem 1040 (by decide +kernel) (by decide +kernel))⟩, fun h => absurd h (by decide)⟩
theorem vv3_1_39 : zP3 1 39 1 8 := ⟨⟨by decide, RX2, TX2, 14, rfl, by decide, Or.inl (ev_mem 1042 (by decide +kernel) (by decide +kernel))⟩, fun h => absurd h (by decide)⟩
theorem vv3_1_42 : zP3 1 42 1 9 := ⟨⟨by decide, RX2, TX2, 14, rfl, by decide, Or.inl (ev_mem 1044 (by decide +kernel) (by decide +kernel))⟩, fun h => absurd h (by decide)⟩
theorem vv3_1_45 : zP3 1 45 1 10 := ⟨⟨by decide, RX2, TX2, 14, rfl, by decide, Or.inl (ev_mem 1046 (by decide +kernel) (by decide +kernel))⟩, fun h => absurd h (by decide)⟩
theorem vv3_1_48 : zP3 1 48 1 11 := ⟨⟨by decide, RX2, TX2, 14, rfl, by decide, Or.inl (ev_mem 1048 (by decide +kernel) (by decide +kernel))⟩, fun h => absurd h (by decide)⟩
theorem vv3_1_51 : zP3 1 51 1 12 := ⟨⟨by decide, RX2, TX2, 14, rfl, by decide, Or.inl (ev_mem 1050 (by decide +kernel) (by decide +kernel))⟩, fun h => absurd h (by decide)⟩
theorem vv3_1_55 : zP3 1 55 1 13 := ⟨⟨by decide, RX2, TX2, 14, rfl, by decide, Or.inl (ev_mem 1051 (by decide +kernel) (by decide +kernel))⟩, fun h => absurd h (by decide)⟩
theorem vv3_l1 : ∀ q ∈ fl_1, zP3 1 q.1 q.2.1 q.2.2.1 := List.forall_mem_cons.mpr ⟨vv3_1_9, List.forall_mem_cons.mpr ⟨vv3_1_15, List.forall_mem_cons.mpr ⟨vv3_1_19, List.forall_mem_cons.mpr ⟨vv3_1_22, List.forall_mem_cons.mpr ⟨vv3_1_25, List.forall_mem_cons.mpr ⟨vv3_1_28, List.forall_mem_cons.mpr ⟨vv3_1_31, List.forall_mem_cons.mpr ⟨vv3_1_35, List.forall_mem_cons.mpr ⟨vv3_1_39, List.forall_mem_cons.mpr ⟨vv3_1_42, List.forall_mem_cons.mpr ⟨vv3_1_45, List.forall_mem_cons.mpr ⟨vv3_1_48, List.forall_mem_cons.mpr ⟨vv3_1_51, List.forall_mem_cons.mpr ⟨vv3_1_55, fun _ h => absurd h List.not_mem_nil⟩⟩⟩⟩⟩⟩⟩⟩⟩⟩⟩⟩⟩⟩
theorem vv3_2_13 : zP3 2 13 2 0 := ⟨⟨by decide, RX3, TX3, 3, rfl, by decide, Or.inl (ev_mem 1091 (by decide +kernel) (by decide +kernel))⟩, fun h => absurd h (by decide)⟩
theorem vv3_2_17 : zP3 2 17 2 1 := ⟨⟨by decide, RX3, TX3, 3, rfl, by decide, Or.inl (ev_mem 1092 (by decide +kernel) (by decide +kernel))⟩, fun h => absurd h (by decide)⟩
theorem vv3_2_21 : zP3 2 21 2 2 := ⟨⟨by decide, RX3, TX3, 3, rfl, by decide, Or.inl (ev_mem 1093 (by decide +kernel) (by decide +kernel))⟩, fun h => absurd h (by decide)⟩
theorem vv3_l2 : ∀ q ∈ fl_2, zP3 2 q.1 q.2.1 q.2.2.1 := List.forall_mem_cons.mpr ⟨vv3_2_13, List.forall_mem_cons.mpr ⟨vv3_2_17, List.forall_mem_cons.mpr ⟨vv3_2_21, fun _ h => absurd h List.not_mem_nil⟩⟩⟩
theorem vv3_3_9 : zP3 3 9 3 0 := ⟨⟨by decide, RX5, TX5, 4, rfl, by decide, Or.inl (ev_mem 1107 (by decide +kernel) (by decide +kernel))⟩, fun h => absurd h (by decide)⟩
theorem vv3_3_15 : zP3 3 15 3 1 := ⟨⟨by decide, RX5, TX5, 4, rfl, by decide, Or.inl (ev_mem 1109 (by decide +kernel) (by decide +kernel))⟩, fun h => absurd h (by decide)⟩
theorem vv3_3_18 : zP3 3 18 3 2 := ⟨⟨by decide, RX5, TX5, 4, rfl, by decide, Or.inl (ev_mem 1111 (by decide +kernel) (by decide +kernel))⟩, fun h => absurd h (by decide)⟩
theorem vv3_3_21 : zP3 3 21 3 3 := ⟨⟨by decide, RX5, TX5, 4, rfl, by decide, Or.inl (ev_mem 1113 (by decide +kernel) (by decide +kernel))⟩, fun h => absurd h (by decide)⟩
theorem vv3_3_33 : zP3 3 33 1 0 := ⟨⟨by decide, RX2, TX2, 14, rfl, by decide, Or.inr ⟨by decide, "MirrorJury", (ev_memN 945 (by decide +kernel) (by decide +kernel))⟩⟩, fun h => absurd h (by decide)⟩
theorem vv3_l3 : ∀ q ∈ fl_3, zP3 3 q.1 q.2.1 q.2.2.1 := List.forall_mem_cons.mpr ⟨vv3_3_9, List.forall_mem_cons.mpr ⟨vv3_3_15, List.forall_mem_cons.mpr ⟨vv3_3_18, List.forall_mem_cons.mpr ⟨vv3_3_21, List.forall_mem_cons.mpr ⟨vv3_3_33, fun _ h => absurd h List.not_mem_nil⟩⟩⟩⟩⟩
theorem vv3_4_9 : zP3 4 9 4 0 := ⟨⟨by decide, RX4, TX4, 1, rfl, by decide, Or.inl (ev_mem 1130 (by decide +kernel) (by decide +kernel))⟩, fun h => absurd h (by decide)⟩
theorem vv3_4_19 : zP3 4 19 1 0 := ⟨⟨by decide, RX2, TX2, 14, rfl, by decide, Or.inr ⟨by decide, "MirrorJury", (ev_memN 944 (by decide +kernel) (by decide +kernel))⟩⟩, fun h => absurd h (by decide)⟩
theorem vv3_l4 : ∀ q ∈ fl_4, zP3 4 q.1 q.2.1 q.2.2.1 := List.forall_mem_cons.mpr ⟨vv3_4_9, List.forall_mem_cons.mpr ⟨vv3_4_19, fun _ h => absurd h List.not_mem_nil⟩⟩
theorem vv3_5_9 : zP3 5 9 5 0 := ⟨⟨by decide, RX1, TX1, 4, rfl, by decide, Or.inl (ev_mem 1139 (by decide +kernel) (by decide +kernel))⟩, fun h => absurd h (by decide)⟩
theorem vv3_5_15 : zP3 5 15 5 1 := ⟨⟨by decide, RX1, TX1, 4, rfl, by decide, Or.inl (ev_mem 1140 (by decide +kernel) (by decide +kernel))⟩, fun h => absurd h (by decide)⟩
theorem vv3_5_18 : zP3 5 18 5 2 := ⟨⟨by decide, RX1, TX1, 4, rfl, by decide, Or.inl (ev_mem 1141 (by decide +kernel) (by decide +kernel))⟩, fun h => absurd h (by decide)⟩
theorem vv3_5_22 : zP3 5 22 5 3 := ⟨⟨by decide, RX1, TX1, 4, rfl, by decide, Or.inl (ev_mem 1142 (by decide +kernel) (by decide +kernel))⟩, fun h => absurd h (by decide)⟩
theorem vv3_5_61 : zP3 5 61 1 0 := ⟨⟨by decide, RX2, TX2, 14, rfl, by decide, Or.inr ⟨by decide, "MirrorJury", (ev_memN 946 (by decide +kernel) (by decide +kernel))⟩⟩, fun h => absurd h (by decide)⟩
theorem vv3_l5 : ∀ q ∈ fl_5, zP3 5 q.1 q.2.1 q.2.2.1 := List.forall_mem_cons.mpr ⟨vv3_5_9, List.forall_mem_cons.mpr ⟨vv3_5_15, List.forall_mem_cons.mpr ⟨vv3_5_18, List.forall_mem_cons.mpr ⟨vv3_5_22, List.forall_mem_cons.mpr ⟨vv3_5_61, fun _ h => absurd h List.not_mem_nil⟩⟩⟩⟩⟩
theorem vv3_6_9 : zP3 6 9 6 0 := ⟨⟨by decide, RX7, TX7, 4, rfl, by decide, Or.inl (ev_mem 1157 (by decide +kernel) (by decide +kernel))⟩, fun h => absurd h (by decide)⟩
theorem vv3_6_15 : zP3 6 15 6 1 := ⟨⟨by decide, RX7, TX7, 4, rfl, by decide, Or.inl (ev_mem 1158 (by decide +kernel) (by decide +kernel))⟩, fun h => absurd h (by decide)⟩
theorem vv3_6_18 : zP3 6 18 6 2 := ⟨⟨by decide, RX7, TX7, 4, rfl, by decide, Or.inl (ev_mem 1159 (by decide +kernel) (by decide +kernel))⟩, fun h => absurd h (by decide)⟩
theorem vv3_6_21 : zP3 6 21 6 3 := ⟨⟨by decide, RX7, TX7, 4, rfl, by decide, Or.inl (ev_mem 1160 (by decide +kernel) (by decide +kernel))⟩, fun h => absurd h (by decide)⟩
theorem vv3_6_25 : zP3 6 25 1 6 := ⟨⟨by decide, RX2, TX2, 14, rfl, by decide, Or.inr ⟨by decide, "MirrorJury", (ev_memN 959 (by decide +kernel) (by decide +kernel))⟩⟩, fun h => absurd h (by decide)⟩
theorem vv3_6_61 : zP3 6 61 1 2 := ⟨⟨by decide, RX2, TX2, 14, rfl, by decide, Or.inr ⟨by decide, "MirrorJury", (ev_memN 951 (by decide +kernel) (by decide +kernel))⟩⟩, fun h => absurd h (by decide)⟩
theorem vv3_l6 : ∀ q ∈ fl_6, zP3 6 q.1 q.2.1 q.2.2.1 := List.forall_mem_cons.mpr ⟨vv3_6_9, List.forall_mem_cons.mpr ⟨vv3_6_15, List.forall_mem_cons.mpr ⟨vv3_6_18, List.forall_mem_cons.mpr ⟨vv3_6_21, List.forall_mem_cons.mpr ⟨vv3_6_25, List.forall_mem_cons.mpr ⟨vv3_6_61, fun _ h => absurd h List.not_mem_nil⟩⟩⟩⟩⟩⟩
theorem vv3_7_12 : zP3 7 12 7 0 := ⟨⟨by decide, RX6, TX6, 7, rfl, by decide, Or.inl (ev_mem 1178 (by decide +kernel) (by decide +kernel))⟩, fun h => absurd h (by decide)⟩
theorem vv3_7_18 : zP3 7 18 7 1 := ⟨⟨by decide, RX6, TX6, 7, rfl, by decide, Or.inl (ev_mem 1180 (by decide +kernel) (by decide +kernel))⟩, fun h => absurd h (by decide)⟩
theorem vv3_7_22 : zP3 7 22 7 2 := ⟨⟨by decide, RX6, TX6, 7, rfl, by decide, Or.inl (ev_mem 1182 (by decide +kernel) (by decide +kernel))⟩, fun h => absurd h (by decide)⟩
theorem vv3_7_25 : zP3 7 25 7 3 := ⟨⟨by decide, RX6, TX6, 7, rfl, by decide, Or.inl (ev_mem 1184 (by decide +kernel) (by decide +kernel))⟩, fun h => absurd h (by decide)⟩
theorem vv3_7_28 : zP3 7 28 7 4 := ⟨⟨by decide, RX6, TX6, 7, rfl, by decide, Or.inl (ev_mem 1186 (by decide +kernel) (by decide +kernel))⟩, fun h => absurd h (by decide)⟩
theorem vv3_7_32 : zP3 7 32 7 5 := ⟨⟨by decide, RX6, TX6, 7, rfl, by decide, Or.inl (ev_mem 1188 (by decide +kernel) (by decide +kernel))⟩, fun h => absurd h (by decide)⟩
theorem vv3_7_35 : zP3 7 35 7 6 := ⟨⟨by decide, RX6, TX6, 7, rfl, by decide, Or.inl (ev_mem 1190 (by decide +kernel) (by decide +kernel))⟩, fun h => absurd h (by decide)⟩
theorem vv3_l7 : ∀ q ∈ fl_7, zP3 7 q.1 q.2.1 q.2.2.1 := List.forall_mem_cons.mpr ⟨vv3_7_12, List.forall_mem_cons.mpr ⟨vv3_7_18, List.forall_mem_cons.mpr ⟨vv3_7_22, List.forall_mem_cons.mpr ⟨vv3_7_25, List.forall_mem_cons.mpr ⟨vv3_7_28, List.forall_mem_cons.mpr ⟨vv3_7_32, List.forall_mem_cons.mpr ⟨vv3_7_35, fun _ h => absurd h List.not_mem_nil⟩⟩⟩⟩⟩⟩⟩
theorem vv3_8_9 : zP3 8 9 8 0 := ⟨⟨by decide, RJ0, TJ0, 4, rfl, by decide, Or.inl (ev_mem 451 (by decide +kernel) (by decide +kernel))⟩, fun _ _ => (ev_mem 451 (by decide +kernel) (by decide +kernel))⟩
theorem vv3_8_15 : zP3 8 15 8 1 := ⟨⟨by decide, RJ0, TJ0, 4, rfl, by decide, Or.inl (ev_mem 452 (by decide +kernel) (by decide +kernel))⟩, fun _ _ => (ev_mem 452 (by decide +kernel) (by decide +kernel))⟩
theorem vv3_8_1048 : zP3 8 1048 9 2 := ⟨⟨by decide, RJ4, TJ4, 4, rfl, by decide, Or.inl (ev_mem 225 (by decide +kernel) (by decide +kernel))⟩, fun h => absurd h (by decide)⟩
theorem vv3_l8 : ∀ q ∈ fl_8, zP3 8 q.1 q.2.1 q.2.2.1 := List.forall_mem_cons.mpr ⟨vv3_8_9, List.forall_mem_cons.mpr ⟨vv3_8_15, List.forall_mem_cons.mpr ⟨vv3_8_1048, fun _ h => absurd h List.not_mem_nil⟩⟩⟩
theorem vv3_12_15 : zP3 12 15 9 0 := ⟨⟨by decide, RJ4, TJ4, 4, rfl, by decide, Or.inl (ev_mem 222 (by decide +kernel) (by decide +kernel))⟩, fun h => absurd h (by decide)⟩
theorem vv3_12_22 : zP3 12 22 9 1 := ⟨⟨by decide, RJ4, TJ4, 4, rfl, by decide, Or.inl (ev_mem 223 (by decide +kernel) (by decide +kernel))⟩, fun h => absurd h (by decide)⟩
theorem vv3_12_73 : zP3 12 73 9 2 := ⟨⟨by decide, RJ4, TJ4, 4, rfl, by decide, Or.inl (ev_mem 224 (by decide +kernel) (by decide +kernel))⟩, fun h => absurd h (by decide)⟩
theorem vv3_12_79 : zP3 12 79 9 3 := ⟨⟨by decide, RJ4, TJ4, 4, rfl, by decide, Or.inl (ev_mem 226 (by decide +kernel) (by decide +kernel))⟩, fun h => absurd h (by decide)⟩
theorem vv3_l12 : ∀ q ∈ fl_12, zP3 12 q.1 q.2.1 q.2.2.1 := List.forall_mem_cons.mpr ⟨vv3_12_15, List.forall_mem_cons.mpr ⟨vv3_12_22, List.forall_mem_cons.mpr ⟨vv3_12_73, List.forall_mem_cons.mpr ⟨vv3_12_79, fun _ h => absurd h List.not_mem_nil⟩⟩⟩⟩
theorem vv3_t : ∀ z ∈ fl_t, ∀ q ∈ z.2, zP3 z.1 q.1 q.2.1 q.2.2.1 := List.forall_mem_cons.mpr ⟨vv3_l0, List.forall_mem_cons.mpr ⟨vv3_l1, List.forall_mem_cons.mpr ⟨vv3_l2, List.forall_mem_cons.mpr ⟨vv3_l3, List.forall_mem_cons.mpr ⟨vv3_l4, List.forall_mem_cons.mpr ⟨vv3_l5, List.forall_mem_cons.mpr ⟨vv3_l6, List.forall_mem_cons.mpr ⟨vv3_l7, List.forall_mem_cons.mpr ⟨vv3_l8, List.forall_mem_cons.mpr ⟨vv3_l12, fun _ h => absurd h List.not_mem_nil⟩⟩⟩⟩⟩⟩⟩⟩⟩⟩
theorem vV3 (xs : List Int32) (v9 : Value) : ev_V3 (ev_G0 xs v9) (ev_B0 v9) := by
  intro k i ci sl h
  obtain ⟨l, q, h1, h2, h3⟩ := ev_lkF h
  have h4 := vv3_t (k, l) h1 (i, q) h2
  cases h3
  exact h4
