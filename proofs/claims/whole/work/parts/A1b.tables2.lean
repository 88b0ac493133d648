/-! the tables of the small machine are true: fields; laid by wip/whole/gen/gena3.py -/
def zP3 (k i ci sl : Nat) : Prop := (ci = 50 ∧ sl < 2 ∧ Cond.fieldLink (ev_cn0 k) i "java/lang/String" (ev_sfn sl).1 (ev_sfn sl).2 ∈ ev_Tb0) ∨
  (ci < 50 ∧ ∃ (C : String) (F : u_T) (N : Nat), ev_cl0[ci]? = some (C, F, N) ∧ sl < N ∧ (Cond.fieldLink (ev_cn0 k) i (F sl).1 (F sl).2.1 (F sl).2.2.1 ∈ ev_Tb0 ∨ (ci ≠ k ∧ ∃ host, Cond.fieldLinkNest (ev_cn0 k) i (F sl).1 (F sl).2.1 (F sl).2.2.1 host ∈ ev_NG0)))
theorem vv3_0_10 : zP3 0 10 0 0 := Or.inr ⟨by decide, RX8, TX8, 16, rfl, by decide, Or.inl (ev_mem 403 (by decide +kernel) (by decide +kernel))⟩
theorem vv3_0_16 : zP3 0 16 0 1 := Or.inr ⟨by decide, RX8, TX8, 16, rfl, by decide, Or.inl (ev_mem 404 (by decide +kernel) (by decide +kernel))⟩
theorem vv3_0_22 : zP3 0 22 0 2 := Or.inr ⟨by decide, RX8, TX8, 16, rfl, by decide, Or.inl (ev_mem 405 (by decide +kernel) (by decide +kernel))⟩
theorem vv3_0_29 : zP3 0 29 0 3 := Or.inr ⟨by decide, RX8, TX8, 16, rfl, by decide, Or.inl (ev_mem 406 (by decide +kernel) (by decide +kernel))⟩
theorem vv3_0_36 : zP3 0 36 0 4 := Or.inr ⟨by decide, RX8, TX8, 16, rfl, by decide, Or.inl (ev_mem 407 (by decide +kernel) (by decide +kernel))⟩
theorem vv3_0_43 : zP3 0 43 0 5 := Or.inr ⟨by decide, RX8, TX8, 16, rfl, by decide, Or.inl (ev_mem 408 (by decide +kernel) (by decide +kernel))⟩
theorem vv3_0_47 : zP3 0 47 0 6 := Or.inr ⟨by decide, RX8, TX8, 16, rfl, by decide, Or.inl (ev_mem 409 (by decide +kernel) (by decide +kernel))⟩
theorem vv3_0_53 : zP3 0 53 0 7 := Or.inr ⟨by decide, RX8, TX8, 16, rfl, by decide, Or.inl (ev_mem 410 (by decide +kernel) (by decide +kernel))⟩
theorem vv3_0_60 : zP3 0 60 0 8 := Or.inr ⟨by decide, RX8, TX8, 16, rfl, by decide, Or.inl (ev_mem 411 (by decide +kernel) (by decide +kernel))⟩
theorem vv3_0_67 : zP3 0 67 0 9 := Or.inr ⟨by decide, RX8, TX8, 16, rfl, by decide, Or.inl (ev_mem 412 (by decide +kernel) (by decide +kernel))⟩
theorem vv3_0_71 : zP3 0 71 0 10 := Or.inr ⟨by decide, RX8, TX8, 16, rfl, by decide, Or.inl (ev_mem 413 (by decide +kernel) (by decide +kernel))⟩
theorem vv3_0_75 : zP3 0 75 0 11 := Or.inr ⟨by decide, RX8, TX8, 16, rfl, by decide, Or.inl (ev_mem 414 (by decide +kernel) (by decide +kernel))⟩
theorem vv3_0_79 : zP3 0 79 0 12 := Or.inr ⟨by decide, RX8, TX8, 16, rfl, by decide, Or.inl (ev_mem 415 (by decide +kernel) (by decide +kernel))⟩
theorem vv3_0_83 : zP3 0 83 0 13 := Or.inr ⟨by decide, RX8, TX8, 16, rfl, by decide, Or.inl (ev_mem 416 (by decide +kernel) (by decide +kernel))⟩
theorem vv3_0_86 : zP3 0 86 0 14 := Or.inr ⟨by decide, RX8, TX8, 16, rfl, by decide, Or.inl (ev_mem 417 (by decide +kernel) (by decide +kernel))⟩
theorem vv3_0_89 : zP3 0 89 0 15 := Or.inr ⟨by decide, RX8, TX8, 16, rfl, by decide, Or.inl (ev_mem 418 (by decide +kernel) (by decide +kernel))⟩
theorem vv3_0_131 : zP3 0 131 1 6 := Or.inr ⟨by decide, RX2, TX2, 14, rfl, by decide, Or.inr ⟨by decide, "MirrorJury", (ev_memN 65 (by decide +kernel) (by decide +kernel))⟩⟩
theorem vv3_0_156 : zP3 0 156 1 1 := Or.inr ⟨by decide, RX2, TX2, 14, rfl, by decide, Or.inr ⟨by decide, "MirrorJury", (ev_memN 55 (by decide +kernel) (by decide +kernel))⟩⟩
theorem vv3_0_168 : zP3 0 168 1 0 := Or.inr ⟨by decide, RX2, TX2, 14, rfl, by decide, Or.inr ⟨by decide, "MirrorJury", (ev_memN 53 (by decide +kernel) (by decide +kernel))⟩⟩
theorem vv3_0_196 : zP3 0 196 1 4 := Or.inr ⟨by decide, RX2, TX2, 14, rfl, by decide, Or.inr ⟨by decide, "MirrorJury", (ev_memN 60 (by decide +kernel) (by decide +kernel))⟩⟩
theorem vv3_0_206 : zP3 0 206 3 0 := Or.inr ⟨by decide, RX5, TX5, 4, rfl, by decide, Or.inr ⟨by decide, "MirrorJury", (ev_memN 136 (by decide +kernel) (by decide +kernel))⟩⟩
theorem vv3_0_217 : zP3 0 217 3 1 := Or.inr ⟨by decide, RX5, TX5, 4, rfl, by decide, Or.inr ⟨by decide, "MirrorJury", (ev_memN 138 (by decide +kernel) (by decide +kernel))⟩⟩
theorem vv3_0_222 : zP3 0 222 3 2 := Or.inr ⟨by decide, RX5, TX5, 4, rfl, by decide, Or.inr ⟨by decide, "MirrorJury", (ev_memN 140 (by decide +kernel) (by decide +kernel))⟩⟩
theorem vv3_0_225 : zP3 0 225 3 3 := Or.inr ⟨by decide, RX5, TX5, 4, rfl, by decide, Or.inr ⟨by decide, "MirrorJury", (ev_memN 142 (by decide +kernel) (by decide +kernel))⟩⟩
theorem vv3_0_278 : zP3 0 278 6 3 := Or.inr ⟨by decide, RX7, TX7, 4, rfl, by decide, Or.inr ⟨by decide, "MirrorJury", (ev_memN 191 (by decide +kernel) (by decide +kernel))⟩⟩
theorem vv3_0_303 : zP3 0 303 1 7 := Or.inr ⟨by decide, RX2, TX2, 14, rfl, by decide, Or.inr ⟨by decide, "MirrorJury", (ev_memN 67 (by decide +kernel) (by decide +kernel))⟩⟩
theorem vv3_0_312 : zP3 0 312 1 5 := Or.inr ⟨by decide, RX2, TX2, 14, rfl, by decide, Or.inr ⟨by decide, "MirrorJury", (ev_memN 62 (by decide +kernel) (by decide +kernel))⟩⟩
theorem vv3_0_319 : zP3 0 319 1 8 := Or.inr ⟨by decide, RX2, TX2, 14, rfl, by decide, Or.inr ⟨by decide, "MirrorJury", (ev_memN 69 (by decide +kernel) (by decide +kernel))⟩⟩
theorem vv3_0_329 : zP3 0 329 1 9 := Or.inr ⟨by decide, RX2, TX2, 14, rfl, by decide, Or.inr ⟨by decide, "MirrorJury", (ev_memN 71 (by decide +kernel) (by decide +kernel))⟩⟩
theorem vv3_0_332 : zP3 0 332 1 10 := Or.inr ⟨by decide, RX2, TX2, 14, rfl, by decide, Or.inr ⟨by decide, "MirrorJury", (ev_memN 73 (by decide +kernel) (by decide +kernel))⟩⟩
theorem vv3_0_335 : zP3 0 335 1 11 := Or.inr ⟨by decide, RX2, TX2, 14, rfl, by decide, Or.inr ⟨by decide, "MirrorJury", (ev_memN 75 (by decide +kernel) (by decide +kernel))⟩⟩
theorem vv3_0_385 : zP3 0 385 7 0 := Or.inr ⟨by decide, RX6, TX6, 7, rfl, by decide, Or.inr ⟨by decide, "MirrorJury", (ev_memN 241 (by decide +kernel) (by decide +kernel))⟩⟩
theorem vv3_0_396 : zP3 0 396 7 1 := Or.inr ⟨by decide, RX6, TX6, 7, rfl, by decide, Or.inr ⟨by decide, "MirrorJury", (ev_memN 243 (by decide +kernel) (by decide +kernel))⟩⟩
theorem vv3_0_424 : zP3 0 424 2 2 := Or.inr ⟨by decide, RX3, TX3, 3, rfl, by decide, Or.inr ⟨by decide, "MirrorJury", (ev_memN 121 (by decide +kernel) (by decide +kernel))⟩⟩
theorem vv3_0_468 : zP3 0 468 7 2 := Or.inr ⟨by decide, RX6, TX6, 7, rfl, by decide, Or.inr ⟨by decide, "MirrorJury", (ev_memN 245 (by decide +kernel) (by decide +kernel))⟩⟩
theorem vv3_0_480 : zP3 0 480 7 4 := Or.inr ⟨by decide, RX6, TX6, 7, rfl, by decide, Or.inr ⟨by decide, "MirrorJury", (ev_memN 249 (by decide +kernel) (by decide +kernel))⟩⟩
theorem vv3_0_483 : zP3 0 483 7 3 := Or.inr ⟨by decide, RX6, TX6, 7, rfl, by decide, Or.inr ⟨by decide, "MirrorJury", (ev_memN 247 (by decide +kernel) (by decide +kernel))⟩⟩
theorem vv3_0_486 : zP3 0 486 7 5 := Or.inr ⟨by decide, RX6, TX6, 7, rfl, by decide, Or.inr ⟨by decide, "MirrorJury", (ev_memN 251 (by decide +kernel) (by decide +kernel))⟩⟩
theorem vv3_0_489 : zP3 0 489 7 6 := Or.inr ⟨by decide, RX6, TX6, 7, rfl, by decide, Or.inr ⟨by decide, "MirrorJury", (ev_memN 253 (by decide +kernel) (by decide +kernel))⟩⟩
theorem vv3_l0 : ∀ q ∈ fl_0, zP3 0 q.1 q.2.1 q.2.2.1 := List.forall_mem_cons.mpr ⟨vv3_0_10, List.forall_mem_cons.mpr ⟨vv3_0_16, List.forall_mem_cons.mpr ⟨vv3_0_22, List.forall_mem_cons.mpr ⟨vv3_0_29, List.forall_mem_cons.mpr ⟨vv3_0_36, List.forall_mem_cons.mpr ⟨vv3_0_43, List.forall_mem_cons.mpr ⟨vv3_0_47, List.forall_mem_cons.mpr ⟨vv3_0_53, List.forall_mem_cons.mpr ⟨vv3_0_60, List.forall_mem_cons.mpr ⟨vv3_0_67, List.forall_mem_cons.mpr ⟨vv3_0_71, List.forall_mem_cons.mpr ⟨vv3_0_75, List.forall_mem_cons.mpr ⟨vv3_0_79, List.forall_mem_cons.mpr ⟨vv3_0_83, List.forall_mem_cons.mpr ⟨vv3_0_86, List.forall_mem_cons.mpr ⟨vv3_0_89, List.forall_mem_cons.mpr ⟨vv3_0_131, List.forall_mem_cons.mpr ⟨vv3_0_156, List.forall_mem_cons.mpr ⟨vv3_0_168, List.forall_mem_cons.mpr ⟨vv3_0_196, List.forall_mem_cons.mpr ⟨vv3_0_206, List.forall_mem_cons.mpr ⟨vv3_0_217, List.forall_mem_cons.mpr ⟨vv3_0_222, List.forall_mem_cons.mpr ⟨vv3_0_225, List.forall_mem_cons.mpr ⟨vv3_0_278, List.forall_mem_cons.mpr ⟨vv3_0_303, List.forall_mem_cons.mpr ⟨vv3_0_312, List.forall_mem_cons.mpr ⟨vv3_0_319, List.forall_mem_cons.mpr ⟨vv3_0_329, List.forall_mem_cons.mpr ⟨vv3_0_332, List.forall_mem_cons.mpr ⟨vv3_0_335, List.forall_mem_cons.mpr ⟨vv3_0_385, List.forall_mem_cons.mpr ⟨vv3_0_396, List.forall_mem_cons.mpr ⟨vv3_0_424, List.forall_mem_cons.mpr ⟨vv3_0_468, List.forall_mem_cons.mpr ⟨vv3_0_480, List.forall_mem_cons.mpr ⟨vv3_0_483, List.forall_mem_cons.mpr ⟨vv3_0_486, List.forall_mem_cons.mpr ⟨vv3_0_489, fun _ h => absurd h List.not_mem_nil⟩⟩⟩⟩⟩⟩⟩⟩⟩⟩⟩⟩⟩⟩⟩⟩⟩⟩⟩⟩⟩⟩⟩⟩⟩⟩⟩⟩⟩⟩⟩⟩⟩⟩⟩⟩⟩⟩⟩
theorem vv3_1_9 : zP3 1 9 1 0 := Or.inr ⟨by decide, RX2, TX2, 14, rfl, by decide, Or.inl (ev_mem 181 (by decide +kernel) (by decide +kernel))⟩
theorem vv3_1_15 : zP3 1 15 1 1 := Or.inr ⟨by decide, RX2, TX2, 14, rfl, by decide, Or.inl (ev_mem 186 (by decide +kernel) (by decide +kernel))⟩
theorem vv3_1_19 : zP3 1 19 1 2 := Or.inr ⟨by decide, RX2, TX2, 14, rfl, by decide, Or.inl (ev_mem 188 (by decide +kernel) (by decide +kernel))⟩
theorem vv3_1_22 : zP3 1 22 1 3 := Or.inr ⟨by decide, RX2, TX2, 14, rfl, by decide, Or.inl (ev_mem 190 (by decide +kernel) (by decide +kernel))⟩
theorem vv3_1_25 : zP3 1 25 1 4 := Or.inr ⟨by decide, RX2, TX2, 14, rfl, by decide, Or.inl (ev_mem 191 (by decide +kernel) (by decide +kernel))⟩
theorem vv3_1_28 : zP3 1 28 1 5 := Or.inr ⟨by decide, RX2, TX2, 14, rfl, by decide, Or.inl (ev_mem 193 (by decide +kernel) (by decide +kernel))⟩
theorem vv3_1_31 : zP3 1 31 1 6 := Or.inr ⟨by decide, RX2, TX2, 14, rfl, by decide, Or.inl (ev_mem 195 (by decide +kernel) (by decide +kernel))⟩
theorem vv3_1_35 : zP3 1 35 1 7 := Or.inr ⟨by decide, RX2, TX2, 14, rfl, by decide, Or.inl (ev_mem 198 (by decide +kernel) (by decide +kernel))⟩
theorem vv3_1_39 : zP3 1 39 1 8 := Or.inr ⟨by decide, RX2, TX2, 14, rfl, by decide, Or.inl (ev_mem 200 (by decide +kernel) (by decide +kernel))⟩
theorem vv3_1_42 : zP3 1 42 1 9 := Or.inr ⟨by decide, RX2, TX2, 14, rfl, by decide, Or.inl (ev_mem 202 (by decide +kernel) (by decide +kernel))⟩
theorem vv3_1_45 : zP3 1 45 1 10 := Or.inr ⟨by decide, RX2, TX2, 14, rfl, by decide, Or.inl (ev_mem 204 (by decide +kernel) (by decide +kernel))⟩
theorem vv3_1_48 : zP3 1 48 1 11 := Or.inr ⟨by decide, RX2, TX2, 14, rfl, by decide, Or.inl (ev_mem 206 (by decide +kernel) (by decide +kernel))⟩
theorem vv3_1_51 : zP3 1 51 1 12 := Or.inr ⟨by decide, RX2, TX2, 14, rfl, by decide, Or.inl (ev_mem 208 (by decide +kernel) (by decide +kernel))⟩
theorem vv3_1_55 : zP3 1 55 1 13 := Or.inr ⟨by decide, RX2, TX2, 14, rfl, by decide, Or.inl (ev_mem 209 (by decide +kernel) (by decide +kernel))⟩
theorem vv3_l1 : ∀ q ∈ fl_1, zP3 1 q.1 q.2.1 q.2.2.1 := List.forall_mem_cons.mpr ⟨vv3_1_9, List.forall_mem_cons.mpr ⟨vv3_1_15, List.forall_mem_cons.mpr ⟨vv3_1_19, List.forall_mem_cons.mpr ⟨vv3_1_22, List.forall_mem_cons.mpr ⟨vv3_1_25, List.forall_mem_cons.mpr ⟨vv3_1_28, List.forall_mem_cons.mpr ⟨vv3_1_31, List.forall_mem_cons.mpr ⟨vv3_1_35, List.forall_mem_cons.mpr ⟨vv3_1_39, List.forall_mem_cons.mpr ⟨vv3_1_42, List.forall_mem_cons.mpr ⟨vv3_1_45, List.forall_mem_cons.mpr ⟨vv3_1_48, List.forall_mem_cons.mpr ⟨vv3_1_51, List.forall_mem_cons.mpr ⟨vv3_1_55, fun _ h => absurd h List.not_mem_nil⟩⟩⟩⟩⟩⟩⟩⟩⟩⟩⟩⟩⟩⟩
theorem vv3_2_13 : zP3 2 13 2 0 := Or.inr ⟨by decide, RX3, TX3, 3, rfl, by decide, Or.inl (ev_mem 250 (by decide +kernel) (by decide +kernel))⟩
theorem vv3_2_17 : zP3 2 17 2 1 := Or.inr ⟨by decide, RX3, TX3, 3, rfl, by decide, Or.inl (ev_mem 251 (by decide +kernel) (by decide +kernel))⟩
theorem vv3_2_21 : zP3 2 21 2 2 := Or.inr ⟨by decide, RX3, TX3, 3, rfl, by decide, Or.inl (ev_mem 252 (by decide +kernel) (by decide +kernel))⟩
theorem vv3_l2 : ∀ q ∈ fl_2, zP3 2 q.1 q.2.1 q.2.2.1 := List.forall_mem_cons.mpr ⟨vv3_2_13, List.forall_mem_cons.mpr ⟨vv3_2_17, List.forall_mem_cons.mpr ⟨vv3_2_21, fun _ h => absurd h List.not_mem_nil⟩⟩⟩
theorem vv3_3_9 : zP3 3 9 3 0 := Or.inr ⟨by decide, RX5, TX5, 4, rfl, by decide, Or.inl (ev_mem 267 (by decide +kernel) (by decide +kernel))⟩
theorem vv3_3_15 : zP3 3 15 3 1 := Or.inr ⟨by decide, RX5, TX5, 4, rfl, by decide, Or.inl (ev_mem 269 (by decide +kernel) (by decide +kernel))⟩
theorem vv3_3_18 : zP3 3 18 3 2 := Or.inr ⟨by decide, RX5, TX5, 4, rfl, by decide, Or.inl (ev_mem 271 (by decide +kernel) (by decide +kernel))⟩
theorem vv3_3_21 : zP3 3 21 3 3 := Or.inr ⟨by decide, RX5, TX5, 4, rfl, by decide, Or.inl (ev_mem 273 (by decide +kernel) (by decide +kernel))⟩
theorem vv3_3_33 : zP3 3 33 1 0 := Or.inr ⟨by decide, RX2, TX2, 14, rfl, by decide, Or.inr ⟨by decide, "MirrorJury", (ev_memN 51 (by decide +kernel) (by decide +kernel))⟩⟩
theorem vv3_l3 : ∀ q ∈ fl_3, zP3 3 q.1 q.2.1 q.2.2.1 := List.forall_mem_cons.mpr ⟨vv3_3_9, List.forall_mem_cons.mpr ⟨vv3_3_15, List.forall_mem_cons.mpr ⟨vv3_3_18, List.forall_mem_cons.mpr ⟨vv3_3_21, List.forall_mem_cons.mpr ⟨vv3_3_33, fun _ h => absurd h List.not_mem_nil⟩⟩⟩⟩⟩
theorem vv3_4_9 : zP3 4 9 4 0 := Or.inr ⟨by decide, RX4, TX4, 1, rfl, by decide, Or.inl (ev_mem 290 (by decide +kernel) (by decide +kernel))⟩
theorem vv3_4_19 : zP3 4 19 1 0 := Or.inr ⟨by decide, RX2, TX2, 14, rfl, by decide, Or.inr ⟨by decide, "MirrorJury", (ev_memN 50 (by decide +kernel) (by decide +kernel))⟩⟩
theorem vv3_l4 : ∀ q ∈ fl_4, zP3 4 q.1 q.2.1 q.2.2.1 := List.forall_mem_cons.mpr ⟨vv3_4_9, List.forall_mem_cons.mpr ⟨vv3_4_19, fun _ h => absurd h List.not_mem_nil⟩⟩
theorem vv3_5_9 : zP3 5 9 5 0 := Or.inr ⟨by decide, RX1, TX1, 4, rfl, by decide, Or.inl (ev_mem 300 (by decide +kernel) (by decide +kernel))⟩
theorem vv3_5_15 : zP3 5 15 5 1 := Or.inr ⟨by decide, RX1, TX1, 4, rfl, by decide, Or.inl (ev_mem 301 (by decide +kernel) (by decide +kernel))⟩
theorem vv3_5_18 : zP3 5 18 5 2 := Or.inr ⟨by decide, RX1, TX1, 4, rfl, by decide, Or.inl (ev_mem 302 (by decide +kernel) (by decide +kernel))⟩
theorem vv3_5_22 : zP3 5 22 5 3 := Or.inr ⟨by decide, RX1, TX1, 4, rfl, by decide, Or.inl (ev_mem 303 (by decide +kernel) (by decide +kernel))⟩
theorem vv3_5_61 : zP3 5 61 1 0 := Or.inr ⟨by decide, RX2, TX2, 14, rfl, by decide, Or.inr ⟨by decide, "MirrorJury", (ev_memN 52 (by decide +kernel) (by decide +kernel))⟩⟩
theorem vv3_l5 : ∀ q ∈ fl_5, zP3 5 q.1 q.2.1 q.2.2.1 := List.forall_mem_cons.mpr ⟨vv3_5_9, List.forall_mem_cons.mpr ⟨vv3_5_15, List.forall_mem_cons.mpr ⟨vv3_5_18, List.forall_mem_cons.mpr ⟨vv3_5_22, List.forall_mem_cons.mpr ⟨vv3_5_61, fun _ h => absurd h List.not_mem_nil⟩⟩⟩⟩⟩
theorem vv3_6_9 : zP3 6 9 6 0 := Or.inr ⟨by decide, RX7, TX7, 4, rfl, by decide, Or.inl (ev_mem 319 (by decide +kernel) (by decide +kernel))⟩
theorem vv3_6_15 : zP3 6 15 6 1 := Or.inr ⟨by decide, RX7, TX7, 4, rfl, by decide, Or.inl (ev_mem 320 (by decide +kernel) (by decide +kernel))⟩
theorem vv3_6_18 : zP3 6 18 6 2 := Or.inr ⟨by decide, RX7, TX7, 4, rfl, by decide, Or.inl (ev_mem 321 (by decide +kernel) (by decide +kernel))⟩
theorem vv3_6_21 : zP3 6 21 6 3 := Or.inr ⟨by decide, RX7, TX7, 4, rfl, by decide, Or.inl (ev_mem 322 (by decide +kernel) (by decide +kernel))⟩
theorem vv3_6_25 : zP3 6 25 1 6 := Or.inr ⟨by decide, RX2, TX2, 14, rfl, by decide, Or.inr ⟨by decide, "MirrorJury", (ev_memN 64 (by decide +kernel) (by decide +kernel))⟩⟩
theorem vv3_6_61 : zP3 6 61 1 2 := Or.inr ⟨by decide, RX2, TX2, 14, rfl, by decide, Or.inr ⟨by decide, "MirrorJury", (ev_memN 57 (by decide +kernel) (by decide +kernel))⟩⟩
theorem vv3_l6 : ∀ q ∈ fl_6, zP3 6 q.1 q.2.1 q.2.2.1 := List.forall_mem_cons.mpr ⟨vv3_6_9, List.forall_mem_cons.mpr ⟨vv3_6_15, List.forall_mem_cons.mpr ⟨vv3_6_18, List.forall_mem_cons.mpr ⟨vv3_6_21, List.forall_mem_cons.mpr ⟨vv3_6_25, List.forall_mem_cons.mpr ⟨vv3_6_61, fun _ h => absurd h List.not_mem_nil⟩⟩⟩⟩⟩⟩
theorem vv3_7_12 : zP3 7 12 7 0 := Or.inr ⟨by decide, RX6, TX6, 7, rfl, by decide, Or.inl (ev_mem 372 (by decide +kernel) (by decide +kernel))⟩
theorem vv3_7_18 : zP3 7 18 7 1 := Or.inr ⟨by decide, RX6, TX6, 7, rfl, by decide, Or.inl (ev_mem 374 (by decide +kernel) (by decide +kernel))⟩
theorem vv3_7_22 : zP3 7 22 7 2 := Or.inr ⟨by decide, RX6, TX6, 7, rfl, by decide, Or.inl (ev_mem 376 (by decide +kernel) (by decide +kernel))⟩
theorem vv3_7_25 : zP3 7 25 7 3 := Or.inr ⟨by decide, RX6, TX6, 7, rfl, by decide, Or.inl (ev_mem 378 (by decide +kernel) (by decide +kernel))⟩
theorem vv3_7_28 : zP3 7 28 7 4 := Or.inr ⟨by decide, RX6, TX6, 7, rfl, by decide, Or.inl (ev_mem 380 (by decide +kernel) (by decide +kernel))⟩
theorem vv3_7_32 : zP3 7 32 7 5 := Or.inr ⟨by decide, RX6, TX6, 7, rfl, by decide, Or.inl (ev_mem 382 (by decide +kernel) (by decide +kernel))⟩
theorem vv3_7_35 : zP3 7 35 7 6 := Or.inr ⟨by decide, RX6, TX6, 7, rfl, by decide, Or.inl (ev_mem 384 (by decide +kernel) (by decide +kernel))⟩
theorem vv3_l7 : ∀ q ∈ fl_7, zP3 7 q.1 q.2.1 q.2.2.1 := List.forall_mem_cons.mpr ⟨vv3_7_12, List.forall_mem_cons.mpr ⟨vv3_7_18, List.forall_mem_cons.mpr ⟨vv3_7_22, List.forall_mem_cons.mpr ⟨vv3_7_25, List.forall_mem_cons.mpr ⟨vv3_7_28, List.forall_mem_cons.mpr ⟨vv3_7_32, List.forall_mem_cons.mpr ⟨vv3_7_35, fun _ h => absurd h List.not_mem_nil⟩⟩⟩⟩⟩⟩⟩
theorem vv3_8_9 : zP3 8 9 8 0 := Or.inr ⟨by decide, RX9, TX9, 28, rfl, by decide, Or.inl (ev_mem 1833 (by decide +kernel) (by decide +kernel))⟩
theorem vv3_8_13 : zP3 8 13 8 1 := Or.inr ⟨by decide, RX9, TX9, 28, rfl, by decide, Or.inl (ev_mem 1834 (by decide +kernel) (by decide +kernel))⟩
theorem vv3_8_16 : zP3 8 16 8 2 := Or.inr ⟨by decide, RX9, TX9, 28, rfl, by decide, Or.inl (ev_mem 1835 (by decide +kernel) (by decide +kernel))⟩
theorem vv3_8_19 : zP3 8 19 8 3 := Or.inr ⟨by decide, RX9, TX9, 28, rfl, by decide, Or.inl (ev_mem 1836 (by decide +kernel) (by decide +kernel))⟩
theorem vv3_8_22 : zP3 8 22 8 4 := Or.inr ⟨by decide, RX9, TX9, 28, rfl, by decide, Or.inl (ev_mem 1837 (by decide +kernel) (by decide +kernel))⟩
theorem vv3_8_25 : zP3 8 25 8 5 := Or.inr ⟨by decide, RX9, TX9, 28, rfl, by decide, Or.inl (ev_mem 1838 (by decide +kernel) (by decide +kernel))⟩
theorem vv3_8_28 : zP3 8 28 8 8 := Or.inr ⟨by decide, RX9, TX9, 28, rfl, by decide, Or.inl (ev_mem 1841 (by decide +kernel) (by decide +kernel))⟩
theorem vv3_8_32 : zP3 8 32 8 21 := Or.inr ⟨by decide, RX9, TX9, 28, rfl, by decide, Or.inl (ev_mem 1854 (by decide +kernel) (by decide +kernel))⟩
theorem vv3_8_35 : zP3 8 35 8 23 := Or.inr ⟨by decide, RX9, TX9, 28, rfl, by decide, Or.inl (ev_mem 1856 (by decide +kernel) (by decide +kernel))⟩
theorem vv3_8_38 : zP3 8 38 8 24 := Or.inr ⟨by decide, RX9, TX9, 28, rfl, by decide, Or.inl (ev_mem 1857 (by decide +kernel) (by decide +kernel))⟩
theorem vv3_8_41 : zP3 8 41 8 7 := Or.inr ⟨by decide, RX9, TX9, 28, rfl, by decide, Or.inl (ev_mem 1840 (by decide +kernel) (by decide +kernel))⟩
theorem vv3_8_48 : zP3 8 48 8 12 := Or.inr ⟨by decide, RX9, TX9, 28, rfl, by decide, Or.inl (ev_mem 1845 (by decide +kernel) (by decide +kernel))⟩
theorem vv3_8_51 : zP3 8 51 8 9 := Or.inr ⟨by decide, RX9, TX9, 28, rfl, by decide, Or.inl (ev_mem 1842 (by decide +kernel) (by decide +kernel))⟩
theorem vv3_8_54 : zP3 8 54 8 13 := Or.inr ⟨by decide, RX9, TX9, 28, rfl, by decide, Or.inl (ev_mem 1846 (by decide +kernel) (by decide +kernel))⟩
theorem vv3_8_57 : zP3 8 57 8 10 := Or.inr ⟨by decide, RX9, TX9, 28, rfl, by decide, Or.inl (ev_mem 1843 (by decide +kernel) (by decide +kernel))⟩
theorem vv3_8_60 : zP3 8 60 8 11 := Or.inr ⟨by decide, RX9, TX9, 28, rfl, by decide, Or.inl (ev_mem 1844 (by decide +kernel) (by decide +kernel))⟩
theorem vv3_8_63 : zP3 8 63 8 6 := Or.inr ⟨by decide, RX9, TX9, 28, rfl, by decide, Or.inl (ev_mem 1839 (by decide +kernel) (by decide +kernel))⟩
theorem vv3_8_135 : zP3 8 135 8 17 := Or.inr ⟨by decide, RX9, TX9, 28, rfl, by decide, Or.inl (ev_mem 1850 (by decide +kernel) (by decide +kernel))⟩
theorem vv3_8_138 : zP3 8 138 8 18 := Or.inr ⟨by decide, RX9, TX9, 28, rfl, by decide, Or.inl (ev_mem 1851 (by decide +kernel) (by decide +kernel))⟩
theorem vv3_8_141 : zP3 8 141 8 15 := Or.inr ⟨by decide, RX9, TX9, 28, rfl, by decide, Or.inl (ev_mem 1848 (by decide +kernel) (by decide +kernel))⟩
theorem vv3_8_150 : zP3 8 150 8 16 := Or.inr ⟨by decide, RX9, TX9, 28, rfl, by decide, Or.inl (ev_mem 1849 (by decide +kernel) (by decide +kernel))⟩
theorem vv3_8_197 : zP3 8 197 8 19 := Or.inr ⟨by decide, RX9, TX9, 28, rfl, by decide, Or.inl (ev_mem 1852 (by decide +kernel) (by decide +kernel))⟩
theorem vv3_8_215 : zP3 8 215 8 14 := Or.inr ⟨by decide, RX9, TX9, 28, rfl, by decide, Or.inl (ev_mem 1847 (by decide +kernel) (by decide +kernel))⟩
theorem vv3_8_244 : zP3 8 244 8 22 := Or.inr ⟨by decide, RX9, TX9, 28, rfl, by decide, Or.inl (ev_mem 1855 (by decide +kernel) (by decide +kernel))⟩
theorem vv3_8_253 : zP3 8 253 8 25 := Or.inr ⟨by decide, RX9, TX9, 28, rfl, by decide, Or.inl (ev_mem 1858 (by decide +kernel) (by decide +kernel))⟩
theorem vv3_8_256 : zP3 8 256 8 26 := Or.inr ⟨by decide, RX9, TX9, 28, rfl, by decide, Or.inl (ev_mem 1859 (by decide +kernel) (by decide +kernel))⟩
theorem vv3_8_302 : zP3 8 302 8 27 := Or.inr ⟨by decide, RX9, TX9, 28, rfl, by decide, Or.inl (ev_mem 1860 (by decide +kernel) (by decide +kernel))⟩
theorem vv3_8_323 : zP3 8 323 8 20 := Or.inr ⟨by decide, RX9, TX9, 28, rfl, by decide, Or.inl (ev_mem 1853 (by decide +kernel) (by decide +kernel))⟩
theorem vv3_l8 : ∀ q ∈ fl_8, zP3 8 q.1 q.2.1 q.2.2.1 := List.forall_mem_cons.mpr ⟨vv3_8_9, List.forall_mem_cons.mpr ⟨vv3_8_13, List.forall_mem_cons.mpr ⟨vv3_8_16, List.forall_mem_cons.mpr ⟨vv3_8_19, List.forall_mem_cons.mpr ⟨vv3_8_22, List.forall_mem_cons.mpr ⟨vv3_8_25, List.forall_mem_cons.mpr ⟨vv3_8_28, List.forall_mem_cons.mpr ⟨vv3_8_32, List.forall_mem_cons.mpr ⟨vv3_8_35, List.forall_mem_cons.mpr ⟨vv3_8_38, List.forall_mem_cons.mpr ⟨vv3_8_41, List.forall_mem_cons.mpr ⟨vv3_8_48, List.forall_mem_cons.mpr ⟨vv3_8_51, List.forall_mem_cons.mpr ⟨vv3_8_54, List.forall_mem_cons.mpr ⟨vv3_8_57, List.forall_mem_cons.mpr ⟨vv3_8_60, List.forall_mem_cons.mpr ⟨vv3_8_63, List.forall_mem_cons.mpr ⟨vv3_8_135, List.forall_mem_cons.mpr ⟨vv3_8_138, List.forall_mem_cons.mpr ⟨vv3_8_141, List.forall_mem_cons.mpr ⟨vv3_8_150, List.forall_mem_cons.mpr ⟨vv3_8_197, List.forall_mem_cons.mpr ⟨vv3_8_215, List.forall_mem_cons.mpr ⟨vv3_8_244, List.forall_mem_cons.mpr ⟨vv3_8_253, List.forall_mem_cons.mpr ⟨vv3_8_256, List.forall_mem_cons.mpr ⟨vv3_8_302, List.forall_mem_cons.mpr ⟨vv3_8_323, fun _ h => absurd h List.not_mem_nil⟩⟩⟩⟩⟩⟩⟩⟩⟩⟩⟩⟩⟩⟩⟩⟩⟩⟩⟩⟩⟩⟩⟩⟩⟩⟩⟩⟩
theorem vv3_12_15 : zP3 12 15 9 0 := Or.inr ⟨by decide, RJ4, TJ4, 4, rfl, by decide, Or.inl (ev_mem 357 (by decide +kernel) (by decide +kernel))⟩
theorem vv3_12_22 : zP3 12 22 9 1 := Or.inr ⟨by decide, RJ4, TJ4, 4, rfl, by decide, Or.inl (ev_mem 358 (by decide +kernel) (by decide +kernel))⟩
theorem vv3_12_73 : zP3 12 73 9 2 := Or.inr ⟨by decide, RJ4, TJ4, 4, rfl, by decide, Or.inl (ev_mem 359 (by decide +kernel) (by decide +kernel))⟩
theorem vv3_12_79 : zP3 12 79 9 3 := Or.inr ⟨by decide, RJ4, TJ4, 4, rfl, by decide, Or.inl (ev_mem 361 (by decide +kernel) (by decide +kernel))⟩
theorem vv3_l12 : ∀ q ∈ fl_12, zP3 12 q.1 q.2.1 q.2.2.1 := List.forall_mem_cons.mpr ⟨vv3_12_15, List.forall_mem_cons.mpr ⟨vv3_12_22, List.forall_mem_cons.mpr ⟨vv3_12_73, List.forall_mem_cons.mpr ⟨vv3_12_79, fun _ h => absurd h List.not_mem_nil⟩⟩⟩⟩
theorem vv3_50_9 : zP3 50 9 50 0 := Or.inl ⟨rfl, by decide, (ev_mem 1505 (by decide +kernel) (by decide +kernel))⟩
theorem vv3_50_15 : zP3 50 15 50 1 := Or.inl ⟨rfl, by decide, (ev_mem 1506 (by decide +kernel) (by decide +kernel))⟩
theorem vv3_50_1048 : zP3 50 1048 9 2 := Or.inr ⟨by decide, RJ4, TJ4, 4, rfl, by decide, Or.inl (ev_mem 360 (by decide +kernel) (by decide +kernel))⟩
theorem vv3_l50 : ∀ q ∈ fl_50, zP3 50 q.1 q.2.1 q.2.2.1 := List.forall_mem_cons.mpr ⟨vv3_50_9, List.forall_mem_cons.mpr ⟨vv3_50_15, List.forall_mem_cons.mpr ⟨vv3_50_1048, fun _ h => absurd h List.not_mem_nil⟩⟩⟩
theorem vv3_t : ∀ z ∈ fl_t, ∀ q ∈ z.2, zP3 z.1 q.1 q.2.1 q.2.2.1 := List.forall_mem_cons.mpr ⟨vv3_l0, List.forall_mem_cons.mpr ⟨vv3_l1, List.forall_mem_cons.mpr ⟨vv3_l2, List.forall_mem_cons.mpr ⟨vv3_l3, List.forall_mem_cons.mpr ⟨vv3_l4, List.forall_mem_cons.mpr ⟨vv3_l5, List.forall_mem_cons.mpr ⟨vv3_l6, List.forall_mem_cons.mpr ⟨vv3_l7, List.forall_mem_cons.mpr ⟨vv3_l8, List.forall_mem_cons.mpr ⟨vv3_l12, List.forall_mem_cons.mpr ⟨vv3_l50, fun _ h => absurd h List.not_mem_nil⟩⟩⟩⟩⟩⟩⟩⟩⟩⟩⟩
theorem vV3 (xs : List Int32) (v9 : Value) : ev_V3 (ev_G0 xs v9) (ev_B0 v9) := by
  intro k i ci sl h
  obtain ⟨l, q, h1, h2, h3⟩ := ev_lkF h
  have h4 := vv3_t (k, l) h1 (i, q) h2
  cases h3
  exact h4
