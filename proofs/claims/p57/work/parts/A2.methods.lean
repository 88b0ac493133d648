/-! each method stands in the tables, with the instructions that are listed; laid by a program -/
set_option maxRecDepth 100000 in
theorem k_X8_writeRow (v9 : Value) : ev_MK (ev_B0 v9) m_X8_writeRow := ⟨by decide +kernel, ev_dec_all _ _ (by decide +kernel), rfl, Or.inl rfl, ev_mem 116 (by decide +kernel) (by decide +kernel)⟩
set_option maxRecDepth 100000 in
theorem k_J4_setLength_d00df (v9 : Value) : ev_MK (ev_B0 v9) m_J4_setLength_d00df := ⟨by decide +kernel, ev_dec_all _ _ (by decide +kernel), rfl, Or.inl rfl, ev_mem 194 (by decide +kernel) (by decide +kernel)⟩
set_option maxRecDepth 100000 in
theorem k_J5_setLength_d00df (v9 : Value) : ev_MK (ev_B0 v9) m_J5_setLength_d00df := ⟨by decide +kernel, ev_dec_all _ _ (by decide +kernel), rfl, Or.inl rfl, ev_mem 198 (by decide +kernel) (by decide +kernel)⟩
set_option maxRecDepth 100000 in
theorem k_J4_init_da8c8 (v9 : Value) : ev_MK (ev_B0 v9) m_J4_init_da8c8 := ⟨by decide +kernel, ev_dec_all _ _ (by decide +kernel), rfl, Or.inl rfl, ev_mem 208 (by decide +kernel) (by decide +kernel)⟩
set_option maxRecDepth 100000 in
theorem k_J5_init_d00df (v9 : Value) : ev_MK (ev_B0 v9) m_J5_init_d00df := ⟨by decide +kernel, ev_dec_all _ _ (by decide +kernel), rfl, Or.inl rfl, ev_mem 211 (by decide +kernel) (by decide +kernel)⟩
set_option maxRecDepth 100000 in
theorem k_J4_append_15ec4 (v9 : Value) : ev_MK (ev_B0 v9) m_J4_append_15ec4 := ⟨by decide +kernel, ev_dec_all _ _ (by decide +kernel), rfl, Or.inl rfl, ev_mem 239 (by decide +kernel) (by decide +kernel)⟩
set_option maxRecDepth 100000 in
theorem k_J5_append_cf1ce (v9 : Value) : ev_MK (ev_B0 v9) m_J5_append_cf1ce := ⟨by decide +kernel, ev_dec_all _ _ (by decide +kernel), rfl, Or.inl rfl, ev_mem 242 (by decide +kernel) (by decide +kernel)⟩
set_option maxRecDepth 100000 in
theorem k_J5_appendNull_278bc (v9 : Value) : ev_MK (ev_B0 v9) m_J5_appendNull_278bc := ⟨by decide +kernel, ev_dec_all _ _ (by decide +kernel), rfl, Or.inl rfl, ev_mem 246 (by decide +kernel) (by decide +kernel)⟩
set_option maxRecDepth 100000 in
theorem k_J5_ensureCapacityInternal_d00df (v9 : Value) : ev_MK (ev_B0 v9) m_J5_ensureCapacityInternal_d00df := ⟨by decide +kernel, ev_dec_all _ _ (by decide +kernel), rfl, Or.inl rfl, ev_mem 250 (by decide +kernel) (by decide +kernel)⟩
set_option maxRecDepth 100000 in
theorem k_J5_newCapacity_0f7a4 (v9 : Value) : ev_MK (ev_B0 v9) m_J5_newCapacity_0f7a4 := ⟨by decide +kernel, ev_dec_all _ _ (by decide +kernel), rfl, Or.inl rfl, ev_mem 254 (by decide +kernel) (by decide +kernel)⟩
set_option maxRecDepth 100000 in
theorem k_J8_newLength_cabcc (v9 : Value) : ev_MK (ev_B0 v9) m_J8_newLength_cabcc := ⟨by decide +kernel, ev_dec_all _ _ (by decide +kernel), rfl, Or.inl rfl, ev_mem 257 (by decide +kernel) (by decide +kernel)⟩
set_option maxRecDepth 100000 in
theorem k_J8_hugeLength_7cf53 (v9 : Value) : ev_MK (ev_B0 v9) m_J8_hugeLength_7cf53 := ⟨by decide +kernel, ev_dec_all _ _ (by decide +kernel), rfl, Or.inl rfl, ev_mem 264 (by decide +kernel) (by decide +kernel)⟩
set_option maxRecDepth 100000 in
theorem k_J7_copyOf_9075b (v9 : Value) : ev_MK (ev_B0 v9) m_J7_copyOf_9075b := ⟨by decide +kernel, ev_dec_all _ _ (by decide +kernel), rfl, Or.inl rfl, ev_mem 268 (by decide +kernel) (by decide +kernel)⟩
set_option maxRecDepth 100000 in
theorem k_J5_isLatin1_aae02 (v9 : Value) : ev_MK (ev_B0 v9) m_J5_isLatin1_aae02 := ⟨by decide +kernel, ev_dec_all _ _ (by decide +kernel), rfl, Or.inl rfl, ev_mem 286 (by decide +kernel) (by decide +kernel)⟩
set_option maxRecDepth 100000 in
theorem k_J0_checkBoundsBeginEnd_23922 (v9 : Value) : ev_MK (ev_B0 v9) m_J0_checkBoundsBeginEnd_23922 := ⟨by decide +kernel, ev_dec_all _ _ (by decide +kernel), rfl, Or.inl rfl, ev_mem 298 (by decide +kernel) (by decide +kernel)⟩
set_option maxRecDepth 100000 in
theorem k_J3_checkFromToIndex_8c36e (v9 : Value) : ev_MK (ev_B0 v9) m_J3_checkFromToIndex_8c36e := ⟨by decide +kernel, ev_dec_all _ _ (by decide +kernel), rfl, Or.inl rfl, ev_mem 303 (by decide +kernel) (by decide +kernel)⟩
set_option maxRecDepth 100000 in
theorem k_J0_length_8abf5 (v9 : Value) : ev_MK (ev_B0 v9) m_J0_length_8abf5 := ⟨by decide +kernel, ev_dec_all _ _ (by decide +kernel), rfl, Or.inl rfl, ev_mem 316 (by decide +kernel) (by decide +kernel)⟩
set_option maxRecDepth 100000 in
theorem k_J0_coder_7d493 (v9 : Value) : ev_MK (ev_B0 v9) m_J0_coder_7d493 := ⟨by decide +kernel, ev_dec_all _ _ (by decide +kernel), rfl, Or.inl rfl, ev_mem 320 (by decide +kernel) (by decide +kernel)⟩
set_option maxRecDepth 100000 in
theorem k_J5_putStringAt_47b60 (v9 : Value) : ev_MK (ev_B0 v9) m_J5_putStringAt_47b60 := ⟨by decide +kernel, ev_dec_all _ _ (by decide +kernel), rfl, Or.inl rfl, ev_mem 325 (by decide +kernel) (by decide +kernel)⟩
set_option maxRecDepth 100000 in
theorem k_J5_inflateIfNeededFor_a7421 (v9 : Value) : ev_MK (ev_B0 v9) m_J5_inflateIfNeededFor_a7421 := ⟨by decide +kernel, ev_dec_all _ _ (by decide +kernel), rfl, Or.inl rfl, ev_mem 329 (by decide +kernel) (by decide +kernel)⟩
set_option maxRecDepth 100000 in
theorem k_J5_inflate_da8c8 (v9 : Value) : ev_MK (ev_B0 v9) m_J5_inflate_da8c8 := ⟨by decide +kernel, ev_dec_all _ _ (by decide +kernel), rfl, Or.inl rfl, ev_mem 334 (by decide +kernel) (by decide +kernel)⟩
set_option maxRecDepth 100000 in
theorem k_J1_inflate_0e8fd (v9 : Value) : ev_MK (ev_B0 v9) m_J1_inflate_0e8fd := ⟨by decide +kernel, ev_dec_all _ _ (by decide +kernel), rfl, Or.inl rfl, ev_mem 337 (by decide +kernel) (by decide +kernel)⟩
set_option maxRecDepth 100000 in
theorem k_J0_checkBoundsOffCount_cabcc (v9 : Value) : ev_MK (ev_B0 v9) m_J0_checkBoundsOffCount_cabcc := ⟨by decide +kernel, ev_dec_all _ _ (by decide +kernel), rfl, Or.inl rfl, ev_mem 346 (by decide +kernel) (by decide +kernel)⟩
set_option maxRecDepth 100000 in
theorem k_J3_checkFromIndexSize_8c36e (v9 : Value) : ev_MK (ev_B0 v9) m_J3_checkFromIndexSize_8c36e := ⟨by decide +kernel, ev_dec_all _ _ (by decide +kernel), rfl, Or.inl rfl, ev_mem 349 (by decide +kernel) (by decide +kernel)⟩
set_option maxRecDepth 100000 in
theorem k_J0_getBytes_840e7 (v9 : Value) : ev_MK (ev_B0 v9) m_J0_getBytes_840e7 := ⟨by decide +kernel, ev_dec_all _ _ (by decide +kernel), rfl, Or.inl rfl, ev_mem 353 (by decide +kernel) (by decide +kernel)⟩
set_option maxRecDepth 100000 in
theorem k_J4_append_bf812 (v9 : Value) : ev_MK (ev_B0 v9) m_J4_append_bf812 := ⟨by decide +kernel, ev_dec_all _ _ (by decide +kernel), rfl, Or.inl rfl, ev_mem 359 (by decide +kernel) (by decide +kernel)⟩
set_option maxRecDepth 100000 in
theorem k_J5_append_c97b9 (v9 : Value) : ev_MK (ev_B0 v9) m_J5_append_c97b9 := ⟨by decide +kernel, ev_dec_all _ _ (by decide +kernel), rfl, Or.inl rfl, ev_mem 362 (by decide +kernel) (by decide +kernel)⟩
set_option maxRecDepth 100000 in
theorem k_J6_stringSize_0f7a4 (v9 : Value) : ev_MK (ev_B0 v9) m_J6_stringSize_0f7a4 := ⟨by decide +kernel, ev_dec_all _ _ (by decide +kernel), rfl, Or.inl rfl, ev_mem 365 (by decide +kernel) (by decide +kernel)⟩
set_option maxRecDepth 100000 in
theorem k_J6_getChars_ba4f3 (v9 : Value) : ev_MK (ev_B0 v9) m_J6_getChars_ba4f3 := ⟨by decide +kernel, ev_dec_all _ _ (by decide +kernel), rfl, Or.inl rfl, ev_mem 368 (by decide +kernel) (by decide +kernel)⟩
set_option maxRecDepth 100000 in
theorem k_J4_toString_0e30d (v9 : Value) : ev_MK (ev_B0 v9) m_J4_toString_0e30d := ⟨by decide +kernel, ev_dec_all _ _ (by decide +kernel), rfl, Or.inl rfl, ev_mem 384 (by decide +kernel) (by decide +kernel)⟩
set_option maxRecDepth 100000 in
theorem k_J0_init_81219 (v9 : Value) : ev_MK (ev_B0 v9) m_J0_init_81219 := ⟨by decide +kernel, ev_dec_all _ _ (by decide +kernel), rfl, Or.inl rfl, ev_mem 389 (by decide +kernel) (by decide +kernel)⟩
set_option maxRecDepth 100000 in
theorem k_J0_init_db425 (v9 : Value) : ev_MK (ev_B0 v9) m_J0_init_db425 := ⟨by decide +kernel, ev_dec_all _ _ (by decide +kernel), rfl, Or.inl rfl, ev_mem 392 (by decide +kernel) (by decide +kernel)⟩
set_option maxRecDepth 100000 in
theorem k_J5_getValue_6d5f1 (v9 : Value) : ev_MK (ev_B0 v9) m_J5_getValue_6d5f1 := ⟨by decide +kernel, ev_dec_all _ _ (by decide +kernel), rfl, Or.inl rfl, ev_mem 398 (by decide +kernel) (by decide +kernel)⟩
set_option maxRecDepth 100000 in
theorem k_J4_length_8abf5 (v9 : Value) : ev_MK (ev_B0 v9) m_J4_length_8abf5 := ⟨by decide +kernel, ev_dec_all _ _ (by decide +kernel), rfl, Or.inl rfl, ev_mem 404 (by decide +kernel) (by decide +kernel)⟩
set_option maxRecDepth 100000 in
theorem k_J5_length_8abf5 (v9 : Value) : ev_MK (ev_B0 v9) m_J5_length_8abf5 := ⟨by decide +kernel, ev_dec_all _ _ (by decide +kernel), rfl, Or.inl rfl, ev_mem 406 (by decide +kernel) (by decide +kernel)⟩
set_option maxRecDepth 100000 in
theorem k_J7_copyOfRange_39247 (v9 : Value) : ev_MK (ev_B0 v9) m_J7_copyOfRange_39247 := ⟨by decide +kernel, ev_dec_all _ _ (by decide +kernel), rfl, Or.inl rfl, ev_mem 410 (by decide +kernel) (by decide +kernel)⟩
set_option maxRecDepth 100000 in
theorem k_J7_copyOfRangeByte_39247 (v9 : Value) : ev_MK (ev_B0 v9) m_J7_copyOfRangeByte_39247 := ⟨by decide +kernel, ev_dec_all _ _ (by decide +kernel), rfl, Or.inl rfl, ev_mem 413 (by decide +kernel) (by decide +kernel)⟩
set_option maxRecDepth 100000 in
theorem k_J7_checkLength_df160 (v9 : Value) : ev_MK (ev_B0 v9) m_J7_checkLength_df160 := ⟨by decide +kernel, ev_dec_all _ _ (by decide +kernel), rfl, Or.inl rfl, ev_mem 416 (by decide +kernel) (by decide +kernel)⟩
set_option maxRecDepth 100000 in
theorem k_J1_fillNull_b72d1 (v9 : Value) : ev_MK (ev_B0 v9) m_J1_fillNull_b72d1 := ⟨by decide +kernel, ev_dec_all _ _ (by decide +kernel), rfl, Or.inl rfl, ev_mem 472 (by decide +kernel) (by decide +kernel)⟩
set_option maxRecDepth 100000 in
theorem k_J7_fill_eb02e (v9 : Value) : ev_MK (ev_B0 v9) m_J7_fill_eb02e := ⟨by decide +kernel, ev_dec_all _ _ (by decide +kernel), rfl, Or.inl rfl, ev_mem 475 (by decide +kernel) (by decide +kernel)⟩
set_option maxRecDepth 100000 in
theorem k_J7_rangeCheck_23922 (v9 : Value) : ev_MK (ev_B0 v9) m_J7_rangeCheck_23922 := ⟨by decide +kernel, ev_dec_all _ _ (by decide +kernel), rfl, Or.inl rfl, ev_mem 478 (by decide +kernel) (by decide +kernel)⟩
set_option maxRecDepth 100000 in
theorem k_X8_at_ (v9 : Value) : ev_MK (ev_B0 v9) m_X8_at_ := ⟨by decide +kernel, ev_dec_all _ _ (by decide +kernel), rfl, Or.inl rfl, ev_mem 511 (by decide +kernel) (by decide +kernel)⟩
set_option maxRecDepth 100000 in
theorem k_X2_findCat (v9 : Value) : ev_MK (ev_B0 v9) m_X2_findCat := ⟨by decide +kernel, ev_dec_all _ _ (by decide +kernel), rfl, Or.inl rfl, ev_mem 516 (by decide +kernel) (by decide +kernel)⟩
set_option maxRecDepth 100000 in
theorem k_X8_at (v9 : Value) : ev_MK (ev_B0 v9) m_X8_at := ⟨by decide +kernel, ev_dec_all _ _ (by decide +kernel), rfl, Or.inl rfl, ev_mem 519 (by decide +kernel) (by decide +kernel)⟩
set_option maxRecDepth 100000 in
theorem k_X8_digitOf (v9 : Value) : ev_MK (ev_B0 v9) m_X8_digitOf := ⟨by decide +kernel, ev_dec_all _ _ (by decide +kernel), rfl, Or.inl rfl, ev_mem 522 (by decide +kernel) (by decide +kernel)⟩
set_option maxRecDepth 100000 in
theorem k_J4_append_cf468 (v9 : Value) : ev_MK (ev_B0 v9) m_J4_append_cf468 := ⟨by decide +kernel, ev_dec_all _ _ (by decide +kernel), rfl, Or.inl rfl, ev_mem 526 (by decide +kernel) (by decide +kernel)⟩
set_option maxRecDepth 100000 in
theorem k_J5_append_3fe6f (v9 : Value) : ev_MK (ev_B0 v9) m_J5_append_3fe6f := ⟨by decide +kernel, ev_dec_all _ _ (by decide +kernel), rfl, Or.inl rfl, ev_mem 529 (by decide +kernel) (by decide +kernel)⟩
set_option maxRecDepth 100000 in
theorem k_J1_canEncode_fc78d (v9 : Value) : ev_MK (ev_B0 v9) m_J1_canEncode_fc78d := ⟨by decide +kernel, ev_dec_all _ _ (by decide +kernel), rfl, Or.inl rfl, ev_mem 532 (by decide +kernel) (by decide +kernel)⟩
set_option maxRecDepth 100000 in
theorem k_J0_checkIndex_df160 (v9 : Value) : ev_MK (ev_B0 v9) m_J0_checkIndex_df160 := ⟨by decide +kernel, ev_dec_all _ _ (by decide +kernel), rfl, Or.inl rfl, ev_mem 541 (by decide +kernel) (by decide +kernel)⟩
set_option maxRecDepth 100000 in
theorem k_J3_checkIndex_8e157 (v9 : Value) : ev_MK (ev_B0 v9) m_J3_checkIndex_8e157 := ⟨by decide +kernel, ev_dec_all _ _ (by decide +kernel), rfl, Or.inl rfl, ev_mem 544 (by decide +kernel) (by decide +kernel)⟩
set_option maxRecDepth 100000 in
theorem k_X8_saveSnapshot (v9 : Value) : ev_MK (ev_B0 v9) m_X8_saveSnapshot := ⟨by decide +kernel, ev_dec_all _ _ (by decide +kernel), rfl, Or.inl rfl, ev_mem 549 (by decide +kernel) (by decide +kernel)⟩
set_option maxRecDepth 100000 in
theorem k_X2_copyFrom (v9 : Value) : ev_MK (ev_B0 v9) m_X2_copyFrom := ⟨by decide +kernel, ev_dec_all _ _ (by decide +kernel), rfl, Or.inl rfl, ev_mem 553 (by decide +kernel) (by decide +kernel)⟩
set_option maxRecDepth 100000 in
theorem k_X8_copy_ (v9 : Value) : ev_MK (ev_B0 v9) m_X8_copy_ := ⟨by decide +kernel, ev_dec_all _ _ (by decide +kernel), rfl, Or.inl rfl, ev_mem 556 (by decide +kernel) (by decide +kernel)⟩
set_option maxRecDepth 100000 in
theorem k_X8_copy (v9 : Value) : ev_MK (ev_B0 v9) m_X8_copy := ⟨by decide +kernel, ev_dec_all _ _ (by decide +kernel), rfl, Or.inl rfl, ev_mem 559 (by decide +kernel) (by decide +kernel)⟩
set_option maxRecDepth 100000 in
theorem k_L_setMirror (v9 : Value) : ev_MK (ev_B0 v9) m_L_setMirror := ⟨by decide +kernel, ev_dec_all _ _ (by decide +kernel), rfl, Or.inr rfl, ev_mem 562 (by decide +kernel) (by decide +kernel)⟩
set_option maxRecDepth 100000 in
theorem k_X8_setMirror (v9 : Value) : ev_MK (ev_B0 v9) m_X8_setMirror := ⟨by decide +kernel, ev_dec_all _ _ (by decide +kernel), rfl, Or.inl rfl, ev_mem 571 (by decide +kernel) (by decide +kernel)⟩
set_option maxRecDepth 100000 in
theorem k_X8_requireCell (v9 : Value) : ev_MK (ev_B0 v9) m_X8_requireCell := ⟨by decide +kernel, ev_dec_all _ _ (by decide +kernel), rfl, Or.inl rfl, ev_mem 574 (by decide +kernel) (by decide +kernel)⟩
set_option maxRecDepth 100000 in
theorem k_X8_isCell (v9 : Value) : ev_MK (ev_B0 v9) m_X8_isCell := ⟨by decide +kernel, ev_dec_all _ _ (by decide +kernel), rfl, Or.inl rfl, ev_mem 577 (by decide +kernel) (by decide +kernel)⟩
set_option maxRecDepth 100000 in
theorem k_X8_isContent (v9 : Value) : ev_MK (ev_B0 v9) m_X8_isContent := ⟨by decide +kernel, ev_dec_all _ _ (by decide +kernel), rfl, Or.inl rfl, ev_mem 581 (by decide +kernel) (by decide +kernel)⟩
set_option maxRecDepth 100000 in
theorem k_X2_reasonAgainstMirror (v9 : Value) : ev_MK (ev_B0 v9) m_X2_reasonAgainstMirror := ⟨by decide +kernel, ev_dec_all _ _ (by decide +kernel), rfl, Or.inl rfl, ev_mem 588 (by decide +kernel) (by decide +kernel)⟩
set_option maxRecDepth 100000 in
theorem k_X8_reject (v9 : Value) : ev_MK (ev_B0 v9) m_X8_reject := ⟨by decide +kernel, ev_dec_all _ _ (by decide +kernel), rfl, Or.inl rfl, ev_mem 594 (by decide +kernel) (by decide +kernel)⟩
set_option maxRecDepth 100000 in
theorem k_X3_keep (v9 : Value) : ev_MK (ev_B0 v9) m_X3_keep := ⟨by decide +kernel, ev_dec_all _ _ (by decide +kernel), rfl, Or.inl rfl, ev_mem 615 (by decide +kernel) (by decide +kernel)⟩
set_option maxRecDepth 100000 in
theorem k_X3_mark (v9 : Value) : ev_MK (ev_B0 v9) m_X3_mark := ⟨by decide +kernel, ev_dec_all _ _ (by decide +kernel), rfl, Or.inl rfl, ev_mem 619 (by decide +kernel) (by decide +kernel)⟩
set_option maxRecDepth 100000 in
theorem k_X3_slotOfMarked (v9 : Value) : ev_MK (ev_B0 v9) m_X3_slotOfMarked := ⟨by decide +kernel, ev_dec_all _ _ (by decide +kernel), rfl, Or.inl rfl, ev_mem 623 (by decide +kernel) (by decide +kernel)⟩
set_option maxRecDepth 100000 in
theorem k_X3_keepMarked (v9 : Value) : ev_MK (ev_B0 v9) m_X3_keepMarked := ⟨by decide +kernel, ev_dec_all _ _ (by decide +kernel), rfl, Or.inl rfl, ev_mem 628 (by decide +kernel) (by decide +kernel)⟩
set_option maxRecDepth 100000 in
theorem k_X2_changeContent (v9 : Value) : ev_MK (ev_B0 v9) m_X2_changeContent := ⟨by decide +kernel, ev_dec_all _ _ (by decide +kernel), rfl, Or.inl rfl, ev_mem 632 (by decide +kernel) (by decide +kernel)⟩
set_option maxRecDepth 100000 in
theorem k_X8_put_ (v9 : Value) : ev_MK (ev_B0 v9) m_X8_put_ := ⟨by decide +kernel, ev_dec_all _ _ (by decide +kernel), rfl, Or.inl rfl, ev_mem 636 (by decide +kernel) (by decide +kernel)⟩
set_option maxRecDepth 100000 in
theorem k_X2_countMirrors (v9 : Value) : ev_MK (ev_B0 v9) m_X2_countMirrors := ⟨by decide +kernel, ev_dec_all _ _ (by decide +kernel), rfl, Or.inl rfl, ev_mem 640 (by decide +kernel) (by decide +kernel)⟩
set_option maxRecDepth 100000 in
theorem k_L_leastEffort (v9 : Value) : ev_MK (ev_B0 v9) m_L_leastEffort := ⟨by decide +kernel, ev_dec_all _ _ (by decide +kernel), rfl, Or.inr rfl, ev_mem 646 (by decide +kernel) (by decide +kernel)⟩
set_option maxRecDepth 100000 in
theorem k_X8_leastEffort (v9 : Value) : ev_MK (ev_B0 v9) m_X8_leastEffort := ⟨by decide +kernel, ev_dec_all _ _ (by decide +kernel), rfl, Or.inl rfl, ev_mem 651 (by decide +kernel) (by decide +kernel)⟩
set_option maxRecDepth 100000 in
theorem k_X8_requirePort (v9 : Value) : ev_MK (ev_B0 v9) m_X8_requirePort := ⟨by decide +kernel, ev_dec_all _ _ (by decide +kernel), rfl, Or.inl rfl, ev_mem 654 (by decide +kernel) (by decide +kernel)⟩
set_option maxRecDepth 100000 in
theorem k_X8_isPort (v9 : Value) : ev_MK (ev_B0 v9) m_X8_isPort := ⟨by decide +kernel, ev_dec_all _ _ (by decide +kernel), rfl, Or.inl rfl, ev_mem 657 (by decide +kernel) (by decide +kernel)⟩
set_option maxRecDepth 100000 in
theorem k_X8_requireCat (v9 : Value) : ev_MK (ev_B0 v9) m_X8_requireCat := ⟨by decide +kernel, ev_dec_all _ _ (by decide +kernel), rfl, Or.inl rfl, ev_mem 662 (by decide +kernel) (by decide +kernel)⟩
set_option maxRecDepth 100000 in
theorem k_X1_searchByQueue (v9 : Value) : ev_MK (ev_B0 v9) m_X1_searchByQueue := ⟨by decide +kernel, ev_dec_all _ _ (by decide +kernel), rfl, Or.inl rfl, ev_mem 668 (by decide +kernel) (by decide +kernel)⟩
set_option maxRecDepth 100000 in
theorem k_X1_start (v9 : Value) : ev_MK (ev_B0 v9) m_X1_start := ⟨by decide +kernel, ev_dec_all _ _ (by decide +kernel), rfl, Or.inl rfl, ev_mem 672 (by decide +kernel) (by decide +kernel)⟩
set_option maxRecDepth 100000 in
theorem k_X0_cellAt (v9 : Value) : ev_MK (ev_B0 v9) m_X0_cellAt := ⟨by decide +kernel, ev_dec_all _ _ (by decide +kernel), rfl, Or.inl rfl, ev_mem 675 (by decide +kernel) (by decide +kernel)⟩
set_option maxRecDepth 100000 in
theorem k_X0_directionAt (v9 : Value) : ev_MK (ev_B0 v9) m_X0_directionAt := ⟨by decide +kernel, ev_dec_all _ _ (by decide +kernel), rfl, Or.inl rfl, ev_mem 678 (by decide +kernel) (by decide +kernel)⟩
set_option maxRecDepth 100000 in
theorem k_X0_side (v9 : Value) : ev_MK (ev_B0 v9) m_X0_side := ⟨by decide +kernel, ev_dec_all _ _ (by decide +kernel), rfl, Or.inl rfl, ev_mem 681 (by decide +kernel) (by decide +kernel)⟩
set_option maxRecDepth 100000 in
theorem k_X8_put (v9 : Value) : ev_MK (ev_B0 v9) m_X8_put := ⟨by decide +kernel, ev_dec_all _ _ (by decide +kernel), rfl, Or.inl rfl, ev_mem 684 (by decide +kernel) (by decide +kernel)⟩
set_option maxRecDepth 100000 in
theorem k_X1_putAhead (v9 : Value) : ev_MK (ev_B0 v9) m_X1_putAhead := ⟨by decide +kernel, ev_dec_all _ _ (by decide +kernel), rfl, Or.inl rfl, ev_mem 688 (by decide +kernel) (by decide +kernel)⟩
set_option maxRecDepth 100000 in
theorem k_X1_takeFirst (v9 : Value) : ev_MK (ev_B0 v9) m_X1_takeFirst := ⟨by decide +kernel, ev_dec_all _ _ (by decide +kernel), rfl, Or.inl rfl, ev_mem 692 (by decide +kernel) (by decide +kernel)⟩
set_option maxRecDepth 100000 in
theorem k_X1_goOn (v9 : Value) : ev_MK (ev_B0 v9) m_X1_goOn := ⟨by decide +kernel, ev_dec_all _ _ (by decide +kernel), rfl, Or.inl rfl, ev_mem 697 (by decide +kernel) (by decide +kernel)⟩
set_option maxRecDepth 100000 in
theorem k_X0_reflected (v9 : Value) : ev_MK (ev_B0 v9) m_X0_reflected := ⟨by decide +kernel, ev_dec_all _ _ (by decide +kernel), rfl, Or.inl rfl, ev_mem 701 (by decide +kernel) (by decide +kernel)⟩
set_option maxRecDepth 100000 in
theorem k_X0_opposite (v9 : Value) : ev_MK (ev_B0 v9) m_X0_opposite := ⟨by decide +kernel, ev_dec_all _ _ (by decide +kernel), rfl, Or.inl rfl, ev_mem 704 (by decide +kernel) (by decide +kernel)⟩
set_option maxRecDepth 100000 in
theorem k_X0_neighbour (v9 : Value) : ev_MK (ev_B0 v9) m_X0_neighbour := ⟨by decide +kernel, ev_dec_all _ _ (by decide +kernel), rfl, Or.inl rfl, ev_mem 707 (by decide +kernel) (by decide +kernel)⟩
set_option maxRecDepth 100000 in
theorem k_X1_reach (v9 : Value) : ev_MK (ev_B0 v9) m_X1_reach := ⟨by decide +kernel, ev_dec_all _ _ (by decide +kernel), rfl, Or.inl rfl, ev_mem 711 (by decide +kernel) (by decide +kernel)⟩
set_option maxRecDepth 100000 in
theorem k_X1_putBehind (v9 : Value) : ev_MK (ev_B0 v9) m_X1_putBehind := ⟨by decide +kernel, ev_dec_all _ _ (by decide +kernel), rfl, Or.inl rfl, ev_mem 715 (by decide +kernel) (by decide +kernel)⟩
set_option maxRecDepth 100000 in
theorem k_X1_effortInto (v9 : Value) : ev_MK (ev_B0 v9) m_X1_effortInto := ⟨by decide +kernel, ev_dec_all _ _ (by decide +kernel), rfl, Or.inl rfl, ev_mem 720 (by decide +kernel) (by decide +kernel)⟩
set_option maxRecDepth 100000 in
theorem k_L_portByLength (v9 : Value) : ev_MK (ev_B0 v9) m_L_portByLength := ⟨by decide +kernel, ev_dec_all _ _ (by decide +kernel), rfl, Or.inr rfl, ev_mem 739 (by decide +kernel) (by decide +kernel)⟩
set_option maxRecDepth 100000 in
theorem k_X8_portByLength (v9 : Value) : ev_MK (ev_B0 v9) m_X8_portByLength := ⟨by decide +kernel, ev_dec_all _ _ (by decide +kernel), rfl, Or.inl rfl, ev_mem 743 (by decide +kernel) (by decide +kernel)⟩
set_option maxRecDepth 100000 in
theorem k_X5_follow (v9 : Value) : ev_MK (ev_B0 v9) m_X5_follow := ⟨by decide +kernel, ev_dec_all _ _ (by decide +kernel), rfl, Or.inl rfl, ev_mem 749 (by decide +kernel) (by decide +kernel)⟩
set_option maxRecDepth 100000 in
theorem k_X0_portAt (v9 : Value) : ev_MK (ev_B0 v9) m_X0_portAt := ⟨by decide +kernel, ev_dec_all _ _ (by decide +kernel), rfl, Or.inl rfl, ev_mem 758 (by decide +kernel) (by decide +kernel)⟩
set_option maxRecDepth 100000 in
theorem k_X8_portsAhead (v9 : Value) : ev_MK (ev_B0 v9) m_X8_portsAhead := ⟨by decide +kernel, ev_dec_all _ _ (by decide +kernel), rfl, Or.inl rfl, ev_mem 763 (by decide +kernel) (by decide +kernel)⟩
set_option maxRecDepth 100000 in
theorem k_L_testify (v9 : Value) : ev_MK (ev_B0 v9) m_L_testify := ⟨by decide +kernel, ev_dec_all _ _ (by decide +kernel), rfl, Or.inr rfl, ev_mem 766 (by decide +kernel) (by decide +kernel)⟩
set_option maxRecDepth 100000 in
theorem k_X8_testify (v9 : Value) : ev_MK (ev_B0 v9) m_X8_testify := ⟨by decide +kernel, ev_dec_all _ _ (by decide +kernel), rfl, Or.inl rfl, ev_mem 770 (by decide +kernel) (by decide +kernel)⟩
set_option maxRecDepth 100000 in
theorem k_X8_requireOption (v9 : Value) : ev_MK (ev_B0 v9) m_X8_requireOption := ⟨by decide +kernel, ev_dec_all _ _ (by decide +kernel), rfl, Or.inl rfl, ev_mem 773 (by decide +kernel) (by decide +kernel)⟩
set_option maxRecDepth 100000 in
theorem k_X8_isOption (v9 : Value) : ev_MK (ev_B0 v9) m_X8_isOption := ⟨by decide +kernel, ev_dec_all _ _ (by decide +kernel), rfl, Or.inl rfl, ev_mem 776 (by decide +kernel) (by decide +kernel)⟩
set_option maxRecDepth 100000 in
theorem k_X8_indexOf (v9 : Value) : ev_MK (ev_B0 v9) m_X8_indexOf := ⟨by decide +kernel, ev_dec_all _ _ (by decide +kernel), rfl, Or.inl rfl, ev_mem 781 (by decide +kernel) (by decide +kernel)⟩
set_option maxRecDepth 100000 in
theorem k_X2_hear (v9 : Value) : ev_MK (ev_B0 v9) m_X2_hear := ⟨by decide +kernel, ev_dec_all _ _ (by decide +kernel), rfl, Or.inl rfl, ev_mem 785 (by decide +kernel) (by decide +kernel)⟩
set_option maxRecDepth 100000 in
theorem k_X2_placeIn (v9 : Value) : ev_MK (ev_B0 v9) m_X2_placeIn := ⟨by decide +kernel, ev_dec_all _ _ (by decide +kernel), rfl, Or.inl rfl, ev_mem 789 (by decide +kernel) (by decide +kernel)⟩
set_option maxRecDepth 100000 in
theorem k_X2_optionIn (v9 : Value) : ev_MK (ev_B0 v9) m_X2_optionIn := ⟨by decide +kernel, ev_dec_all _ _ (by decide +kernel), rfl, Or.inl rfl, ev_mem 793 (by decide +kernel) (by decide +kernel)⟩
set_option maxRecDepth 100000 in
theorem k_L_retry (v9 : Value) : ev_MK (ev_B0 v9) m_L_retry := ⟨by decide +kernel, ev_dec_all _ _ (by decide +kernel), rfl, Or.inr rfl, ev_mem 797 (by decide +kernel) (by decide +kernel)⟩
set_option maxRecDepth 100000 in
theorem k_X8_retry (v9 : Value) : ev_MK (ev_B0 v9) m_X8_retry := ⟨by decide +kernel, ev_dec_all _ _ (by decide +kernel), rfl, Or.inl rfl, ev_mem 801 (by decide +kernel) (by decide +kernel)⟩
set_option maxRecDepth 100000 in
theorem k_X2_mayRetry (v9 : Value) : ev_MK (ev_B0 v9) m_X2_mayRetry := ⟨by decide +kernel, ev_dec_all _ _ (by decide +kernel), rfl, Or.inl rfl, ev_mem 805 (by decide +kernel) (by decide +kernel)⟩
set_option maxRecDepth 100000 in
theorem k_X2_startAgain (v9 : Value) : ev_MK (ev_B0 v9) m_X2_startAgain := ⟨by decide +kernel, ev_dec_all _ _ (by decide +kernel), rfl, Or.inl rfl, ev_mem 810 (by decide +kernel) (by decide +kernel)⟩
set_option maxRecDepth 100000 in
theorem k_X2_resetRanking (v9 : Value) : ev_MK (ev_B0 v9) m_X2_resetRanking := ⟨by decide +kernel, ev_dec_all _ _ (by decide +kernel), rfl, Or.inl rfl, ev_mem 814 (by decide +kernel) (by decide +kernel)⟩
set_option maxRecDepth 100000 in
theorem k_L_catByHeard (v9 : Value) : ev_MK (ev_B0 v9) m_L_catByHeard := ⟨by decide +kernel, ev_dec_all _ _ (by decide +kernel), rfl, Or.inr rfl, ev_mem 817 (by decide +kernel) (by decide +kernel)⟩
set_option maxRecDepth 100000 in
theorem k_X8_catByHeard (v9 : Value) : ev_MK (ev_B0 v9) m_X8_catByHeard := ⟨by decide +kernel, ev_dec_all _ _ (by decide +kernel), rfl, Or.inl rfl, ev_mem 821 (by decide +kernel) (by decide +kernel)⟩
set_option maxRecDepth 100000 in
theorem k_X2_catsAhead (v9 : Value) : ev_MK (ev_B0 v9) m_X2_catsAhead := ⟨by decide +kernel, ev_dec_all _ _ (by decide +kernel), rfl, Or.inl rfl, ev_mem 825 (by decide +kernel) (by decide +kernel)⟩
set_option maxRecDepth 100000 in
theorem k_L_undo (v9 : Value) : ev_MK (ev_B0 v9) m_L_undo := ⟨by decide +kernel, ev_dec_all _ _ (by decide +kernel), rfl, Or.inr rfl, ev_mem 828 (by decide +kernel) (by decide +kernel)⟩
set_option maxRecDepth 100000 in
theorem k_X8_undo (v9 : Value) : ev_MK (ev_B0 v9) m_X8_undo := ⟨by decide +kernel, ev_dec_all _ _ (by decide +kernel), rfl, Or.inl rfl, ev_mem 833 (by decide +kernel) (by decide +kernel)⟩
set_option maxRecDepth 100000 in
theorem k_X3_stepBack (v9 : Value) : ev_MK (ev_B0 v9) m_X3_stepBack := ⟨by decide +kernel, ev_dec_all _ _ (by decide +kernel), rfl, Or.inl rfl, ev_mem 853 (by decide +kernel) (by decide +kernel)⟩
set_option maxRecDepth 100000 in
theorem k_X3_returnToMarked (v9 : Value) : ev_MK (ev_B0 v9) m_X3_returnToMarked := ⟨by decide +kernel, ev_dec_all _ _ (by decide +kernel), rfl, Or.inl rfl, ev_mem 857 (by decide +kernel) (by decide +kernel)⟩
set_option maxRecDepth 100000 in
theorem k_L_restoreSnapshot (v9 : Value) : ev_MK (ev_B0 v9) m_L_restoreSnapshot := ⟨by decide +kernel, ev_dec_all _ _ (by decide +kernel), rfl, Or.inr rfl, ev_mem 860 (by decide +kernel) (by decide +kernel)⟩
set_option maxRecDepth 100000 in
theorem k_X8_restoreSnapshot (v9 : Value) : ev_MK (ev_B0 v9) m_X8_restoreSnapshot := ⟨by decide +kernel, ev_dec_all _ _ (by decide +kernel), rfl, Or.inl rfl, ev_mem 864 (by decide +kernel) (by decide +kernel)⟩
set_option maxRecDepth 100000 in
theorem k_L_deliberate (v9 : Value) : ev_MK (ev_B0 v9) m_L_deliberate := ⟨by decide +kernel, ev_dec_all _ _ (by decide +kernel), rfl, Or.inr rfl, ev_mem 868 (by decide +kernel) (by decide +kernel)⟩
set_option maxRecDepth 100000 in
theorem k_X8_deliberate (v9 : Value) : ev_MK (ev_B0 v9) m_X8_deliberate := ⟨by decide +kernel, ev_dec_all _ _ (by decide +kernel), rfl, Or.inl rfl, ev_mem 872 (by decide +kernel) (by decide +kernel)⟩
set_option maxRecDepth 100000 in
theorem k_X8_holdVote (v9 : Value) : ev_MK (ev_B0 v9) m_X8_holdVote := ⟨by decide +kernel, ev_dec_all _ _ (by decide +kernel), rfl, Or.inl rfl, ev_mem 877 (by decide +kernel) (by decide +kernel)⟩
set_option maxRecDepth 100000 in
theorem k_X7_voteInRounds (v9 : Value) : ev_MK (ev_B0 v9) m_X7_voteInRounds := ⟨by decide +kernel, ev_dec_all _ _ (by decide +kernel), rfl, Or.inl rfl, ev_mem 882 (by decide +kernel) (by decide +kernel)⟩
set_option maxRecDepth 100000 in
theorem k_X7_countBallots (v9 : Value) : ev_MK (ev_B0 v9) m_X7_countBallots := ⟨by decide +kernel, ev_dec_all _ _ (by decide +kernel), rfl, Or.inl rfl, ev_mem 886 (by decide +kernel) (by decide +kernel)⟩
set_option maxRecDepth 100000 in
theorem k_X7_findFavourite (v9 : Value) : ev_MK (ev_B0 v9) m_X7_findFavourite := ⟨by decide +kernel, ev_dec_all _ _ (by decide +kernel), rfl, Or.inl rfl, ev_mem 891 (by decide +kernel) (by decide +kernel)⟩
set_option maxRecDepth 100000 in
theorem k_X7_isIn (v9 : Value) : ev_MK (ev_B0 v9) m_X7_isIn := ⟨by decide +kernel, ev_dec_all _ _ (by decide +kernel), rfl, Or.inl rfl, ev_mem 895 (by decide +kernel) (by decide +kernel)⟩
set_option maxRecDepth 100000 in
theorem k_X7_findFewest (v9 : Value) : ev_MK (ev_B0 v9) m_X7_findFewest := ⟨by decide +kernel, ev_dec_all _ _ (by decide +kernel), rfl, Or.inl rfl, ev_mem 899 (by decide +kernel) (by decide +kernel)⟩
set_option maxRecDepth 100000 in
theorem k_X7_findStrongest (v9 : Value) : ev_MK (ev_B0 v9) m_X7_findStrongest := ⟨by decide +kernel, ev_dec_all _ _ (by decide +kernel), rfl, Or.inl rfl, ev_mem 903 (by decide +kernel) (by decide +kernel)⟩
set_option maxRecDepth 100000 in
theorem k_X7_fillStrengths (v9 : Value) : ev_MK (ev_B0 v9) m_X7_fillStrengths := ⟨by decide +kernel, ev_dec_all _ _ (by decide +kernel), rfl, Or.inl rfl, ev_mem 907 (by decide +kernel) (by decide +kernel)⟩
set_option maxRecDepth 100000 in
theorem k_X7_countPairs (v9 : Value) : ev_MK (ev_B0 v9) m_X7_countPairs := ⟨by decide +kernel, ev_dec_all _ _ (by decide +kernel), rfl, Or.inl rfl, ev_mem 911 (by decide +kernel) (by decide +kernel)⟩
set_option maxRecDepth 100000 in
theorem k_X7_pair (v9 : Value) : ev_MK (ev_B0 v9) m_X7_pair := ⟨by decide +kernel, ev_dec_all _ _ (by decide +kernel), rfl, Or.inl rfl, ev_mem 914 (by decide +kernel) (by decide +kernel)⟩
set_option maxRecDepth 100000 in
theorem k_X7_victory (v9 : Value) : ev_MK (ev_B0 v9) m_X7_victory := ⟨by decide +kernel, ev_dec_all _ _ (by decide +kernel), rfl, Or.inl rfl, ev_mem 918 (by decide +kernel) (by decide +kernel)⟩
set_option maxRecDepth 100000 in
theorem k_X7_tableStrength (v9 : Value) : ev_MK (ev_B0 v9) m_X7_tableStrength := ⟨by decide +kernel, ev_dec_all _ _ (by decide +kernel), rfl, Or.inl rfl, ev_mem 922 (by decide +kernel) (by decide +kernel)⟩
set_option maxRecDepth 100000 in
theorem k_X7_holdsAgainstAll (v9 : Value) : ev_MK (ev_B0 v9) m_X7_holdsAgainstAll := ⟨by decide +kernel, ev_dec_all _ _ (by decide +kernel), rfl, Or.inl rfl, ev_mem 928 (by decide +kernel) (by decide +kernel)⟩
set_option maxRecDepth 100000 in
theorem k_X7_findMostPoints (v9 : Value) : ev_MK (ev_B0 v9) m_X7_findMostPoints := ⟨by decide +kernel, ev_dec_all _ _ (by decide +kernel), rfl, Or.inl rfl, ev_mem 932 (by decide +kernel) (by decide +kernel)⟩
set_option maxRecDepth 100000 in
theorem k_X7_countPoints (v9 : Value) : ev_MK (ev_B0 v9) m_X7_countPoints := ⟨by decide +kernel, ev_dec_all _ _ (by decide +kernel), rfl, Or.inl rfl, ev_mem 936 (by decide +kernel) (by decide +kernel)⟩
set_option maxRecDepth 100000 in
theorem k_X7_dominates (v9 : Value) : ev_MK (ev_B0 v9) m_X7_dominates := ⟨by decide +kernel, ev_dec_all _ _ (by decide +kernel), rfl, Or.inl rfl, ev_mem 941 (by decide +kernel) (by decide +kernel)⟩
set_option maxRecDepth 100000 in
theorem k_X7_preferring (v9 : Value) : ev_MK (ev_B0 v9) m_X7_preferring := ⟨by decide +kernel, ev_dec_all _ _ (by decide +kernel), rfl, Or.inl rfl, ev_mem 945 (by decide +kernel) (by decide +kernel)⟩
set_option maxRecDepth 100000 in
theorem k_X8_letterOf (v9 : Value) : ev_MK (ev_B0 v9) m_X8_letterOf := ⟨by decide +kernel, ev_dec_all _ _ (by decide +kernel), rfl, Or.inl rfl, ev_mem 948 (by decide +kernel) (by decide +kernel)⟩
set_option maxRecDepth 100000 in
theorem k_X2_conclude (v9 : Value) : ev_MK (ev_B0 v9) m_X2_conclude := ⟨by decide +kernel, ev_dec_all _ _ (by decide +kernel), rfl, Or.inl rfl, ev_mem 952 (by decide +kernel) (by decide +kernel)⟩
set_option maxRecDepth 100000 in
theorem k_L_winner (v9 : Value) : ev_MK (ev_B0 v9) m_L_winner := ⟨by decide +kernel, ev_dec_all _ _ (by decide +kernel), rfl, Or.inr rfl, ev_mem 955 (by decide +kernel) (by decide +kernel)⟩
set_option maxRecDepth 100000 in
theorem k_X8_pointsWinner (v9 : Value) : ev_MK (ev_B0 v9) m_X8_pointsWinner := ⟨by decide +kernel, ev_dec_all _ _ (by decide +kernel), rfl, Or.inl rfl, ev_mem 959 (by decide +kernel) (by decide +kernel)⟩
set_option maxRecDepth 100000 in
theorem k_X8_requireCats (v9 : Value) : ev_MK (ev_B0 v9) m_X8_requireCats := ⟨by decide +kernel, ev_dec_all _ _ (by decide +kernel), rfl, Or.inl rfl, ev_mem 963 (by decide +kernel) (by decide +kernel)⟩
set_option maxRecDepth 100000 in
theorem k_X8_roundsWinner (v9 : Value) : ev_MK (ev_B0 v9) m_X8_roundsWinner := ⟨by decide +kernel, ev_dec_all _ _ (by decide +kernel), rfl, Or.inl rfl, ev_mem 967 (by decide +kernel) (by decide +kernel)⟩
set_option maxRecDepth 100000 in
theorem k_X8_strengthWinner (v9 : Value) : ev_MK (ev_B0 v9) m_X8_strengthWinner := ⟨by decide +kernel, ev_dec_all _ _ (by decide +kernel), rfl, Or.inl rfl, ev_mem 971 (by decide +kernel) (by decide +kernel)⟩
set_option maxRecDepth 100000 in
theorem k_L_in (v9 : Value) : ev_MK (ev_B0 v9) m_L_in := ⟨by decide +kernel, ev_dec_all _ _ (by decide +kernel), rfl, Or.inl rfl, ev_mem 974 (by decide +kernel) (by decide +kernel)⟩
set_option maxRecDepth 100000 in
theorem k_L_cell (v9 : Value) : ev_MK (ev_B0 v9) m_L_cell := ⟨by decide +kernel, ev_dec_all _ _ (by decide +kernel), rfl, Or.inl rfl, ev_mem 977 (by decide +kernel) (by decide +kernel)⟩
set_option maxRecDepth 100000 in
theorem k_L_adds (v9 : Value) : ev_MK (ev_B0 v9) m_L_adds := ⟨by decide +kernel, ev_dec_all _ _ (by decide +kernel), rfl, Or.inl rfl, ev_mem 983 (by decide +kernel) (by decide +kernel)⟩
set_option maxRecDepth 100000 in
theorem k_L_addCat (v9 : Value) : ev_MK (ev_B0 v9) m_L_addCat := ⟨by decide +kernel, ev_dec_all _ _ (by decide +kernel), rfl, Or.inr rfl, ev_mem 986 (by decide +kernel) (by decide +kernel)⟩
set_option maxRecDepth 100000 in
theorem k_X8_addCat (v9 : Value) : ev_MK (ev_B0 v9) m_X8_addCat := ⟨by decide +kernel, ev_dec_all _ _ (by decide +kernel), rfl, Or.inl rfl, ev_mem 990 (by decide +kernel) (by decide +kernel)⟩
set_option maxRecDepth 100000 in
theorem k_X8_areThreeOptions (v9 : Value) : ev_MK (ev_B0 v9) m_X8_areThreeOptions := ⟨by decide +kernel, ev_dec_all _ _ (by decide +kernel), rfl, Or.inl rfl, ev_mem 993 (by decide +kernel) (by decide +kernel)⟩
set_option maxRecDepth 100000 in
theorem k_X2_reasonAgainstCat (v9 : Value) : ev_MK (ev_B0 v9) m_X2_reasonAgainstCat := ⟨by decide +kernel, ev_dec_all _ _ (by decide +kernel), rfl, Or.inl rfl, ev_mem 998 (by decide +kernel) (by decide +kernel)⟩
set_option maxRecDepth 100000 in
theorem k_X2_seatCat (v9 : Value) : ev_MK (ev_B0 v9) m_X2_seatCat := ⟨by decide +kernel, ev_dec_all _ _ (by decide +kernel), rfl, Or.inl rfl, ev_mem 1004 (by decide +kernel) (by decide +kernel)⟩
set_option maxRecDepth 100000 in
theorem k_X2_rank (v9 : Value) : ev_MK (ev_B0 v9) m_X2_rank := ⟨by decide +kernel, ev_dec_all _ _ (by decide +kernel), rfl, Or.inl rfl, ev_mem 1009 (by decide +kernel) (by decide +kernel)⟩
set_option maxRecDepth 100000 in
theorem k_L_begun (v9 : Value) : ev_MK (ev_B0 v9) m_L_begun := ⟨by decide +kernel, ev_dec_all _ _ (by decide +kernel), rfl, Or.inl rfl, ev_mem 1012 (by decide +kernel) (by decide +kernel)⟩
set_option maxRecDepth 100000 in
theorem k_X8_init (v9 : Value) : ev_MK (ev_B0 v9) m_X8_init := ⟨by decide +kernel, ev_dec_all _ _ (by decide +kernel), rfl, Or.inl rfl, ev_mem 1016 (by decide +kernel) (by decide +kernel)⟩
set_option maxRecDepth 100000 in
theorem k_X2_init (v9 : Value) : ev_MK (ev_B0 v9) m_X2_init := ⟨by decide +kernel, ev_dec_all _ _ (by decide +kernel), rfl, Or.inl rfl, ev_mem 1021 (by decide +kernel) (by decide +kernel)⟩
set_option maxRecDepth 100000 in
theorem k_X3_init (v9 : Value) : ev_MK (ev_B0 v9) m_X3_init := ⟨by decide +kernel, ev_dec_all _ _ (by decide +kernel), rfl, Or.inl rfl, ev_mem 1086 (by decide +kernel) (by decide +kernel)⟩
set_option maxRecDepth 100000 in
theorem k_X5_init (v9 : Value) : ev_MK (ev_B0 v9) m_X5_init := ⟨by decide +kernel, ev_dec_all _ _ (by decide +kernel), rfl, Or.inl rfl, ev_mem 1105 (by decide +kernel) (by decide +kernel)⟩
set_option maxRecDepth 100000 in
theorem k_X4_init (v9 : Value) : ev_MK (ev_B0 v9) m_X4_init := ⟨by decide +kernel, ev_dec_all _ _ (by decide +kernel), rfl, Or.inl rfl, ev_mem 1128 (by decide +kernel) (by decide +kernel)⟩
set_option maxRecDepth 100000 in
theorem k_X1_init (v9 : Value) : ev_MK (ev_B0 v9) m_X1_init := ⟨by decide +kernel, ev_dec_all _ _ (by decide +kernel), rfl, Or.inl rfl, ev_mem 1137 (by decide +kernel) (by decide +kernel)⟩
set_option maxRecDepth 100000 in
theorem k_X7_init (v9 : Value) : ev_MK (ev_B0 v9) m_X7_init := ⟨by decide +kernel, ev_dec_all _ _ (by decide +kernel), rfl, Or.inl rfl, ev_mem 1155 (by decide +kernel) (by decide +kernel)⟩
set_option maxRecDepth 100000 in
theorem k_X6_init (v9 : Value) : ev_MK (ev_B0 v9) m_X6_init := ⟨by decide +kernel, ev_dec_all _ _ (by decide +kernel), rfl, Or.inl rfl, ev_mem 1174 (by decide +kernel) (by decide +kernel)⟩
set_option maxRecDepth 100000 in
theorem k_J0_charAt_5068e (v9 : Value) : ev_MK (ev_B0 v9) m_J0_charAt_5068e := ⟨by decide +kernel, ev_dec_all _ _ (by decide +kernel), rfl, Or.inl rfl, ev_mem 1262 (by decide +kernel) (by decide +kernel)⟩
set_option maxRecDepth 100000 in
theorem k_J0_isLatin1_aae02 (v9 : Value) : ev_MK (ev_B0 v9) m_J0_isLatin1_aae02 := ⟨by decide +kernel, ev_dec_all _ _ (by decide +kernel), rfl, Or.inl rfl, ev_mem 1266 (by decide +kernel) (by decide +kernel)⟩
set_option maxRecDepth 100000 in
theorem k_J1_charAt_3b067 (v9 : Value) : ev_MK (ev_B0 v9) m_J1_charAt_3b067 := ⟨by decide +kernel, ev_dec_all _ _ (by decide +kernel), rfl, Or.inl rfl, ev_mem 1269 (by decide +kernel) (by decide +kernel)⟩
set_option maxRecDepth 100000 in
theorem k_L_setMethod (v9 : Value) : ev_MK (ev_B0 v9) m_L_setMethod := ⟨by decide +kernel, ev_dec_all _ _ (by decide +kernel), rfl, Or.inr rfl, ev_mem 1276 (by decide +kernel) (by decide +kernel)⟩
set_option maxRecDepth 100000 in
theorem k_X8_setMethod (v9 : Value) : ev_MK (ev_B0 v9) m_X8_setMethod := ⟨by decide +kernel, ev_dec_all _ _ (by decide +kernel), rfl, Or.inl rfl, ev_mem 1280 (by decide +kernel) (by decide +kernel)⟩
set_option maxRecDepth 100000 in
theorem k_X8_isMethod (v9 : Value) : ev_MK (ev_B0 v9) m_X8_isMethod := ⟨by decide +kernel, ev_dec_all _ _ (by decide +kernel), rfl, Or.inl rfl, ev_mem 1283 (by decide +kernel) (by decide +kernel)⟩
set_option maxRecDepth 100000 in
theorem k_L_acts (v9 : Value) : ev_MK (ev_B0 v9) m_L_acts := ⟨by decide +kernel, ev_dec_all _ _ (by decide +kernel), rfl, Or.inl rfl, ev_mem 1288 (by decide +kernel) (by decide +kernel)⟩
set_option maxRecDepth 100000 in
theorem k_L_does (v9 : Value) : ev_MK (ev_B0 v9) m_L_does := ⟨by decide +kernel, ev_dec_all _ _ (by decide +kernel), rfl, Or.inl rfl, ev_mem 1310 (by decide +kernel) (by decide +kernel)⟩
set_option maxRecDepth 100000 in
theorem k_X8_appendInput (v9 : Value) : ev_MK (ev_B0 v9) m_X8_appendInput := ⟨by decide +kernel, ev_dec_all _ _ (by decide +kernel), rfl, Or.inl rfl, ev_mem 1315 (by decide +kernel) (by decide +kernel)⟩
set_option maxRecDepth 100000 in
theorem k_L_execute (v9 : Value) : ev_MK (ev_B0 v9) m_L_execute := ⟨by decide +kernel, ev_dec_all _ _ (by decide +kernel), rfl, Or.inr rfl, ev_mem 1321 (by decide +kernel) (by decide +kernel)⟩
set_option maxRecDepth 100000 in
theorem k_X8_execute (v9 : Value) : ev_MK (ev_B0 v9) m_X8_execute := ⟨by decide +kernel, ev_dec_all _ _ (by decide +kernel), rfl, Or.inl rfl, ev_mem 1325 (by decide +kernel) (by decide +kernel)⟩
set_option maxRecDepth 100000 in
theorem k_X6_countCommands (v9 : Value) : ev_MK (ev_B0 v9) m_X6_countCommands := ⟨by decide +kernel, ev_dec_all _ _ (by decide +kernel), rfl, Or.inl rfl, ev_mem 1329 (by decide +kernel) (by decide +kernel)⟩
set_option maxRecDepth 100000 in
theorem k_X6_readCommand (v9 : Value) : ev_MK (ev_B0 v9) m_X6_readCommand := ⟨by decide +kernel, ev_dec_all _ _ (by decide +kernel), rfl, Or.inl rfl, ev_mem 1333 (by decide +kernel) (by decide +kernel)⟩
set_option maxRecDepth 100000 in
theorem k_X6_peek (v9 : Value) : ev_MK (ev_B0 v9) m_X6_peek := ⟨by decide +kernel, ev_dec_all _ _ (by decide +kernel), rfl, Or.inl rfl, ev_mem 1337 (by decide +kernel) (by decide +kernel)⟩
set_option maxRecDepth 100000 in
theorem k_J4_charAt_5068e (v9 : Value) : ev_MK (ev_B0 v9) m_J4_charAt_5068e := ⟨by decide +kernel, ev_dec_all _ _ (by decide +kernel), rfl, Or.inl rfl, ev_mem 1342 (by decide +kernel) (by decide +kernel)⟩
set_option maxRecDepth 100000 in
theorem k_J5_charAt_5068e (v9 : Value) : ev_MK (ev_B0 v9) m_J5_charAt_5068e := ⟨by decide +kernel, ev_dec_all _ _ (by decide +kernel), rfl, Or.inl rfl, ev_mem 1345 (by decide +kernel) (by decide +kernel)⟩
set_option maxRecDepth 100000 in
theorem k_X6_takeWord (v9 : Value) : ev_MK (ev_B0 v9) m_X6_takeWord := ⟨by decide +kernel, ev_dec_all _ _ (by decide +kernel), rfl, Or.inl rfl, ev_mem 1353 (by decide +kernel) (by decide +kernel)⟩
set_option maxRecDepth 100000 in
theorem k_X6_takeNumber (v9 : Value) : ev_MK (ev_B0 v9) m_X6_takeNumber := ⟨by decide +kernel, ev_dec_all _ _ (by decide +kernel), rfl, Or.inl rfl, ev_mem 1359 (by decide +kernel) (by decide +kernel)⟩
set_option maxRecDepth 100000 in
theorem k_X6_isDigit (v9 : Value) : ev_MK (ev_B0 v9) m_X6_isDigit := ⟨by decide +kernel, ev_dec_all _ _ (by decide +kernel), rfl, Or.inl rfl, ev_mem 1362 (by decide +kernel) (by decide +kernel)⟩
set_option maxRecDepth 100000 in
theorem k_X6_takeRanking (v9 : Value) : ev_MK (ev_B0 v9) m_X6_takeRanking := ⟨by decide +kernel, ev_dec_all _ _ (by decide +kernel), rfl, Or.inl rfl, ev_mem 1367 (by decide +kernel) (by decide +kernel)⟩
set_option maxRecDepth 100000 in
theorem k_X6_takeFirst (v9 : Value) : ev_MK (ev_B0 v9) m_X6_takeFirst := ⟨by decide +kernel, ev_dec_all _ _ (by decide +kernel), rfl, Or.inl rfl, ev_mem 1372 (by decide +kernel) (by decide +kernel)⟩
set_option maxRecDepth 100000 in
theorem k_J0_indexOf_0f7a4 (v9 : Value) : ev_MK (ev_B0 v9) m_J0_indexOf_0f7a4 := ⟨by decide +kernel, ev_dec_all _ _ (by decide +kernel), rfl, Or.inl rfl, ev_mem 1376 (by decide +kernel) (by decide +kernel)⟩
set_option maxRecDepth 100000 in
theorem k_J0_indexOf_7cf53 (v9 : Value) : ev_MK (ev_B0 v9) m_J0_indexOf_7cf53 := ⟨by decide +kernel, ev_dec_all _ _ (by decide +kernel), rfl, Or.inl rfl, ev_mem 1380 (by decide +kernel) (by decide +kernel)⟩
set_option maxRecDepth 100000 in
theorem k_J1_indexOf_4cfef (v9 : Value) : ev_MK (ev_B0 v9) m_J1_indexOf_4cfef := ⟨by decide +kernel, ev_dec_all _ _ (by decide +kernel), rfl, Or.inl rfl, ev_mem 1384 (by decide +kernel) (by decide +kernel)⟩
set_option maxRecDepth 100000 in
theorem k_J1_canEncode_9a6ad (v9 : Value) : ev_MK (ev_B0 v9) m_J1_canEncode_9a6ad := ⟨by decide +kernel, ev_dec_all _ _ (by decide +kernel), rfl, Or.inl rfl, ev_mem 1387 (by decide +kernel) (by decide +kernel)⟩
set_option maxRecDepth 100000 in
theorem k_J1_indexOfChar_4cfef (v9 : Value) : ev_MK (ev_B0 v9) m_J1_indexOfChar_4cfef := ⟨by decide +kernel, ev_dec_all _ _ (by decide +kernel), rfl, Or.inl rfl, ev_mem 1392 (by decide +kernel) (by decide +kernel)⟩
set_option maxRecDepth 100000 in
theorem k_X6_readMirrorOrMethod (v9 : Value) : ev_MK (ev_B0 v9) m_X6_readMirrorOrMethod := ⟨by decide +kernel, ev_dec_all _ _ (by decide +kernel), rfl, Or.inl rfl, ev_mem 1423 (by decide +kernel) (by decide +kernel)⟩
set_option maxRecDepth 100000 in
theorem k_X8_runNextCommand (v9 : Value) : ev_MK (ev_B0 v9) m_X8_runNextCommand := ⟨by decide +kernel, ev_dec_all _ _ (by decide +kernel), rfl, Or.inl rfl, ev_mem 1437 (by decide +kernel) (by decide +kernel)⟩
set_option maxRecDepth 100000 in
theorem k_X6_skipSeparator (v9 : Value) : ev_MK (ev_B0 v9) m_X6_skipSeparator := ⟨by decide +kernel, ev_dec_all _ _ (by decide +kernel), rfl, Or.inl rfl, ev_mem 1441 (by decide +kernel) (by decide +kernel)⟩
set_option maxRecDepth 100000 in
theorem k_X8_runCat (v9 : Value) : ev_MK (ev_B0 v9) m_X8_runCat := ⟨by decide +kernel, ev_dec_all _ _ (by decide +kernel), rfl, Or.inl rfl, ev_mem 1446 (by decide +kernel) (by decide +kernel)⟩
set_option maxRecDepth 100000 in
theorem k_X8_runMirror (v9 : Value) : ev_MK (ev_B0 v9) m_X8_runMirror := ⟨by decide +kernel, ev_dec_all _ _ (by decide +kernel), rfl, Or.inl rfl, ev_mem 1450 (by decide +kernel) (by decide +kernel)⟩
set_option maxRecDepth 100000 in
theorem k_X8_runSay (v9 : Value) : ev_MK (ev_B0 v9) m_X8_runSay := ⟨by decide +kernel, ev_dec_all _ _ (by decide +kernel), rfl, Or.inl rfl, ev_mem 1454 (by decide +kernel) (by decide +kernel)⟩
set_option maxRecDepth 100000 in
theorem k_L_seen (v9 : Value) : ev_MK (ev_B0 v9) m_L_seen := ⟨by decide +kernel, ev_dec_all _ _ (by decide +kernel), rfl, Or.inl rfl, ev_mem 1461 (by decide +kernel) (by decide +kernel)⟩
set_option maxRecDepth 100000 in
theorem k_X8_catCount (v9 : Value) : ev_MK (ev_B0 v9) m_X8_catCount := ⟨by decide +kernel, ev_dec_all _ _ (by decide +kernel), rfl, Or.inl rfl, ev_mem 1465 (by decide +kernel) (by decide +kernel)⟩
set_option maxRecDepth 100000 in
theorem k_X8_method (v9 : Value) : ev_MK (ev_B0 v9) m_X8_method := ⟨by decide +kernel, ev_dec_all _ _ (by decide +kernel), rfl, Or.inl rfl, ev_mem 1469 (by decide +kernel) (by decide +kernel)⟩
set_option maxRecDepth 100000 in
theorem k_X8_deliberations (v9 : Value) : ev_MK (ev_B0 v9) m_X8_deliberations := ⟨by decide +kernel, ev_dec_all _ _ (by decide +kernel), rfl, Or.inl rfl, ev_mem 1473 (by decide +kernel) (by decide +kernel)⟩
set_option maxRecDepth 100000 in
theorem k_X8_hungCount (v9 : Value) : ev_MK (ev_B0 v9) m_X8_hungCount := ⟨by decide +kernel, ev_dec_all _ _ (by decide +kernel), rfl, Or.inl rfl, ev_mem 1477 (by decide +kernel) (by decide +kernel)⟩
set_option maxRecDepth 100000 in
theorem k_X8_retrials (v9 : Value) : ev_MK (ev_B0 v9) m_X8_retrials := ⟨by decide +kernel, ev_dec_all _ _ (by decide +kernel), rfl, Or.inl rfl, ev_mem 1481 (by decide +kernel) (by decide +kernel)⟩
set_option maxRecDepth 100000 in
theorem k_X8_testimonies (v9 : Value) : ev_MK (ev_B0 v9) m_X8_testimonies := ⟨by decide +kernel, ev_dec_all _ _ (by decide +kernel), rfl, Or.inl rfl, ev_mem 1485 (by decide +kernel) (by decide +kernel)⟩
set_option maxRecDepth 100000 in
theorem k_X8_hasCause (v9 : Value) : ev_MK (ev_B0 v9) m_X8_hasCause := ⟨by decide +kernel, ev_dec_all _ _ (by decide +kernel), rfl, Or.inl rfl, ev_mem 1489 (by decide +kernel) (by decide +kernel)⟩
set_option maxRecDepth 100000 in
theorem k_X8_contentOf (v9 : Value) : ev_MK (ev_B0 v9) m_X8_contentOf := ⟨by decide +kernel, ev_dec_all _ _ (by decide +kernel), rfl, Or.inl rfl, ev_mem 1493 (by decide +kernel) (by decide +kernel)⟩
set_option maxRecDepth 100000 in
theorem k_X8_cellOf (v9 : Value) : ev_MK (ev_B0 v9) m_X8_cellOf := ⟨by decide +kernel, ev_dec_all _ _ (by decide +kernel), rfl, Or.inl rfl, ev_mem 1497 (by decide +kernel) (by decide +kernel)⟩
set_option maxRecDepth 100000 in
theorem k_X8_heardBy (v9 : Value) : ev_MK (ev_B0 v9) m_X8_heardBy := ⟨by decide +kernel, ev_dec_all _ _ (by decide +kernel), rfl, Or.inl rfl, ev_mem 1501 (by decide +kernel) (by decide +kernel)⟩
set_option maxRecDepth 100000 in
theorem k_X8_optionAt (v9 : Value) : ev_MK (ev_B0 v9) m_X8_optionAt := ⟨by decide +kernel, ev_dec_all _ _ (by decide +kernel), rfl, Or.inl rfl, ev_mem 1505 (by decide +kernel) (by decide +kernel)⟩
set_option maxRecDepth 100000 in
theorem k_L_verdictAt (v9 : Value) : ev_MK (ev_B0 v9) m_L_verdictAt := ⟨by decide +kernel, ev_dec_all _ _ (by decide +kernel), rfl, Or.inr rfl, ev_mem 1510 (by decide +kernel) (by decide +kernel)⟩
set_option maxRecDepth 100000 in
theorem k_X8_verdictAt (v9 : Value) : ev_MK (ev_B0 v9) m_X8_verdictAt := ⟨by decide +kernel, ev_dec_all _ _ (by decide +kernel), rfl, Or.inl rfl, ev_mem 1514 (by decide +kernel) (by decide +kernel)⟩
set_option maxRecDepth 100000 in
theorem k_L_areAlike (v9 : Value) : ev_MK (ev_B0 v9) m_L_areAlike := ⟨by decide +kernel, ev_dec_all _ _ (by decide +kernel), rfl, Or.inl rfl, ev_mem 1518 (by decide +kernel) (by decide +kernel)⟩
set_option maxRecDepth 100000 in
theorem k_L_isWell (v9 : Value) : ev_MK (ev_B0 v9) m_L_isWell := ⟨by decide +kernel, ev_dec_all _ _ (by decide +kernel), rfl, Or.inl rfl, ev_mem 1521 (by decide +kernel) (by decide +kernel)⟩
set_option maxRecDepth 100000 in
theorem k_X8_placeOf (v9 : Value) : ev_MK (ev_B0 v9) m_X8_placeOf := ⟨by decide +kernel, ev_dec_all _ _ (by decide +kernel), rfl, Or.inl rfl, ev_mem 1525 (by decide +kernel) (by decide +kernel)⟩
set_option maxRecDepth 100000 in
theorem k_L_catIn (v9 : Value) : ev_MK (ev_B0 v9) m_L_catIn := ⟨by decide +kernel, ev_dec_all _ _ (by decide +kernel), rfl, Or.inr rfl, ev_mem 1529 (by decide +kernel) (by decide +kernel)⟩
set_option maxRecDepth 100000 in
theorem k_X8_catIn (v9 : Value) : ev_MK (ev_B0 v9) m_X8_catIn := ⟨by decide +kernel, ev_dec_all _ _ (by decide +kernel), rfl, Or.inl rfl, ev_mem 1533 (by decide +kernel) (by decide +kernel)⟩
set_option maxRecDepth 100000 in
theorem k_L_rayEnd (v9 : Value) : ev_MK (ev_B0 v9) m_L_rayEnd := ⟨by decide +kernel, ev_dec_all _ _ (by decide +kernel), rfl, Or.inr rfl, ev_mem 1537 (by decide +kernel) (by decide +kernel)⟩
set_option maxRecDepth 100000 in
theorem k_X8_rayEnd (v9 : Value) : ev_MK (ev_B0 v9) m_X8_rayEnd := ⟨by decide +kernel, ev_dec_all _ _ (by decide +kernel), rfl, Or.inl rfl, ev_mem 1541 (by decide +kernel) (by decide +kernel)⟩
set_option maxRecDepth 100000 in
theorem k_L_rayCat (v9 : Value) : ev_MK (ev_B0 v9) m_L_rayCat := ⟨by decide +kernel, ev_dec_all _ _ (by decide +kernel), rfl, Or.inr rfl, ev_mem 1545 (by decide +kernel) (by decide +kernel)⟩
set_option maxRecDepth 100000 in
theorem k_X8_rayCat (v9 : Value) : ev_MK (ev_B0 v9) m_X8_rayCat := ⟨by decide +kernel, ev_dec_all _ _ (by decide +kernel), rfl, Or.inl rfl, ev_mem 1549 (by decide +kernel) (by decide +kernel)⟩
set_option maxRecDepth 100000 in
theorem k_L_rayEndByJoining (v9 : Value) : ev_MK (ev_B0 v9) m_L_rayEndByJoining := ⟨by decide +kernel, ev_dec_all _ _ (by decide +kernel), rfl, Or.inr rfl, ev_mem 1552 (by decide +kernel) (by decide +kernel)⟩
set_option maxRecDepth 100000 in
theorem k_X8_rayEndByJoining (v9 : Value) : ev_MK (ev_B0 v9) m_X8_rayEndByJoining := ⟨by decide +kernel, ev_dec_all _ _ (by decide +kernel), rfl, Or.inl rfl, ev_mem 1556 (by decide +kernel) (by decide +kernel)⟩
set_option maxRecDepth 100000 in
theorem k_X4_joinAll (v9 : Value) : ev_MK (ev_B0 v9) m_X4_joinAll := ⟨by decide +kernel, ev_dec_all _ _ (by decide +kernel), rfl, Or.inl rfl, ev_mem 1560 (by decide +kernel) (by decide +kernel)⟩
set_option maxRecDepth 100000 in
theorem k_X4_joinToNeighbour (v9 : Value) : ev_MK (ev_B0 v9) m_X4_joinToNeighbour := ⟨by decide +kernel, ev_dec_all _ _ (by decide +kernel), rfl, Or.inl rfl, ev_mem 1564 (by decide +kernel) (by decide +kernel)⟩
set_option maxRecDepth 100000 in
theorem k_X4_join (v9 : Value) : ev_MK (ev_B0 v9) m_X4_join := ⟨by decide +kernel, ev_dec_all _ _ (by decide +kernel), rfl, Or.inl rfl, ev_mem 1571 (by decide +kernel) (by decide +kernel)⟩
set_option maxRecDepth 100000 in
theorem k_X4_rootOf (v9 : Value) : ev_MK (ev_B0 v9) m_X4_rootOf := ⟨by decide +kernel, ev_dec_all _ _ (by decide +kernel), rfl, Or.inl rfl, ev_mem 1575 (by decide +kernel) (by decide +kernel)⟩
set_option maxRecDepth 100000 in
theorem k_X4_joinWithin (v9 : Value) : ev_MK (ev_B0 v9) m_X4_joinWithin := ⟨by decide +kernel, ev_dec_all _ _ (by decide +kernel), rfl, Or.inl rfl, ev_mem 1582 (by decide +kernel) (by decide +kernel)⟩
set_option maxRecDepth 100000 in
theorem k_X4_otherEnd (v9 : Value) : ev_MK (ev_B0 v9) m_X4_otherEnd := ⟨by decide +kernel, ev_dec_all _ _ (by decide +kernel), rfl, Or.inl rfl, ev_mem 1587 (by decide +kernel) (by decide +kernel)⟩
set_option maxRecDepth 100000 in
theorem k_X4_rootAt (v9 : Value) : ev_MK (ev_B0 v9) m_X4_rootAt := ⟨by decide +kernel, ev_dec_all _ _ (by decide +kernel), rfl, Or.inl rfl, ev_mem 1591 (by decide +kernel) (by decide +kernel)⟩
set_option maxRecDepth 100000 in
theorem k_X8_rayLength (v9 : Value) : ev_MK (ev_B0 v9) m_X8_rayLength := ⟨by decide +kernel, ev_dec_all _ _ (by decide +kernel), rfl, Or.inl rfl, ev_mem 1597 (by decide +kernel) (by decide +kernel)⟩
set_option maxRecDepth 100000 in
theorem k_X8_rayBounces (v9 : Value) : ev_MK (ev_B0 v9) m_X8_rayBounces := ⟨by decide +kernel, ev_dec_all _ _ (by decide +kernel), rfl, Or.inl rfl, ev_mem 1601 (by decide +kernel) (by decide +kernel)⟩
set_option maxRecDepth 100000 in
theorem k_L_leastEffortByRounds (v9 : Value) : ev_MK (ev_B0 v9) m_L_leastEffortByRounds := ⟨by decide +kernel, ev_dec_all _ _ (by decide +kernel), rfl, Or.inr rfl, ev_mem 1604 (by decide +kernel) (by decide +kernel)⟩
set_option maxRecDepth 100000 in
theorem k_X8_leastEffortByRounds (v9 : Value) : ev_MK (ev_B0 v9) m_X8_leastEffortByRounds := ⟨by decide +kernel, ev_dec_all _ _ (by decide +kernel), rfl, Or.inl rfl, ev_mem 1608 (by decide +kernel) (by decide +kernel)⟩
set_option maxRecDepth 100000 in
theorem k_X1_searchByRounds (v9 : Value) : ev_MK (ev_B0 v9) m_X1_searchByRounds := ⟨by decide +kernel, ev_dec_all _ _ (by decide +kernel), rfl, Or.inl rfl, ev_mem 1612 (by decide +kernel) (by decide +kernel)⟩
set_option maxRecDepth 100000 in
theorem k_X1_lowerAll (v9 : Value) : ev_MK (ev_B0 v9) m_X1_lowerAll := ⟨by decide +kernel, ev_dec_all _ _ (by decide +kernel), rfl, Or.inl rfl, ev_mem 1616 (by decide +kernel) (by decide +kernel)⟩
set_option maxRecDepth 100000 in
theorem k_X1_effortFromBehind (v9 : Value) : ev_MK (ev_B0 v9) m_X1_effortFromBehind := ⟨by decide +kernel, ev_dec_all _ _ (by decide +kernel), rfl, Or.inl rfl, ev_mem 1620 (by decide +kernel) (by decide +kernel)⟩
set_option maxRecDepth 100000 in
theorem k_L_likes (v9 : Value) : ev_MK (ev_B0 v9) m_L_likes := ⟨by decide +kernel, ev_dec_all _ _ (by decide +kernel), rfl, Or.inl rfl, ev_mem 1623 (by decide +kernel) (by decide +kernel)⟩
set_option maxRecDepth 100000 in
theorem k_X8_strengthOf (v9 : Value) : ev_MK (ev_B0 v9) m_X8_strengthOf := ⟨by decide +kernel, ev_dec_all _ _ (by decide +kernel), rfl, Or.inl rfl, ev_mem 1627 (by decide +kernel) (by decide +kernel)⟩
set_option maxRecDepth 100000 in
theorem k_X8_requirePair (v9 : Value) : ev_MK (ev_B0 v9) m_X8_requirePair := ⟨by decide +kernel, ev_dec_all _ _ (by decide +kernel), rfl, Or.inl rfl, ev_mem 1630 (by decide +kernel) (by decide +kernel)⟩
set_option maxRecDepth 100000 in
theorem k_X8_prefer (v9 : Value) : ev_MK (ev_B0 v9) m_X8_prefer := ⟨by decide +kernel, ev_dec_all _ _ (by decide +kernel), rfl, Or.inl rfl, ev_mem 1637 (by decide +kernel) (by decide +kernel)⟩
set_option maxRecDepth 100000 in
theorem k_X8_strengthByTrying (v9 : Value) : ev_MK (ev_B0 v9) m_X8_strengthByTrying := ⟨by decide +kernel, ev_dec_all _ _ (by decide +kernel), rfl, Or.inl rfl, ev_mem 1643 (by decide +kernel) (by decide +kernel)⟩
set_option maxRecDepth 100000 in
theorem k_X7_triedStrength (v9 : Value) : ev_MK (ev_B0 v9) m_X7_triedStrength := ⟨by decide +kernel, ev_dec_all _ _ (by decide +kernel), rfl, Or.inl rfl, ev_mem 1647 (by decide +kernel) (by decide +kernel)⟩
set_option maxRecDepth 100000 in
theorem k_X7_reachedWith (v9 : Value) : ev_MK (ev_B0 v9) m_X7_reachedWith := ⟨by decide +kernel, ev_dec_all _ _ (by decide +kernel), rfl, Or.inl rfl, ev_mem 1651 (by decide +kernel) (by decide +kernel)⟩
set_option maxRecDepth 100000 in
theorem k_X8_isDominant (v9 : Value) : ev_MK (ev_B0 v9) m_X8_isDominant := ⟨by decide +kernel, ev_dec_all _ _ (by decide +kernel), rfl, Or.inl rfl, ev_mem 1655 (by decide +kernel) (by decide +kernel)⟩
set_option maxRecDepth 100000 in
theorem k_X8_isConsistent (v9 : Value) : ev_MK (ev_B0 v9) m_X8_isConsistent := ⟨by decide +kernel, ev_dec_all _ _ (by decide +kernel), rfl, Or.inl rfl, ev_mem 1659 (by decide +kernel) (by decide +kernel)⟩
set_option maxRecDepth 100000 in
theorem k_X8_raysAgree (v9 : Value) : ev_MK (ev_B0 v9) m_X8_raysAgree := ⟨by decide +kernel, ev_dec_all _ _ (by decide +kernel), rfl, Or.inl rfl, ev_mem 1663 (by decide +kernel) (by decide +kernel)⟩
set_option maxRecDepth 100000 in
theorem k_X8_effortsAgree (v9 : Value) : ev_MK (ev_B0 v9) m_X8_effortsAgree := ⟨by decide +kernel, ev_dec_all _ _ (by decide +kernel), rfl, Or.inl rfl, ev_mem 1667 (by decide +kernel) (by decide +kernel)⟩
set_option maxRecDepth 100000 in
theorem k_X8_strengthsAgree (v9 : Value) : ev_MK (ev_B0 v9) m_X8_strengthsAgree := ⟨by decide +kernel, ev_dec_all _ _ (by decide +kernel), rfl, Or.inl rfl, ev_mem 1671 (by decide +kernel) (by decide +kernel)⟩
set_option maxRecDepth 100000 in
theorem k_X2_countHeard (v9 : Value) : ev_MK (ev_B0 v9) m_X2_countHeard := ⟨by decide +kernel, ev_dec_all _ _ (by decide +kernel), rfl, Or.inl rfl, ev_mem 1675 (by decide +kernel) (by decide +kernel)⟩
