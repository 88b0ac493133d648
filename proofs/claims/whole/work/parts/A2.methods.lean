/-! each method stands in the tables, with the instructions that are listed; laid by a program -/
set_option maxRecDepth 100000 in
theorem k_X8_init (v9 : Value) : ev_MK (ev_B0 v9) m_X8_init := ⟨by decide +kernel, ev_dec_all _ _ (by decide +kernel), rfl, Or.inl rfl, ev_mem 171 (by decide +kernel) (by decide +kernel)⟩
set_option maxRecDepth 100000 in
theorem k_X2_init (v9 : Value) : ev_MK (ev_B0 v9) m_X2_init := ⟨by decide +kernel, ev_dec_all _ _ (by decide +kernel), rfl, Or.inl rfl, ev_mem 179 (by decide +kernel) (by decide +kernel)⟩
set_option maxRecDepth 100000 in
theorem k_X3_init (v9 : Value) : ev_MK (ev_B0 v9) m_X3_init := ⟨by decide +kernel, ev_dec_all _ _ (by decide +kernel), rfl, Or.inl rfl, ev_mem 245 (by decide +kernel) (by decide +kernel)⟩
set_option maxRecDepth 100000 in
theorem k_X5_init (v9 : Value) : ev_MK (ev_B0 v9) m_X5_init := ⟨by decide +kernel, ev_dec_all _ _ (by decide +kernel), rfl, Or.inl rfl, ev_mem 265 (by decide +kernel) (by decide +kernel)⟩
set_option maxRecDepth 100000 in
theorem k_X4_init (v9 : Value) : ev_MK (ev_B0 v9) m_X4_init := ⟨by decide +kernel, ev_dec_all _ _ (by decide +kernel), rfl, Or.inl rfl, ev_mem 288 (by decide +kernel) (by decide +kernel)⟩
set_option maxRecDepth 100000 in
theorem k_X1_init (v9 : Value) : ev_MK (ev_B0 v9) m_X1_init := ⟨by decide +kernel, ev_dec_all _ _ (by decide +kernel), rfl, Or.inl rfl, ev_mem 298 (by decide +kernel) (by decide +kernel)⟩
set_option maxRecDepth 100000 in
theorem k_X7_init (v9 : Value) : ev_MK (ev_B0 v9) m_X7_init := ⟨by decide +kernel, ev_dec_all _ _ (by decide +kernel), rfl, Or.inl rfl, ev_mem 317 (by decide +kernel) (by decide +kernel)⟩
set_option maxRecDepth 100000 in
theorem k_X6_init (v9 : Value) : ev_MK (ev_B0 v9) m_X6_init := ⟨by decide +kernel, ev_dec_all _ _ (by decide +kernel), rfl, Or.inl rfl, ev_mem 337 (by decide +kernel) (by decide +kernel)⟩
set_option maxRecDepth 100000 in
theorem k_J4_init_da8c8 (v9 : Value) : ev_MK (ev_B0 v9) m_J4_init_da8c8 := ⟨by decide +kernel, ev_dec_all _ _ (by decide +kernel), rfl, Or.inl rfl, ev_mem 343 (by decide +kernel) (by decide +kernel)⟩
set_option maxRecDepth 100000 in
theorem k_J5_init_d00df (v9 : Value) : ev_MK (ev_B0 v9) m_J5_init_d00df := ⟨by decide +kernel, ev_dec_all _ _ (by decide +kernel), rfl, Or.inl rfl, ev_mem 346 (by decide +kernel) (by decide +kernel)⟩
set_option maxRecDepth 100000 in
theorem k_X8_catCount (v9 : Value) : ev_MK (ev_B0 v9) m_X8_catCount := ⟨by decide +kernel, ev_dec_all _ _ (by decide +kernel), rfl, Or.inl rfl, ev_mem 455 (by decide +kernel) (by decide +kernel)⟩
set_option maxRecDepth 100000 in
theorem k_X8_method (v9 : Value) : ev_MK (ev_B0 v9) m_X8_method := ⟨by decide +kernel, ev_dec_all _ _ (by decide +kernel), rfl, Or.inl rfl, ev_mem 459 (by decide +kernel) (by decide +kernel)⟩
set_option maxRecDepth 100000 in
theorem k_X8_hasCause (v9 : Value) : ev_MK (ev_B0 v9) m_X8_hasCause := ⟨by decide +kernel, ev_dec_all _ _ (by decide +kernel), rfl, Or.inl rfl, ev_mem 463 (by decide +kernel) (by decide +kernel)⟩
set_option maxRecDepth 100000 in
theorem k_X2_mayRetry (v9 : Value) : ev_MK (ev_B0 v9) m_X2_mayRetry := ⟨by decide +kernel, ev_dec_all _ _ (by decide +kernel), rfl, Or.inl rfl, ev_mem 467 (by decide +kernel) (by decide +kernel)⟩
set_option maxRecDepth 100000 in
theorem k_X8_at_ (v9 : Value) : ev_MK (ev_B0 v9) m_X8_at_ := ⟨by decide +kernel, ev_dec_all _ _ (by decide +kernel), rfl, Or.inl rfl, ev_mem 470 (by decide +kernel) (by decide +kernel)⟩
set_option maxRecDepth 100000 in
theorem k_X8_deliberations (v9 : Value) : ev_MK (ev_B0 v9) m_X8_deliberations := ⟨by decide +kernel, ev_dec_all _ _ (by decide +kernel), rfl, Or.inl rfl, ev_mem 474 (by decide +kernel) (by decide +kernel)⟩
set_option maxRecDepth 100000 in
theorem k_X8_hungCount (v9 : Value) : ev_MK (ev_B0 v9) m_X8_hungCount := ⟨by decide +kernel, ev_dec_all _ _ (by decide +kernel), rfl, Or.inl rfl, ev_mem 478 (by decide +kernel) (by decide +kernel)⟩
set_option maxRecDepth 100000 in
theorem k_X8_retrials (v9 : Value) : ev_MK (ev_B0 v9) m_X8_retrials := ⟨by decide +kernel, ev_dec_all _ _ (by decide +kernel), rfl, Or.inl rfl, ev_mem 482 (by decide +kernel) (by decide +kernel)⟩
set_option maxRecDepth 100000 in
theorem k_X8_testimonies (v9 : Value) : ev_MK (ev_B0 v9) m_X8_testimonies := ⟨by decide +kernel, ev_dec_all _ _ (by decide +kernel), rfl, Or.inl rfl, ev_mem 486 (by decide +kernel) (by decide +kernel)⟩
set_option maxRecDepth 100000 in
theorem k_X8_isConsistent (v9 : Value) : ev_MK (ev_B0 v9) m_X8_isConsistent := ⟨by decide +kernel, ev_dec_all _ _ (by decide +kernel), rfl, Or.inl rfl, ev_mem 490 (by decide +kernel) (by decide +kernel)⟩
set_option maxRecDepth 100000 in
theorem k_X8_raysAgree (v9 : Value) : ev_MK (ev_B0 v9) m_X8_raysAgree := ⟨by decide +kernel, ev_dec_all _ _ (by decide +kernel), rfl, Or.inl rfl, ev_mem 494 (by decide +kernel) (by decide +kernel)⟩
set_option maxRecDepth 100000 in
theorem k_X4_joinAll (v9 : Value) : ev_MK (ev_B0 v9) m_X4_joinAll := ⟨by decide +kernel, ev_dec_all _ _ (by decide +kernel), rfl, Or.inl rfl, ev_mem 498 (by decide +kernel) (by decide +kernel)⟩
set_option maxRecDepth 100000 in
theorem k_X4_joinToNeighbour (v9 : Value) : ev_MK (ev_B0 v9) m_X4_joinToNeighbour := ⟨by decide +kernel, ev_dec_all _ _ (by decide +kernel), rfl, Or.inl rfl, ev_mem 502 (by decide +kernel) (by decide +kernel)⟩
set_option maxRecDepth 100000 in
theorem k_X0_neighbour (v9 : Value) : ev_MK (ev_B0 v9) m_X0_neighbour := ⟨by decide +kernel, ev_dec_all _ _ (by decide +kernel), rfl, Or.inl rfl, ev_mem 505 (by decide +kernel) (by decide +kernel)⟩
set_option maxRecDepth 100000 in
theorem k_X0_side (v9 : Value) : ev_MK (ev_B0 v9) m_X0_side := ⟨by decide +kernel, ev_dec_all _ _ (by decide +kernel), rfl, Or.inl rfl, ev_mem 508 (by decide +kernel) (by decide +kernel)⟩
set_option maxRecDepth 100000 in
theorem k_X0_opposite (v9 : Value) : ev_MK (ev_B0 v9) m_X0_opposite := ⟨by decide +kernel, ev_dec_all _ _ (by decide +kernel), rfl, Or.inl rfl, ev_mem 511 (by decide +kernel) (by decide +kernel)⟩
set_option maxRecDepth 100000 in
theorem k_X4_join (v9 : Value) : ev_MK (ev_B0 v9) m_X4_join := ⟨by decide +kernel, ev_dec_all _ _ (by decide +kernel), rfl, Or.inl rfl, ev_mem 515 (by decide +kernel) (by decide +kernel)⟩
set_option maxRecDepth 100000 in
theorem k_X4_rootOf (v9 : Value) : ev_MK (ev_B0 v9) m_X4_rootOf := ⟨by decide +kernel, ev_dec_all _ _ (by decide +kernel), rfl, Or.inl rfl, ev_mem 519 (by decide +kernel) (by decide +kernel)⟩
set_option maxRecDepth 100000 in
theorem k_X8_at (v9 : Value) : ev_MK (ev_B0 v9) m_X8_at := ⟨by decide +kernel, ev_dec_all _ _ (by decide +kernel), rfl, Or.inl rfl, ev_mem 522 (by decide +kernel) (by decide +kernel)⟩
set_option maxRecDepth 100000 in
theorem k_X8_put (v9 : Value) : ev_MK (ev_B0 v9) m_X8_put := ⟨by decide +kernel, ev_dec_all _ _ (by decide +kernel), rfl, Or.inl rfl, ev_mem 525 (by decide +kernel) (by decide +kernel)⟩
set_option maxRecDepth 100000 in
theorem k_X4_joinWithin (v9 : Value) : ev_MK (ev_B0 v9) m_X4_joinWithin := ⟨by decide +kernel, ev_dec_all _ _ (by decide +kernel), rfl, Or.inl rfl, ev_mem 530 (by decide +kernel) (by decide +kernel)⟩
set_option maxRecDepth 100000 in
theorem k_X0_reflected (v9 : Value) : ev_MK (ev_B0 v9) m_X0_reflected := ⟨by decide +kernel, ev_dec_all _ _ (by decide +kernel), rfl, Or.inl rfl, ev_mem 533 (by decide +kernel) (by decide +kernel)⟩
set_option maxRecDepth 100000 in
theorem k_X5_follow (v9 : Value) : ev_MK (ev_B0 v9) m_X5_follow := ⟨by decide +kernel, ev_dec_all _ _ (by decide +kernel), rfl, Or.inl rfl, ev_mem 537 (by decide +kernel) (by decide +kernel)⟩
set_option maxRecDepth 100000 in
theorem k_X0_cellAt (v9 : Value) : ev_MK (ev_B0 v9) m_X0_cellAt := ⟨by decide +kernel, ev_dec_all _ _ (by decide +kernel), rfl, Or.inl rfl, ev_mem 540 (by decide +kernel) (by decide +kernel)⟩
set_option maxRecDepth 100000 in
theorem k_X0_directionAt (v9 : Value) : ev_MK (ev_B0 v9) m_X0_directionAt := ⟨by decide +kernel, ev_dec_all _ _ (by decide +kernel), rfl, Or.inl rfl, ev_mem 543 (by decide +kernel) (by decide +kernel)⟩
set_option maxRecDepth 100000 in
theorem k_X2_findCat (v9 : Value) : ev_MK (ev_B0 v9) m_X2_findCat := ⟨by decide +kernel, ev_dec_all _ _ (by decide +kernel), rfl, Or.inl rfl, ev_mem 548 (by decide +kernel) (by decide +kernel)⟩
set_option maxRecDepth 100000 in
theorem k_X0_portAt (v9 : Value) : ev_MK (ev_B0 v9) m_X0_portAt := ⟨by decide +kernel, ev_dec_all _ _ (by decide +kernel), rfl, Or.inl rfl, ev_mem 554 (by decide +kernel) (by decide +kernel)⟩
set_option maxRecDepth 100000 in
theorem k_X4_otherEnd (v9 : Value) : ev_MK (ev_B0 v9) m_X4_otherEnd := ⟨by decide +kernel, ev_dec_all _ _ (by decide +kernel), rfl, Or.inl rfl, ev_mem 558 (by decide +kernel) (by decide +kernel)⟩
set_option maxRecDepth 100000 in
theorem k_X4_rootAt (v9 : Value) : ev_MK (ev_B0 v9) m_X4_rootAt := ⟨by decide +kernel, ev_dec_all _ _ (by decide +kernel), rfl, Or.inl rfl, ev_mem 562 (by decide +kernel) (by decide +kernel)⟩
set_option maxRecDepth 100000 in
theorem k_X8_effortsAgree (v9 : Value) : ev_MK (ev_B0 v9) m_X8_effortsAgree := ⟨by decide +kernel, ev_dec_all _ _ (by decide +kernel), rfl, Or.inl rfl, ev_mem 568 (by decide +kernel) (by decide +kernel)⟩
set_option maxRecDepth 100000 in
theorem k_X1_searchByQueue (v9 : Value) : ev_MK (ev_B0 v9) m_X1_searchByQueue := ⟨by decide +kernel, ev_dec_all _ _ (by decide +kernel), rfl, Or.inl rfl, ev_mem 572 (by decide +kernel) (by decide +kernel)⟩
set_option maxRecDepth 100000 in
theorem k_X1_start (v9 : Value) : ev_MK (ev_B0 v9) m_X1_start := ⟨by decide +kernel, ev_dec_all _ _ (by decide +kernel), rfl, Or.inl rfl, ev_mem 576 (by decide +kernel) (by decide +kernel)⟩
set_option maxRecDepth 100000 in
theorem k_X1_putAhead (v9 : Value) : ev_MK (ev_B0 v9) m_X1_putAhead := ⟨by decide +kernel, ev_dec_all _ _ (by decide +kernel), rfl, Or.inl rfl, ev_mem 584 (by decide +kernel) (by decide +kernel)⟩
set_option maxRecDepth 100000 in
theorem k_X1_takeFirst (v9 : Value) : ev_MK (ev_B0 v9) m_X1_takeFirst := ⟨by decide +kernel, ev_dec_all _ _ (by decide +kernel), rfl, Or.inl rfl, ev_mem 588 (by decide +kernel) (by decide +kernel)⟩
set_option maxRecDepth 100000 in
theorem k_X1_goOn (v9 : Value) : ev_MK (ev_B0 v9) m_X1_goOn := ⟨by decide +kernel, ev_dec_all _ _ (by decide +kernel), rfl, Or.inl rfl, ev_mem 593 (by decide +kernel) (by decide +kernel)⟩
set_option maxRecDepth 100000 in
theorem k_X1_reach (v9 : Value) : ev_MK (ev_B0 v9) m_X1_reach := ⟨by decide +kernel, ev_dec_all _ _ (by decide +kernel), rfl, Or.inl rfl, ev_mem 601 (by decide +kernel) (by decide +kernel)⟩
set_option maxRecDepth 100000 in
theorem k_X1_putBehind (v9 : Value) : ev_MK (ev_B0 v9) m_X1_putBehind := ⟨by decide +kernel, ev_dec_all _ _ (by decide +kernel), rfl, Or.inl rfl, ev_mem 605 (by decide +kernel) (by decide +kernel)⟩
set_option maxRecDepth 100000 in
theorem k_X1_searchByRounds (v9 : Value) : ev_MK (ev_B0 v9) m_X1_searchByRounds := ⟨by decide +kernel, ev_dec_all _ _ (by decide +kernel), rfl, Or.inl rfl, ev_mem 609 (by decide +kernel) (by decide +kernel)⟩
set_option maxRecDepth 100000 in
theorem k_X1_lowerAll (v9 : Value) : ev_MK (ev_B0 v9) m_X1_lowerAll := ⟨by decide +kernel, ev_dec_all _ _ (by decide +kernel), rfl, Or.inl rfl, ev_mem 613 (by decide +kernel) (by decide +kernel)⟩
set_option maxRecDepth 100000 in
theorem k_X1_effortFromBehind (v9 : Value) : ev_MK (ev_B0 v9) m_X1_effortFromBehind := ⟨by decide +kernel, ev_dec_all _ _ (by decide +kernel), rfl, Or.inl rfl, ev_mem 617 (by decide +kernel) (by decide +kernel)⟩
set_option maxRecDepth 100000 in
theorem k_X1_effortInto (v9 : Value) : ev_MK (ev_B0 v9) m_X1_effortInto := ⟨by decide +kernel, ev_dec_all _ _ (by decide +kernel), rfl, Or.inl rfl, ev_mem 622 (by decide +kernel) (by decide +kernel)⟩
set_option maxRecDepth 100000 in
theorem k_X8_strengthsAgree (v9 : Value) : ev_MK (ev_B0 v9) m_X8_strengthsAgree := ⟨by decide +kernel, ev_dec_all _ _ (by decide +kernel), rfl, Or.inl rfl, ev_mem 626 (by decide +kernel) (by decide +kernel)⟩
set_option maxRecDepth 100000 in
theorem k_X7_fillStrengths (v9 : Value) : ev_MK (ev_B0 v9) m_X7_fillStrengths := ⟨by decide +kernel, ev_dec_all _ _ (by decide +kernel), rfl, Or.inl rfl, ev_mem 630 (by decide +kernel) (by decide +kernel)⟩
set_option maxRecDepth 100000 in
theorem k_X7_countPairs (v9 : Value) : ev_MK (ev_B0 v9) m_X7_countPairs := ⟨by decide +kernel, ev_dec_all _ _ (by decide +kernel), rfl, Or.inl rfl, ev_mem 634 (by decide +kernel) (by decide +kernel)⟩
set_option maxRecDepth 100000 in
theorem k_X7_pair (v9 : Value) : ev_MK (ev_B0 v9) m_X7_pair := ⟨by decide +kernel, ev_dec_all _ _ (by decide +kernel), rfl, Or.inl rfl, ev_mem 638 (by decide +kernel) (by decide +kernel)⟩
set_option maxRecDepth 100000 in
theorem k_X7_victory (v9 : Value) : ev_MK (ev_B0 v9) m_X7_victory := ⟨by decide +kernel, ev_dec_all _ _ (by decide +kernel), rfl, Or.inl rfl, ev_mem 643 (by decide +kernel) (by decide +kernel)⟩
set_option maxRecDepth 100000 in
theorem k_X7_tableStrength (v9 : Value) : ev_MK (ev_B0 v9) m_X7_tableStrength := ⟨by decide +kernel, ev_dec_all _ _ (by decide +kernel), rfl, Or.inl rfl, ev_mem 647 (by decide +kernel) (by decide +kernel)⟩
set_option maxRecDepth 100000 in
theorem k_X7_triedStrength (v9 : Value) : ev_MK (ev_B0 v9) m_X7_triedStrength := ⟨by decide +kernel, ev_dec_all _ _ (by decide +kernel), rfl, Or.inl rfl, ev_mem 658 (by decide +kernel) (by decide +kernel)⟩
set_option maxRecDepth 100000 in
theorem k_X7_reachedWith (v9 : Value) : ev_MK (ev_B0 v9) m_X7_reachedWith := ⟨by decide +kernel, ev_dec_all _ _ (by decide +kernel), rfl, Or.inl rfl, ev_mem 662 (by decide +kernel) (by decide +kernel)⟩
set_option maxRecDepth 100000 in
theorem k_X7_isIn (v9 : Value) : ev_MK (ev_B0 v9) m_X7_isIn := ⟨by decide +kernel, ev_dec_all _ _ (by decide +kernel), rfl, Or.inl rfl, ev_mem 665 (by decide +kernel) (by decide +kernel)⟩
set_option maxRecDepth 100000 in
theorem k_X2_countHeard (v9 : Value) : ev_MK (ev_B0 v9) m_X2_countHeard := ⟨by decide +kernel, ev_dec_all _ _ (by decide +kernel), rfl, Or.inl rfl, ev_mem 669 (by decide +kernel) (by decide +kernel)⟩
set_option maxRecDepth 100000 in
theorem k_X8_saveSnapshot (v9 : Value) : ev_MK (ev_B0 v9) m_X8_saveSnapshot := ⟨by decide +kernel, ev_dec_all _ _ (by decide +kernel), rfl, Or.inl rfl, ev_mem 673 (by decide +kernel) (by decide +kernel)⟩
set_option maxRecDepth 100000 in
theorem k_X2_copyFrom (v9 : Value) : ev_MK (ev_B0 v9) m_X2_copyFrom := ⟨by decide +kernel, ev_dec_all _ _ (by decide +kernel), rfl, Or.inl rfl, ev_mem 677 (by decide +kernel) (by decide +kernel)⟩
set_option maxRecDepth 100000 in
theorem k_X8_copy_ (v9 : Value) : ev_MK (ev_B0 v9) m_X8_copy_ := ⟨by decide +kernel, ev_dec_all _ _ (by decide +kernel), rfl, Or.inl rfl, ev_mem 680 (by decide +kernel) (by decide +kernel)⟩
set_option maxRecDepth 100000 in
theorem k_X8_copy (v9 : Value) : ev_MK (ev_B0 v9) m_X8_copy := ⟨by decide +kernel, ev_dec_all _ _ (by decide +kernel), rfl, Or.inl rfl, ev_mem 683 (by decide +kernel) (by decide +kernel)⟩
set_option maxRecDepth 100000 in
theorem k_L_addCat (v9 : Value) : ev_MK (ev_B0 v9) m_L_addCat := ⟨by decide +kernel, ev_dec_all _ _ (by decide +kernel), rfl, Or.inr rfl, ev_mem 686 (by decide +kernel) (by decide +kernel)⟩
set_option maxRecDepth 100000 in
theorem k_X8_addCat (v9 : Value) : ev_MK (ev_B0 v9) m_X8_addCat := ⟨by decide +kernel, ev_dec_all _ _ (by decide +kernel), rfl, Or.inl rfl, ev_mem 772 (by decide +kernel) (by decide +kernel)⟩
set_option maxRecDepth 100000 in
theorem k_X8_requireCell (v9 : Value) : ev_MK (ev_B0 v9) m_X8_requireCell := ⟨by decide +kernel, ev_dec_all _ _ (by decide +kernel), rfl, Or.inl rfl, ev_mem 775 (by decide +kernel) (by decide +kernel)⟩
set_option maxRecDepth 100000 in
theorem k_X8_isCell (v9 : Value) : ev_MK (ev_B0 v9) m_X8_isCell := ⟨by decide +kernel, ev_dec_all _ _ (by decide +kernel), rfl, Or.inl rfl, ev_mem 778 (by decide +kernel) (by decide +kernel)⟩
set_option maxRecDepth 100000 in
theorem k_X8_areThreeOptions (v9 : Value) : ev_MK (ev_B0 v9) m_X8_areThreeOptions := ⟨by decide +kernel, ev_dec_all _ _ (by decide +kernel), rfl, Or.inl rfl, ev_mem 794 (by decide +kernel) (by decide +kernel)⟩
set_option maxRecDepth 100000 in
theorem k_X8_isOption (v9 : Value) : ev_MK (ev_B0 v9) m_X8_isOption := ⟨by decide +kernel, ev_dec_all _ _ (by decide +kernel), rfl, Or.inl rfl, ev_mem 797 (by decide +kernel) (by decide +kernel)⟩
set_option maxRecDepth 100000 in
theorem k_X2_reasonAgainstCat (v9 : Value) : ev_MK (ev_B0 v9) m_X2_reasonAgainstCat := ⟨by decide +kernel, ev_dec_all _ _ (by decide +kernel), rfl, Or.inl rfl, ev_mem 817 (by decide +kernel) (by decide +kernel)⟩
set_option maxRecDepth 100000 in
theorem k_X2_reasonAgainstMirror (v9 : Value) : ev_MK (ev_B0 v9) m_X2_reasonAgainstMirror := ⟨by decide +kernel, ev_dec_all _ _ (by decide +kernel), rfl, Or.inl rfl, ev_mem 821 (by decide +kernel) (by decide +kernel)⟩
set_option maxRecDepth 100000 in
theorem k_X8_reject (v9 : Value) : ev_MK (ev_B0 v9) m_X8_reject := ⟨by decide +kernel, ev_dec_all _ _ (by decide +kernel), rfl, Or.inl rfl, ev_mem 827 (by decide +kernel) (by decide +kernel)⟩
set_option maxRecDepth 100000 in
theorem k_X3_keep (v9 : Value) : ev_MK (ev_B0 v9) m_X3_keep := ⟨by decide +kernel, ev_dec_all _ _ (by decide +kernel), rfl, Or.inl rfl, ev_mem 847 (by decide +kernel) (by decide +kernel)⟩
set_option maxRecDepth 100000 in
theorem k_X3_mark (v9 : Value) : ev_MK (ev_B0 v9) m_X3_mark := ⟨by decide +kernel, ev_dec_all _ _ (by decide +kernel), rfl, Or.inl rfl, ev_mem 851 (by decide +kernel) (by decide +kernel)⟩
set_option maxRecDepth 100000 in
theorem k_X3_slotOfMarked (v9 : Value) : ev_MK (ev_B0 v9) m_X3_slotOfMarked := ⟨by decide +kernel, ev_dec_all _ _ (by decide +kernel), rfl, Or.inl rfl, ev_mem 855 (by decide +kernel) (by decide +kernel)⟩
set_option maxRecDepth 100000 in
theorem k_X3_keepMarked (v9 : Value) : ev_MK (ev_B0 v9) m_X3_keepMarked := ⟨by decide +kernel, ev_dec_all _ _ (by decide +kernel), rfl, Or.inl rfl, ev_mem 860 (by decide +kernel) (by decide +kernel)⟩
set_option maxRecDepth 100000 in
theorem k_X2_seatCat (v9 : Value) : ev_MK (ev_B0 v9) m_X2_seatCat := ⟨by decide +kernel, ev_dec_all _ _ (by decide +kernel), rfl, Or.inl rfl, ev_mem 864 (by decide +kernel) (by decide +kernel)⟩
set_option maxRecDepth 100000 in
theorem k_X8_indexOf (v9 : Value) : ev_MK (ev_B0 v9) m_X8_indexOf := ⟨by decide +kernel, ev_dec_all _ _ (by decide +kernel), rfl, Or.inl rfl, ev_mem 867 (by decide +kernel) (by decide +kernel)⟩
set_option maxRecDepth 100000 in
theorem k_X8_put_ (v9 : Value) : ev_MK (ev_B0 v9) m_X8_put_ := ⟨by decide +kernel, ev_dec_all _ _ (by decide +kernel), rfl, Or.inl rfl, ev_mem 870 (by decide +kernel) (by decide +kernel)⟩
set_option maxRecDepth 100000 in
theorem k_X2_rank (v9 : Value) : ev_MK (ev_B0 v9) m_X2_rank := ⟨by decide +kernel, ev_dec_all _ _ (by decide +kernel), rfl, Or.inl rfl, ev_mem 875 (by decide +kernel) (by decide +kernel)⟩
set_option maxRecDepth 100000 in
theorem k_L_setMirror (v9 : Value) : ev_MK (ev_B0 v9) m_L_setMirror := ⟨by decide +kernel, ev_dec_all _ _ (by decide +kernel), rfl, Or.inr rfl, ev_mem 878 (by decide +kernel) (by decide +kernel)⟩
set_option maxRecDepth 100000 in
theorem k_X8_setMirror (v9 : Value) : ev_MK (ev_B0 v9) m_X8_setMirror := ⟨by decide +kernel, ev_dec_all _ _ (by decide +kernel), rfl, Or.inl rfl, ev_mem 882 (by decide +kernel) (by decide +kernel)⟩
set_option maxRecDepth 100000 in
theorem k_X8_isContent (v9 : Value) : ev_MK (ev_B0 v9) m_X8_isContent := ⟨by decide +kernel, ev_dec_all _ _ (by decide +kernel), rfl, Or.inl rfl, ev_mem 885 (by decide +kernel) (by decide +kernel)⟩
set_option maxRecDepth 100000 in
theorem k_X2_changeContent (v9 : Value) : ev_MK (ev_B0 v9) m_X2_changeContent := ⟨by decide +kernel, ev_dec_all _ _ (by decide +kernel), rfl, Or.inl rfl, ev_mem 892 (by decide +kernel) (by decide +kernel)⟩
set_option maxRecDepth 100000 in
theorem k_X2_countMirrors (v9 : Value) : ev_MK (ev_B0 v9) m_X2_countMirrors := ⟨by decide +kernel, ev_dec_all _ _ (by decide +kernel), rfl, Or.inl rfl, ev_mem 896 (by decide +kernel) (by decide +kernel)⟩
set_option maxRecDepth 100000 in
theorem k_L_cellOf (v9 : Value) : ev_MK (ev_B0 v9) m_L_cellOf := ⟨by decide +kernel, ev_dec_all _ _ (by decide +kernel), rfl, Or.inr rfl, ev_mem 899 (by decide +kernel) (by decide +kernel)⟩
set_option maxRecDepth 100000 in
theorem k_X8_cellOf (v9 : Value) : ev_MK (ev_B0 v9) m_X8_cellOf := ⟨by decide +kernel, ev_dec_all _ _ (by decide +kernel), rfl, Or.inl rfl, ev_mem 903 (by decide +kernel) (by decide +kernel)⟩
set_option maxRecDepth 100000 in
theorem k_X8_requireCat (v9 : Value) : ev_MK (ev_B0 v9) m_X8_requireCat := ⟨by decide +kernel, ev_dec_all _ _ (by decide +kernel), rfl, Or.inl rfl, ev_mem 907 (by decide +kernel) (by decide +kernel)⟩
set_option maxRecDepth 100000 in
theorem k_L_catIn (v9 : Value) : ev_MK (ev_B0 v9) m_L_catIn := ⟨by decide +kernel, ev_dec_all _ _ (by decide +kernel), rfl, Or.inr rfl, ev_mem 911 (by decide +kernel) (by decide +kernel)⟩
set_option maxRecDepth 100000 in
theorem k_X8_catIn (v9 : Value) : ev_MK (ev_B0 v9) m_X8_catIn := ⟨by decide +kernel, ev_dec_all _ _ (by decide +kernel), rfl, Or.inl rfl, ev_mem 916 (by decide +kernel) (by decide +kernel)⟩
set_option maxRecDepth 100000 in
theorem k_L_contentOf (v9 : Value) : ev_MK (ev_B0 v9) m_L_contentOf := ⟨by decide +kernel, ev_dec_all _ _ (by decide +kernel), rfl, Or.inr rfl, ev_mem 935 (by decide +kernel) (by decide +kernel)⟩
set_option maxRecDepth 100000 in
theorem k_X8_contentOf (v9 : Value) : ev_MK (ev_B0 v9) m_X8_contentOf := ⟨by decide +kernel, ev_dec_all _ _ (by decide +kernel), rfl, Or.inl rfl, ev_mem 939 (by decide +kernel) (by decide +kernel)⟩
set_option maxRecDepth 100000 in
theorem k_L_optionAt (v9 : Value) : ev_MK (ev_B0 v9) m_L_optionAt := ⟨by decide +kernel, ev_dec_all _ _ (by decide +kernel), rfl, Or.inr rfl, ev_mem 943 (by decide +kernel) (by decide +kernel)⟩
set_option maxRecDepth 100000 in
theorem k_X8_optionAt (v9 : Value) : ev_MK (ev_B0 v9) m_X8_optionAt := ⟨by decide +kernel, ev_dec_all _ _ (by decide +kernel), rfl, Or.inl rfl, ev_mem 947 (by decide +kernel) (by decide +kernel)⟩
set_option maxRecDepth 100000 in
theorem k_X2_optionIn (v9 : Value) : ev_MK (ev_B0 v9) m_X2_optionIn := ⟨by decide +kernel, ev_dec_all _ _ (by decide +kernel), rfl, Or.inl rfl, ev_mem 952 (by decide +kernel) (by decide +kernel)⟩
set_option maxRecDepth 100000 in
theorem k_X8_letterOf (v9 : Value) : ev_MK (ev_B0 v9) m_X8_letterOf := ⟨by decide +kernel, ev_dec_all _ _ (by decide +kernel), rfl, Or.inl rfl, ev_mem 955 (by decide +kernel) (by decide +kernel)⟩
set_option maxRecDepth 100000 in
theorem k_L_placeOf (v9 : Value) : ev_MK (ev_B0 v9) m_L_placeOf := ⟨by decide +kernel, ev_dec_all _ _ (by decide +kernel), rfl, Or.inr rfl, ev_mem 958 (by decide +kernel) (by decide +kernel)⟩
set_option maxRecDepth 100000 in
theorem k_X8_placeOf (v9 : Value) : ev_MK (ev_B0 v9) m_X8_placeOf := ⟨by decide +kernel, ev_dec_all _ _ (by decide +kernel), rfl, Or.inl rfl, ev_mem 962 (by decide +kernel) (by decide +kernel)⟩
set_option maxRecDepth 100000 in
theorem k_X8_requireOption (v9 : Value) : ev_MK (ev_B0 v9) m_X8_requireOption := ⟨by decide +kernel, ev_dec_all _ _ (by decide +kernel), rfl, Or.inl rfl, ev_mem 965 (by decide +kernel) (by decide +kernel)⟩
set_option maxRecDepth 100000 in
theorem k_X2_placeIn (v9 : Value) : ev_MK (ev_B0 v9) m_X2_placeIn := ⟨by decide +kernel, ev_dec_all _ _ (by decide +kernel), rfl, Or.inl rfl, ev_mem 971 (by decide +kernel) (by decide +kernel)⟩
set_option maxRecDepth 100000 in
theorem k_L_heardBy (v9 : Value) : ev_MK (ev_B0 v9) m_L_heardBy := ⟨by decide +kernel, ev_dec_all _ _ (by decide +kernel), rfl, Or.inr rfl, ev_mem 974 (by decide +kernel) (by decide +kernel)⟩
set_option maxRecDepth 100000 in
theorem k_X8_heardBy (v9 : Value) : ev_MK (ev_B0 v9) m_X8_heardBy := ⟨by decide +kernel, ev_dec_all _ _ (by decide +kernel), rfl, Or.inl rfl, ev_mem 978 (by decide +kernel) (by decide +kernel)⟩
set_option maxRecDepth 100000 in
theorem k_L_rayEnd (v9 : Value) : ev_MK (ev_B0 v9) m_L_rayEnd := ⟨by decide +kernel, ev_dec_all _ _ (by decide +kernel), rfl, Or.inr rfl, ev_mem 981 (by decide +kernel) (by decide +kernel)⟩
set_option maxRecDepth 100000 in
theorem k_X8_rayEnd (v9 : Value) : ev_MK (ev_B0 v9) m_X8_rayEnd := ⟨by decide +kernel, ev_dec_all _ _ (by decide +kernel), rfl, Or.inl rfl, ev_mem 985 (by decide +kernel) (by decide +kernel)⟩
set_option maxRecDepth 100000 in
theorem k_X8_requirePort (v9 : Value) : ev_MK (ev_B0 v9) m_X8_requirePort := ⟨by decide +kernel, ev_dec_all _ _ (by decide +kernel), rfl, Or.inl rfl, ev_mem 988 (by decide +kernel) (by decide +kernel)⟩
set_option maxRecDepth 100000 in
theorem k_X8_isPort (v9 : Value) : ev_MK (ev_B0 v9) m_X8_isPort := ⟨by decide +kernel, ev_dec_all _ _ (by decide +kernel), rfl, Or.inl rfl, ev_mem 991 (by decide +kernel) (by decide +kernel)⟩
set_option maxRecDepth 100000 in
theorem k_L_rayEndByJoining (v9 : Value) : ev_MK (ev_B0 v9) m_L_rayEndByJoining := ⟨by decide +kernel, ev_dec_all _ _ (by decide +kernel), rfl, Or.inr rfl, ev_mem 996 (by decide +kernel) (by decide +kernel)⟩
set_option maxRecDepth 100000 in
theorem k_X8_rayEndByJoining (v9 : Value) : ev_MK (ev_B0 v9) m_X8_rayEndByJoining := ⟨by decide +kernel, ev_dec_all _ _ (by decide +kernel), rfl, Or.inl rfl, ev_mem 1000 (by decide +kernel) (by decide +kernel)⟩
set_option maxRecDepth 100000 in
theorem k_L_rayCat (v9 : Value) : ev_MK (ev_B0 v9) m_L_rayCat := ⟨by decide +kernel, ev_dec_all _ _ (by decide +kernel), rfl, Or.inr rfl, ev_mem 1003 (by decide +kernel) (by decide +kernel)⟩
set_option maxRecDepth 100000 in
theorem k_X8_rayCat (v9 : Value) : ev_MK (ev_B0 v9) m_X8_rayCat := ⟨by decide +kernel, ev_dec_all _ _ (by decide +kernel), rfl, Or.inl rfl, ev_mem 1007 (by decide +kernel) (by decide +kernel)⟩
set_option maxRecDepth 100000 in
theorem k_L_rayLength (v9 : Value) : ev_MK (ev_B0 v9) m_L_rayLength := ⟨by decide +kernel, ev_dec_all _ _ (by decide +kernel), rfl, Or.inr rfl, ev_mem 1011 (by decide +kernel) (by decide +kernel)⟩
set_option maxRecDepth 100000 in
theorem k_X8_rayLength (v9 : Value) : ev_MK (ev_B0 v9) m_X8_rayLength := ⟨by decide +kernel, ev_dec_all _ _ (by decide +kernel), rfl, Or.inl rfl, ev_mem 1015 (by decide +kernel) (by decide +kernel)⟩
set_option maxRecDepth 100000 in
theorem k_L_rayBounces (v9 : Value) : ev_MK (ev_B0 v9) m_L_rayBounces := ⟨by decide +kernel, ev_dec_all _ _ (by decide +kernel), rfl, Or.inr rfl, ev_mem 1018 (by decide +kernel) (by decide +kernel)⟩
set_option maxRecDepth 100000 in
theorem k_X8_rayBounces (v9 : Value) : ev_MK (ev_B0 v9) m_X8_rayBounces := ⟨by decide +kernel, ev_dec_all _ _ (by decide +kernel), rfl, Or.inl rfl, ev_mem 1022 (by decide +kernel) (by decide +kernel)⟩
set_option maxRecDepth 100000 in
theorem k_L_leastEffort (v9 : Value) : ev_MK (ev_B0 v9) m_L_leastEffort := ⟨by decide +kernel, ev_dec_all _ _ (by decide +kernel), rfl, Or.inr rfl, ev_mem 1025 (by decide +kernel) (by decide +kernel)⟩
set_option maxRecDepth 100000 in
theorem k_X8_leastEffort (v9 : Value) : ev_MK (ev_B0 v9) m_X8_leastEffort := ⟨by decide +kernel, ev_dec_all _ _ (by decide +kernel), rfl, Or.inl rfl, ev_mem 1029 (by decide +kernel) (by decide +kernel)⟩
set_option maxRecDepth 100000 in
theorem k_L_leastEffortByRounds (v9 : Value) : ev_MK (ev_B0 v9) m_L_leastEffortByRounds := ⟨by decide +kernel, ev_dec_all _ _ (by decide +kernel), rfl, Or.inr rfl, ev_mem 1033 (by decide +kernel) (by decide +kernel)⟩
set_option maxRecDepth 100000 in
theorem k_X8_leastEffortByRounds (v9 : Value) : ev_MK (ev_B0 v9) m_X8_leastEffortByRounds := ⟨by decide +kernel, ev_dec_all _ _ (by decide +kernel), rfl, Or.inl rfl, ev_mem 1037 (by decide +kernel) (by decide +kernel)⟩
set_option maxRecDepth 100000 in
theorem k_L_portByLength (v9 : Value) : ev_MK (ev_B0 v9) m_L_portByLength := ⟨by decide +kernel, ev_dec_all _ _ (by decide +kernel), rfl, Or.inr rfl, ev_mem 1040 (by decide +kernel) (by decide +kernel)⟩
set_option maxRecDepth 100000 in
theorem k_X8_portByLength (v9 : Value) : ev_MK (ev_B0 v9) m_X8_portByLength := ⟨by decide +kernel, ev_dec_all _ _ (by decide +kernel), rfl, Or.inl rfl, ev_mem 1044 (by decide +kernel) (by decide +kernel)⟩
set_option maxRecDepth 100000 in
theorem k_X8_portsAhead (v9 : Value) : ev_MK (ev_B0 v9) m_X8_portsAhead := ⟨by decide +kernel, ev_dec_all _ _ (by decide +kernel), rfl, Or.inl rfl, ev_mem 1050 (by decide +kernel) (by decide +kernel)⟩
set_option maxRecDepth 100000 in
theorem k_L_testify (v9 : Value) : ev_MK (ev_B0 v9) m_L_testify := ⟨by decide +kernel, ev_dec_all _ _ (by decide +kernel), rfl, Or.inr rfl, ev_mem 1053 (by decide +kernel) (by decide +kernel)⟩
set_option maxRecDepth 100000 in
theorem k_X8_testify (v9 : Value) : ev_MK (ev_B0 v9) m_X8_testify := ⟨by decide +kernel, ev_dec_all _ _ (by decide +kernel), rfl, Or.inl rfl, ev_mem 1057 (by decide +kernel) (by decide +kernel)⟩
set_option maxRecDepth 100000 in
theorem k_X2_hear (v9 : Value) : ev_MK (ev_B0 v9) m_X2_hear := ⟨by decide +kernel, ev_dec_all _ _ (by decide +kernel), rfl, Or.inl rfl, ev_mem 1061 (by decide +kernel) (by decide +kernel)⟩
set_option maxRecDepth 100000 in
theorem k_L_firstVotes (v9 : Value) : ev_MK (ev_B0 v9) m_L_firstVotes := ⟨by decide +kernel, ev_dec_all _ _ (by decide +kernel), rfl, Or.inr rfl, ev_mem 1066 (by decide +kernel) (by decide +kernel)⟩
set_option maxRecDepth 100000 in
theorem k_X8_firstVotes (v9 : Value) : ev_MK (ev_B0 v9) m_X8_firstVotes := ⟨by decide +kernel, ev_dec_all _ _ (by decide +kernel), rfl, Or.inl rfl, ev_mem 1070 (by decide +kernel) (by decide +kernel)⟩
set_option maxRecDepth 100000 in
theorem k_X7_countFirst (v9 : Value) : ev_MK (ev_B0 v9) m_X7_countFirst := ⟨by decide +kernel, ev_dec_all _ _ (by decide +kernel), rfl, Or.inl rfl, ev_mem 1074 (by decide +kernel) (by decide +kernel)⟩
set_option maxRecDepth 100000 in
theorem k_L_prefer (v9 : Value) : ev_MK (ev_B0 v9) m_L_prefer := ⟨by decide +kernel, ev_dec_all _ _ (by decide +kernel), rfl, Or.inr rfl, ev_mem 1078 (by decide +kernel) (by decide +kernel)⟩
set_option maxRecDepth 100000 in
theorem k_X8_prefer (v9 : Value) : ev_MK (ev_B0 v9) m_X8_prefer := ⟨by decide +kernel, ev_dec_all _ _ (by decide +kernel), rfl, Or.inl rfl, ev_mem 1082 (by decide +kernel) (by decide +kernel)⟩
set_option maxRecDepth 100000 in
theorem k_X8_requirePair (v9 : Value) : ev_MK (ev_B0 v9) m_X8_requirePair := ⟨by decide +kernel, ev_dec_all _ _ (by decide +kernel), rfl, Or.inl rfl, ev_mem 1085 (by decide +kernel) (by decide +kernel)⟩
set_option maxRecDepth 100000 in
theorem k_X7_preferring (v9 : Value) : ev_MK (ev_B0 v9) m_X7_preferring := ⟨by decide +kernel, ev_dec_all _ _ (by decide +kernel), rfl, Or.inl rfl, ev_mem 1091 (by decide +kernel) (by decide +kernel)⟩
set_option maxRecDepth 100000 in
theorem k_L_pointsOf (v9 : Value) : ev_MK (ev_B0 v9) m_L_pointsOf := ⟨by decide +kernel, ev_dec_all _ _ (by decide +kernel), rfl, Or.inr rfl, ev_mem 1094 (by decide +kernel) (by decide +kernel)⟩
set_option maxRecDepth 100000 in
theorem k_X8_pointsOf (v9 : Value) : ev_MK (ev_B0 v9) m_X8_pointsOf := ⟨by decide +kernel, ev_dec_all _ _ (by decide +kernel), rfl, Or.inl rfl, ev_mem 1098 (by decide +kernel) (by decide +kernel)⟩
set_option maxRecDepth 100000 in
theorem k_X7_countPoints (v9 : Value) : ev_MK (ev_B0 v9) m_X7_countPoints := ⟨by decide +kernel, ev_dec_all _ _ (by decide +kernel), rfl, Or.inl rfl, ev_mem 1102 (by decide +kernel) (by decide +kernel)⟩
set_option maxRecDepth 100000 in
theorem k_L_pointsWinner (v9 : Value) : ev_MK (ev_B0 v9) m_L_pointsWinner := ⟨by decide +kernel, ev_dec_all _ _ (by decide +kernel), rfl, Or.inr rfl, ev_mem 1106 (by decide +kernel) (by decide +kernel)⟩
set_option maxRecDepth 100000 in
theorem k_X8_pointsWinner (v9 : Value) : ev_MK (ev_B0 v9) m_X8_pointsWinner := ⟨by decide +kernel, ev_dec_all _ _ (by decide +kernel), rfl, Or.inl rfl, ev_mem 1110 (by decide +kernel) (by decide +kernel)⟩
set_option maxRecDepth 100000 in
theorem k_X8_requireCats (v9 : Value) : ev_MK (ev_B0 v9) m_X8_requireCats := ⟨by decide +kernel, ev_dec_all _ _ (by decide +kernel), rfl, Or.inl rfl, ev_mem 1114 (by decide +kernel) (by decide +kernel)⟩
set_option maxRecDepth 100000 in
theorem k_X7_findMostPoints (v9 : Value) : ev_MK (ev_B0 v9) m_X7_findMostPoints := ⟨by decide +kernel, ev_dec_all _ _ (by decide +kernel), rfl, Or.inl rfl, ev_mem 1119 (by decide +kernel) (by decide +kernel)⟩
set_option maxRecDepth 100000 in
theorem k_L_roundsWinner (v9 : Value) : ev_MK (ev_B0 v9) m_L_roundsWinner := ⟨by decide +kernel, ev_dec_all _ _ (by decide +kernel), rfl, Or.inr rfl, ev_mem 1123 (by decide +kernel) (by decide +kernel)⟩
set_option maxRecDepth 100000 in
theorem k_X8_roundsWinner (v9 : Value) : ev_MK (ev_B0 v9) m_X8_roundsWinner := ⟨by decide +kernel, ev_dec_all _ _ (by decide +kernel), rfl, Or.inl rfl, ev_mem 1127 (by decide +kernel) (by decide +kernel)⟩
set_option maxRecDepth 100000 in
theorem k_X7_voteInRounds (v9 : Value) : ev_MK (ev_B0 v9) m_X7_voteInRounds := ⟨by decide +kernel, ev_dec_all _ _ (by decide +kernel), rfl, Or.inl rfl, ev_mem 1131 (by decide +kernel) (by decide +kernel)⟩
set_option maxRecDepth 100000 in
theorem k_X7_countBallots (v9 : Value) : ev_MK (ev_B0 v9) m_X7_countBallots := ⟨by decide +kernel, ev_dec_all _ _ (by decide +kernel), rfl, Or.inl rfl, ev_mem 1135 (by decide +kernel) (by decide +kernel)⟩
set_option maxRecDepth 100000 in
theorem k_X7_findFavourite (v9 : Value) : ev_MK (ev_B0 v9) m_X7_findFavourite := ⟨by decide +kernel, ev_dec_all _ _ (by decide +kernel), rfl, Or.inl rfl, ev_mem 1139 (by decide +kernel) (by decide +kernel)⟩
set_option maxRecDepth 100000 in
theorem k_X7_findFewest (v9 : Value) : ev_MK (ev_B0 v9) m_X7_findFewest := ⟨by decide +kernel, ev_dec_all _ _ (by decide +kernel), rfl, Or.inl rfl, ev_mem 1143 (by decide +kernel) (by decide +kernel)⟩
set_option maxRecDepth 100000 in
theorem k_L_rounds (v9 : Value) : ev_MK (ev_B0 v9) m_L_rounds := ⟨by decide +kernel, ev_dec_all _ _ (by decide +kernel), rfl, Or.inr rfl, ev_mem 1146 (by decide +kernel) (by decide +kernel)⟩
set_option maxRecDepth 100000 in
theorem k_X8_rounds (v9 : Value) : ev_MK (ev_B0 v9) m_X8_rounds := ⟨by decide +kernel, ev_dec_all _ _ (by decide +kernel), rfl, Or.inl rfl, ev_mem 1150 (by decide +kernel) (by decide +kernel)⟩
set_option maxRecDepth 100000 in
theorem k_L_strengthOf (v9 : Value) : ev_MK (ev_B0 v9) m_L_strengthOf := ⟨by decide +kernel, ev_dec_all _ _ (by decide +kernel), rfl, Or.inr rfl, ev_mem 1153 (by decide +kernel) (by decide +kernel)⟩
set_option maxRecDepth 100000 in
theorem k_X8_strengthOf (v9 : Value) : ev_MK (ev_B0 v9) m_X8_strengthOf := ⟨by decide +kernel, ev_dec_all _ _ (by decide +kernel), rfl, Or.inl rfl, ev_mem 1157 (by decide +kernel) (by decide +kernel)⟩
set_option maxRecDepth 100000 in
theorem k_L_strengthByTrying (v9 : Value) : ev_MK (ev_B0 v9) m_L_strengthByTrying := ⟨by decide +kernel, ev_dec_all _ _ (by decide +kernel), rfl, Or.inr rfl, ev_mem 1160 (by decide +kernel) (by decide +kernel)⟩
set_option maxRecDepth 100000 in
theorem k_X8_strengthByTrying (v9 : Value) : ev_MK (ev_B0 v9) m_X8_strengthByTrying := ⟨by decide +kernel, ev_dec_all _ _ (by decide +kernel), rfl, Or.inl rfl, ev_mem 1164 (by decide +kernel) (by decide +kernel)⟩
set_option maxRecDepth 100000 in
theorem k_L_strengthWinner (v9 : Value) : ev_MK (ev_B0 v9) m_L_strengthWinner := ⟨by decide +kernel, ev_dec_all _ _ (by decide +kernel), rfl, Or.inr rfl, ev_mem 1167 (by decide +kernel) (by decide +kernel)⟩
set_option maxRecDepth 100000 in
theorem k_X8_strengthWinner (v9 : Value) : ev_MK (ev_B0 v9) m_X8_strengthWinner := ⟨by decide +kernel, ev_dec_all _ _ (by decide +kernel), rfl, Or.inl rfl, ev_mem 1171 (by decide +kernel) (by decide +kernel)⟩
set_option maxRecDepth 100000 in
theorem k_X7_findStrongest (v9 : Value) : ev_MK (ev_B0 v9) m_X7_findStrongest := ⟨by decide +kernel, ev_dec_all _ _ (by decide +kernel), rfl, Or.inl rfl, ev_mem 1175 (by decide +kernel) (by decide +kernel)⟩
set_option maxRecDepth 100000 in
theorem k_X7_holdsAgainstAll (v9 : Value) : ev_MK (ev_B0 v9) m_X7_holdsAgainstAll := ⟨by decide +kernel, ev_dec_all _ _ (by decide +kernel), rfl, Or.inl rfl, ev_mem 1180 (by decide +kernel) (by decide +kernel)⟩
set_option maxRecDepth 100000 in
theorem k_L_isDominant (v9 : Value) : ev_MK (ev_B0 v9) m_L_isDominant := ⟨by decide +kernel, ev_dec_all _ _ (by decide +kernel), rfl, Or.inr rfl, ev_mem 1183 (by decide +kernel) (by decide +kernel)⟩
set_option maxRecDepth 100000 in
theorem k_X8_isDominant (v9 : Value) : ev_MK (ev_B0 v9) m_X8_isDominant := ⟨by decide +kernel, ev_dec_all _ _ (by decide +kernel), rfl, Or.inl rfl, ev_mem 1187 (by decide +kernel) (by decide +kernel)⟩
set_option maxRecDepth 100000 in
theorem k_X7_dominates (v9 : Value) : ev_MK (ev_B0 v9) m_X7_dominates := ⟨by decide +kernel, ev_dec_all _ _ (by decide +kernel), rfl, Or.inl rfl, ev_mem 1191 (by decide +kernel) (by decide +kernel)⟩
set_option maxRecDepth 100000 in
theorem k_L_setMethod (v9 : Value) : ev_MK (ev_B0 v9) m_L_setMethod := ⟨by decide +kernel, ev_dec_all _ _ (by decide +kernel), rfl, Or.inr rfl, ev_mem 1195 (by decide +kernel) (by decide +kernel)⟩
set_option maxRecDepth 100000 in
theorem k_X8_setMethod (v9 : Value) : ev_MK (ev_B0 v9) m_X8_setMethod := ⟨by decide +kernel, ev_dec_all _ _ (by decide +kernel), rfl, Or.inl rfl, ev_mem 1199 (by decide +kernel) (by decide +kernel)⟩
set_option maxRecDepth 100000 in
theorem k_X8_isMethod (v9 : Value) : ev_MK (ev_B0 v9) m_X8_isMethod := ⟨by decide +kernel, ev_dec_all _ _ (by decide +kernel), rfl, Or.inl rfl, ev_mem 1202 (by decide +kernel) (by decide +kernel)⟩
set_option maxRecDepth 100000 in
theorem k_L_deliberate (v9 : Value) : ev_MK (ev_B0 v9) m_L_deliberate := ⟨by decide +kernel, ev_dec_all _ _ (by decide +kernel), rfl, Or.inr rfl, ev_mem 1206 (by decide +kernel) (by decide +kernel)⟩
set_option maxRecDepth 100000 in
theorem k_X8_deliberate (v9 : Value) : ev_MK (ev_B0 v9) m_X8_deliberate := ⟨by decide +kernel, ev_dec_all _ _ (by decide +kernel), rfl, Or.inl rfl, ev_mem 1210 (by decide +kernel) (by decide +kernel)⟩
set_option maxRecDepth 100000 in
theorem k_X8_holdVote (v9 : Value) : ev_MK (ev_B0 v9) m_X8_holdVote := ⟨by decide +kernel, ev_dec_all _ _ (by decide +kernel), rfl, Or.inl rfl, ev_mem 1214 (by decide +kernel) (by decide +kernel)⟩
set_option maxRecDepth 100000 in
theorem k_X2_conclude (v9 : Value) : ev_MK (ev_B0 v9) m_X2_conclude := ⟨by decide +kernel, ev_dec_all _ _ (by decide +kernel), rfl, Or.inl rfl, ev_mem 1218 (by decide +kernel) (by decide +kernel)⟩
set_option maxRecDepth 100000 in
theorem k_L_retry (v9 : Value) : ev_MK (ev_B0 v9) m_L_retry := ⟨by decide +kernel, ev_dec_all _ _ (by decide +kernel), rfl, Or.inr rfl, ev_mem 1221 (by decide +kernel) (by decide +kernel)⟩
set_option maxRecDepth 100000 in
theorem k_X8_retry (v9 : Value) : ev_MK (ev_B0 v9) m_X8_retry := ⟨by decide +kernel, ev_dec_all _ _ (by decide +kernel), rfl, Or.inl rfl, ev_mem 1225 (by decide +kernel) (by decide +kernel)⟩
set_option maxRecDepth 100000 in
theorem k_X2_startAgain (v9 : Value) : ev_MK (ev_B0 v9) m_X2_startAgain := ⟨by decide +kernel, ev_dec_all _ _ (by decide +kernel), rfl, Or.inl rfl, ev_mem 1230 (by decide +kernel) (by decide +kernel)⟩
set_option maxRecDepth 100000 in
theorem k_X2_resetRanking (v9 : Value) : ev_MK (ev_B0 v9) m_X2_resetRanking := ⟨by decide +kernel, ev_dec_all _ _ (by decide +kernel), rfl, Or.inl rfl, ev_mem 1234 (by decide +kernel) (by decide +kernel)⟩
set_option maxRecDepth 100000 in
theorem k_L_verdictAt (v9 : Value) : ev_MK (ev_B0 v9) m_L_verdictAt := ⟨by decide +kernel, ev_dec_all _ _ (by decide +kernel), rfl, Or.inr rfl, ev_mem 1237 (by decide +kernel) (by decide +kernel)⟩
set_option maxRecDepth 100000 in
theorem k_X8_verdictAt (v9 : Value) : ev_MK (ev_B0 v9) m_X8_verdictAt := ⟨by decide +kernel, ev_dec_all _ _ (by decide +kernel), rfl, Or.inl rfl, ev_mem 1241 (by decide +kernel) (by decide +kernel)⟩
set_option maxRecDepth 100000 in
theorem k_L_catByHeard (v9 : Value) : ev_MK (ev_B0 v9) m_L_catByHeard := ⟨by decide +kernel, ev_dec_all _ _ (by decide +kernel), rfl, Or.inr rfl, ev_mem 1245 (by decide +kernel) (by decide +kernel)⟩
set_option maxRecDepth 100000 in
theorem k_X8_catByHeard (v9 : Value) : ev_MK (ev_B0 v9) m_X8_catByHeard := ⟨by decide +kernel, ev_dec_all _ _ (by decide +kernel), rfl, Or.inl rfl, ev_mem 1249 (by decide +kernel) (by decide +kernel)⟩
set_option maxRecDepth 100000 in
theorem k_X2_catsAhead (v9 : Value) : ev_MK (ev_B0 v9) m_X2_catsAhead := ⟨by decide +kernel, ev_dec_all _ _ (by decide +kernel), rfl, Or.inl rfl, ev_mem 1253 (by decide +kernel) (by decide +kernel)⟩
set_option maxRecDepth 100000 in
theorem k_L_meanHeard (v9 : Value) : ev_MK (ev_B0 v9) m_L_meanHeard := ⟨by decide +kernel, ev_dec_all _ _ (by decide +kernel), rfl, Or.inr rfl, ev_mem 1256 (by decide +kernel) (by decide +kernel)⟩
set_option maxRecDepth 100000 in
theorem k_X8_meanHeard (v9 : Value) : ev_MK (ev_B0 v9) m_X8_meanHeard := ⟨by decide +kernel, ev_dec_all _ _ (by decide +kernel), rfl, Or.inl rfl, ev_mem 1274 (by decide +kernel) (by decide +kernel)⟩
set_option maxRecDepth 100000 in
theorem k_L_hungShare (v9 : Value) : ev_MK (ev_B0 v9) m_L_hungShare := ⟨by decide +kernel, ev_dec_all _ _ (by decide +kernel), rfl, Or.inr rfl, ev_mem 1279 (by decide +kernel) (by decide +kernel)⟩
set_option maxRecDepth 100000 in
theorem k_X8_hungShare (v9 : Value) : ev_MK (ev_B0 v9) m_X8_hungShare := ⟨by decide +kernel, ev_dec_all _ _ (by decide +kernel), rfl, Or.inl rfl, ev_mem 1283 (by decide +kernel) (by decide +kernel)⟩
set_option maxRecDepth 100000 in
theorem k_L_writeRow (v9 : Value) : ev_MK (ev_B0 v9) m_L_writeRow := ⟨by decide +kernel, ev_dec_all _ _ (by decide +kernel), rfl, Or.inr rfl, ev_mem 1287 (by decide +kernel) (by decide +kernel)⟩
set_option maxRecDepth 100000 in
theorem k_X8_writeRow (v9 : Value) : ev_MK (ev_B0 v9) m_X8_writeRow := ⟨by decide +kernel, ev_dec_all _ _ (by decide +kernel), rfl, Or.inl rfl, ev_mem 1291 (by decide +kernel) (by decide +kernel)⟩
set_option maxRecDepth 100000 in
theorem k_J4_setLength_d00df (v9 : Value) : ev_MK (ev_B0 v9) m_J4_setLength_d00df := ⟨by decide +kernel, ev_dec_all _ _ (by decide +kernel), rfl, Or.inl rfl, ev_mem 1296 (by decide +kernel) (by decide +kernel)⟩
set_option maxRecDepth 100000 in
theorem k_J5_setLength_d00df (v9 : Value) : ev_MK (ev_B0 v9) m_J5_setLength_d00df := ⟨by decide +kernel, ev_dec_all _ _ (by decide +kernel), rfl, Or.inl rfl, ev_mem 1299 (by decide +kernel) (by decide +kernel)⟩
set_option maxRecDepth 100000 in
theorem k_J4_append_15ec4 (v9 : Value) : ev_MK (ev_B0 v9) m_J4_append_15ec4 := ⟨by decide +kernel, ev_dec_all _ _ (by decide +kernel), rfl, Or.inl rfl, ev_mem 1311 (by decide +kernel) (by decide +kernel)⟩
set_option maxRecDepth 100000 in
theorem k_J5_append_cf1ce (v9 : Value) : ev_MK (ev_B0 v9) m_J5_append_cf1ce := ⟨by decide +kernel, ev_dec_all _ _ (by decide +kernel), rfl, Or.inl rfl, ev_mem 1314 (by decide +kernel) (by decide +kernel)⟩
set_option maxRecDepth 100000 in
theorem k_J5_appendNull_278bc (v9 : Value) : ev_MK (ev_B0 v9) m_J5_appendNull_278bc := ⟨by decide +kernel, ev_dec_all _ _ (by decide +kernel), rfl, Or.inl rfl, ev_mem 1318 (by decide +kernel) (by decide +kernel)⟩
set_option maxRecDepth 100000 in
theorem k_J5_ensureCapacityInternal_d00df (v9 : Value) : ev_MK (ev_B0 v9) m_J5_ensureCapacityInternal_d00df := ⟨by decide +kernel, ev_dec_all _ _ (by decide +kernel), rfl, Or.inl rfl, ev_mem 1322 (by decide +kernel) (by decide +kernel)⟩
set_option maxRecDepth 100000 in
theorem k_J5_newCapacity_0f7a4 (v9 : Value) : ev_MK (ev_B0 v9) m_J5_newCapacity_0f7a4 := ⟨by decide +kernel, ev_dec_all _ _ (by decide +kernel), rfl, Or.inl rfl, ev_mem 1326 (by decide +kernel) (by decide +kernel)⟩
set_option maxRecDepth 100000 in
theorem k_J8_newLength_cabcc (v9 : Value) : ev_MK (ev_B0 v9) m_J8_newLength_cabcc := ⟨by decide +kernel, ev_dec_all _ _ (by decide +kernel), rfl, Or.inl rfl, ev_mem 1329 (by decide +kernel) (by decide +kernel)⟩
set_option maxRecDepth 100000 in
theorem k_J8_hugeLength_7cf53 (v9 : Value) : ev_MK (ev_B0 v9) m_J8_hugeLength_7cf53 := ⟨by decide +kernel, ev_dec_all _ _ (by decide +kernel), rfl, Or.inl rfl, ev_mem 1334 (by decide +kernel) (by decide +kernel)⟩
set_option maxRecDepth 100000 in
theorem k_J7_copyOf_9075b (v9 : Value) : ev_MK (ev_B0 v9) m_J7_copyOf_9075b := ⟨by decide +kernel, ev_dec_all _ _ (by decide +kernel), rfl, Or.inl rfl, ev_mem 1338 (by decide +kernel) (by decide +kernel)⟩
set_option maxRecDepth 100000 in
theorem k_J5_isLatin1_aae02 (v9 : Value) : ev_MK (ev_B0 v9) m_J5_isLatin1_aae02 := ⟨by decide +kernel, ev_dec_all _ _ (by decide +kernel), rfl, Or.inl rfl, ev_mem 1354 (by decide +kernel) (by decide +kernel)⟩
set_option maxRecDepth 100000 in
theorem k_J0_checkBoundsBeginEnd_23922 (v9 : Value) : ev_MK (ev_B0 v9) m_J0_checkBoundsBeginEnd_23922 := ⟨by decide +kernel, ev_dec_all _ _ (by decide +kernel), rfl, Or.inl rfl, ev_mem 1366 (by decide +kernel) (by decide +kernel)⟩
set_option maxRecDepth 100000 in
theorem k_J3_checkFromToIndex_8c36e (v9 : Value) : ev_MK (ev_B0 v9) m_J3_checkFromToIndex_8c36e := ⟨by decide +kernel, ev_dec_all _ _ (by decide +kernel), rfl, Or.inl rfl, ev_mem 1371 (by decide +kernel) (by decide +kernel)⟩
set_option maxRecDepth 100000 in
theorem k_J0_length_8abf5 (v9 : Value) : ev_MK (ev_B0 v9) m_J0_length_8abf5 := ⟨by decide +kernel, ev_dec_all _ _ (by decide +kernel), rfl, Or.inl rfl, ev_mem 1384 (by decide +kernel) (by decide +kernel)⟩
set_option maxRecDepth 100000 in
theorem k_J0_coder_7d493 (v9 : Value) : ev_MK (ev_B0 v9) m_J0_coder_7d493 := ⟨by decide +kernel, ev_dec_all _ _ (by decide +kernel), rfl, Or.inl rfl, ev_mem 1388 (by decide +kernel) (by decide +kernel)⟩
set_option maxRecDepth 100000 in
theorem k_J5_putStringAt_47b60 (v9 : Value) : ev_MK (ev_B0 v9) m_J5_putStringAt_47b60 := ⟨by decide +kernel, ev_dec_all _ _ (by decide +kernel), rfl, Or.inl rfl, ev_mem 1393 (by decide +kernel) (by decide +kernel)⟩
set_option maxRecDepth 100000 in
theorem k_J5_inflateIfNeededFor_a7421 (v9 : Value) : ev_MK (ev_B0 v9) m_J5_inflateIfNeededFor_a7421 := ⟨by decide +kernel, ev_dec_all _ _ (by decide +kernel), rfl, Or.inl rfl, ev_mem 1397 (by decide +kernel) (by decide +kernel)⟩
set_option maxRecDepth 100000 in
theorem k_J5_inflate_da8c8 (v9 : Value) : ev_MK (ev_B0 v9) m_J5_inflate_da8c8 := ⟨by decide +kernel, ev_dec_all _ _ (by decide +kernel), rfl, Or.inl rfl, ev_mem 1402 (by decide +kernel) (by decide +kernel)⟩
set_option maxRecDepth 100000 in
theorem k_J1_inflate_0e8fd (v9 : Value) : ev_MK (ev_B0 v9) m_J1_inflate_0e8fd := ⟨by decide +kernel, ev_dec_all _ _ (by decide +kernel), rfl, Or.inl rfl, ev_mem 1405 (by decide +kernel) (by decide +kernel)⟩
set_option maxRecDepth 100000 in
theorem k_J0_checkBoundsOffCount_cabcc (v9 : Value) : ev_MK (ev_B0 v9) m_J0_checkBoundsOffCount_cabcc := ⟨by decide +kernel, ev_dec_all _ _ (by decide +kernel), rfl, Or.inl rfl, ev_mem 1414 (by decide +kernel) (by decide +kernel)⟩
set_option maxRecDepth 100000 in
theorem k_J3_checkFromIndexSize_8c36e (v9 : Value) : ev_MK (ev_B0 v9) m_J3_checkFromIndexSize_8c36e := ⟨by decide +kernel, ev_dec_all _ _ (by decide +kernel), rfl, Or.inl rfl, ev_mem 1417 (by decide +kernel) (by decide +kernel)⟩
set_option maxRecDepth 100000 in
theorem k_J0_getBytes_840e7 (v9 : Value) : ev_MK (ev_B0 v9) m_J0_getBytes_840e7 := ⟨by decide +kernel, ev_dec_all _ _ (by decide +kernel), rfl, Or.inl rfl, ev_mem 1421 (by decide +kernel) (by decide +kernel)⟩
set_option maxRecDepth 100000 in
theorem k_J4_append_bf812 (v9 : Value) : ev_MK (ev_B0 v9) m_J4_append_bf812 := ⟨by decide +kernel, ev_dec_all _ _ (by decide +kernel), rfl, Or.inl rfl, ev_mem 1427 (by decide +kernel) (by decide +kernel)⟩
set_option maxRecDepth 100000 in
theorem k_J5_append_c97b9 (v9 : Value) : ev_MK (ev_B0 v9) m_J5_append_c97b9 := ⟨by decide +kernel, ev_dec_all _ _ (by decide +kernel), rfl, Or.inl rfl, ev_mem 1430 (by decide +kernel) (by decide +kernel)⟩
set_option maxRecDepth 100000 in
theorem k_J6_stringSize_0f7a4 (v9 : Value) : ev_MK (ev_B0 v9) m_J6_stringSize_0f7a4 := ⟨by decide +kernel, ev_dec_all _ _ (by decide +kernel), rfl, Or.inl rfl, ev_mem 1433 (by decide +kernel) (by decide +kernel)⟩
set_option maxRecDepth 100000 in
theorem k_J6_getChars_ba4f3 (v9 : Value) : ev_MK (ev_B0 v9) m_J6_getChars_ba4f3 := ⟨by decide +kernel, ev_dec_all _ _ (by decide +kernel), rfl, Or.inl rfl, ev_mem 1436 (by decide +kernel) (by decide +kernel)⟩
set_option maxRecDepth 100000 in
theorem k_J4_toString_0e30d (v9 : Value) : ev_MK (ev_B0 v9) m_J4_toString_0e30d := ⟨by decide +kernel, ev_dec_all _ _ (by decide +kernel), rfl, Or.inl rfl, ev_mem 1452 (by decide +kernel) (by decide +kernel)⟩
set_option maxRecDepth 100000 in
theorem k_J0_init_81219 (v9 : Value) : ev_MK (ev_B0 v9) m_J0_init_81219 := ⟨by decide +kernel, ev_dec_all _ _ (by decide +kernel), rfl, Or.inl rfl, ev_mem 1456 (by decide +kernel) (by decide +kernel)⟩
set_option maxRecDepth 100000 in
theorem k_J0_init_db425 (v9 : Value) : ev_MK (ev_B0 v9) m_J0_init_db425 := ⟨by decide +kernel, ev_dec_all _ _ (by decide +kernel), rfl, Or.inl rfl, ev_mem 1459 (by decide +kernel) (by decide +kernel)⟩
set_option maxRecDepth 100000 in
theorem k_J5_getValue_6d5f1 (v9 : Value) : ev_MK (ev_B0 v9) m_J5_getValue_6d5f1 := ⟨by decide +kernel, ev_dec_all _ _ (by decide +kernel), rfl, Or.inl rfl, ev_mem 1465 (by decide +kernel) (by decide +kernel)⟩
set_option maxRecDepth 100000 in
theorem k_J4_length_8abf5 (v9 : Value) : ev_MK (ev_B0 v9) m_J4_length_8abf5 := ⟨by decide +kernel, ev_dec_all _ _ (by decide +kernel), rfl, Or.inl rfl, ev_mem 1471 (by decide +kernel) (by decide +kernel)⟩
set_option maxRecDepth 100000 in
theorem k_J5_length_8abf5 (v9 : Value) : ev_MK (ev_B0 v9) m_J5_length_8abf5 := ⟨by decide +kernel, ev_dec_all _ _ (by decide +kernel), rfl, Or.inl rfl, ev_mem 1473 (by decide +kernel) (by decide +kernel)⟩
set_option maxRecDepth 100000 in
theorem k_J7_copyOfRange_39247 (v9 : Value) : ev_MK (ev_B0 v9) m_J7_copyOfRange_39247 := ⟨by decide +kernel, ev_dec_all _ _ (by decide +kernel), rfl, Or.inl rfl, ev_mem 1477 (by decide +kernel) (by decide +kernel)⟩
set_option maxRecDepth 100000 in
theorem k_J7_copyOfRangeByte_39247 (v9 : Value) : ev_MK (ev_B0 v9) m_J7_copyOfRangeByte_39247 := ⟨by decide +kernel, ev_dec_all _ _ (by decide +kernel), rfl, Or.inl rfl, ev_mem 1480 (by decide +kernel) (by decide +kernel)⟩
set_option maxRecDepth 100000 in
theorem k_J7_checkLength_df160 (v9 : Value) : ev_MK (ev_B0 v9) m_J7_checkLength_df160 := ⟨by decide +kernel, ev_dec_all _ _ (by decide +kernel), rfl, Or.inl rfl, ev_mem 1483 (by decide +kernel) (by decide +kernel)⟩
set_option maxRecDepth 100000 in
theorem k_J1_fillNull_b72d1 (v9 : Value) : ev_MK (ev_B0 v9) m_J1_fillNull_b72d1 := ⟨by decide +kernel, ev_dec_all _ _ (by decide +kernel), rfl, Or.inl rfl, ev_mem 1522 (by decide +kernel) (by decide +kernel)⟩
set_option maxRecDepth 100000 in
theorem k_J7_fill_eb02e (v9 : Value) : ev_MK (ev_B0 v9) m_J7_fill_eb02e := ⟨by decide +kernel, ev_dec_all _ _ (by decide +kernel), rfl, Or.inl rfl, ev_mem 1525 (by decide +kernel) (by decide +kernel)⟩
set_option maxRecDepth 100000 in
theorem k_J7_rangeCheck_23922 (v9 : Value) : ev_MK (ev_B0 v9) m_J7_rangeCheck_23922 := ⟨by decide +kernel, ev_dec_all _ _ (by decide +kernel), rfl, Or.inl rfl, ev_mem 1528 (by decide +kernel) (by decide +kernel)⟩
set_option maxRecDepth 100000 in
theorem k_X8_digitOf (v9 : Value) : ev_MK (ev_B0 v9) m_X8_digitOf := ⟨by decide +kernel, ev_dec_all _ _ (by decide +kernel), rfl, Or.inl rfl, ev_mem 1548 (by decide +kernel) (by decide +kernel)⟩
set_option maxRecDepth 100000 in
theorem k_J4_append_cf468 (v9 : Value) : ev_MK (ev_B0 v9) m_J4_append_cf468 := ⟨by decide +kernel, ev_dec_all _ _ (by decide +kernel), rfl, Or.inl rfl, ev_mem 1552 (by decide +kernel) (by decide +kernel)⟩
set_option maxRecDepth 100000 in
theorem k_J5_append_3fe6f (v9 : Value) : ev_MK (ev_B0 v9) m_J5_append_3fe6f := ⟨by decide +kernel, ev_dec_all _ _ (by decide +kernel), rfl, Or.inl rfl, ev_mem 1555 (by decide +kernel) (by decide +kernel)⟩
set_option maxRecDepth 100000 in
theorem k_J1_canEncode_fc78d (v9 : Value) : ev_MK (ev_B0 v9) m_J1_canEncode_fc78d := ⟨by decide +kernel, ev_dec_all _ _ (by decide +kernel), rfl, Or.inl rfl, ev_mem 1558 (by decide +kernel) (by decide +kernel)⟩
set_option maxRecDepth 100000 in
theorem k_J0_checkIndex_df160 (v9 : Value) : ev_MK (ev_B0 v9) m_J0_checkIndex_df160 := ⟨by decide +kernel, ev_dec_all _ _ (by decide +kernel), rfl, Or.inl rfl, ev_mem 1567 (by decide +kernel) (by decide +kernel)⟩
set_option maxRecDepth 100000 in
theorem k_J3_checkIndex_8e157 (v9 : Value) : ev_MK (ev_B0 v9) m_J3_checkIndex_8e157 := ⟨by decide +kernel, ev_dec_all _ _ (by decide +kernel), rfl, Or.inl rfl, ev_mem 1570 (by decide +kernel) (by decide +kernel)⟩
set_option maxRecDepth 100000 in
theorem k_L_writeCat (v9 : Value) : ev_MK (ev_B0 v9) m_L_writeCat := ⟨by decide +kernel, ev_dec_all _ _ (by decide +kernel), rfl, Or.inr rfl, ev_mem 1574 (by decide +kernel) (by decide +kernel)⟩
set_option maxRecDepth 100000 in
theorem k_X8_writeCat (v9 : Value) : ev_MK (ev_B0 v9) m_X8_writeCat := ⟨by decide +kernel, ev_dec_all _ _ (by decide +kernel), rfl, Or.inl rfl, ev_mem 1578 (by decide +kernel) (by decide +kernel)⟩
set_option maxRecDepth 100000 in
theorem k_L_outputAt (v9 : Value) : ev_MK (ev_B0 v9) m_L_outputAt := ⟨by decide +kernel, ev_dec_all _ _ (by decide +kernel), rfl, Or.inr rfl, ev_mem 1582 (by decide +kernel) (by decide +kernel)⟩
set_option maxRecDepth 100000 in
theorem k_X8_outputAt (v9 : Value) : ev_MK (ev_B0 v9) m_X8_outputAt := ⟨by decide +kernel, ev_dec_all _ _ (by decide +kernel), rfl, Or.inl rfl, ev_mem 1586 (by decide +kernel) (by decide +kernel)⟩
set_option maxRecDepth 100000 in
theorem k_J4_charAt_5068e (v9 : Value) : ev_MK (ev_B0 v9) m_J4_charAt_5068e := ⟨by decide +kernel, ev_dec_all _ _ (by decide +kernel), rfl, Or.inl rfl, ev_mem 1591 (by decide +kernel) (by decide +kernel)⟩
set_option maxRecDepth 100000 in
theorem k_J5_charAt_5068e (v9 : Value) : ev_MK (ev_B0 v9) m_J5_charAt_5068e := ⟨by decide +kernel, ev_dec_all _ _ (by decide +kernel), rfl, Or.inl rfl, ev_mem 1594 (by decide +kernel) (by decide +kernel)⟩
set_option maxRecDepth 100000 in
theorem k_L_appendInput (v9 : Value) : ev_MK (ev_B0 v9) m_L_appendInput := ⟨by decide +kernel, ev_dec_all _ _ (by decide +kernel), rfl, Or.inr rfl, ev_mem 1600 (by decide +kernel) (by decide +kernel)⟩
set_option maxRecDepth 100000 in
theorem k_X8_appendInput (v9 : Value) : ev_MK (ev_B0 v9) m_X8_appendInput := ⟨by decide +kernel, ev_dec_all _ _ (by decide +kernel), rfl, Or.inl rfl, ev_mem 1605 (by decide +kernel) (by decide +kernel)⟩
set_option maxRecDepth 100000 in
theorem k_L_execute (v9 : Value) : ev_MK (ev_B0 v9) m_L_execute := ⟨by decide +kernel, ev_dec_all _ _ (by decide +kernel), rfl, Or.inr rfl, ev_mem 1625 (by decide +kernel) (by decide +kernel)⟩
set_option maxRecDepth 100000 in
theorem k_X8_execute (v9 : Value) : ev_MK (ev_B0 v9) m_X8_execute := ⟨by decide +kernel, ev_dec_all _ _ (by decide +kernel), rfl, Or.inl rfl, ev_mem 1629 (by decide +kernel) (by decide +kernel)⟩
set_option maxRecDepth 100000 in
theorem k_X6_countCommands (v9 : Value) : ev_MK (ev_B0 v9) m_X6_countCommands := ⟨by decide +kernel, ev_dec_all _ _ (by decide +kernel), rfl, Or.inl rfl, ev_mem 1633 (by decide +kernel) (by decide +kernel)⟩
set_option maxRecDepth 100000 in
theorem k_X6_readCommand (v9 : Value) : ev_MK (ev_B0 v9) m_X6_readCommand := ⟨by decide +kernel, ev_dec_all _ _ (by decide +kernel), rfl, Or.inl rfl, ev_mem 1637 (by decide +kernel) (by decide +kernel)⟩
set_option maxRecDepth 100000 in
theorem k_X6_peek (v9 : Value) : ev_MK (ev_B0 v9) m_X6_peek := ⟨by decide +kernel, ev_dec_all _ _ (by decide +kernel), rfl, Or.inl rfl, ev_mem 1641 (by decide +kernel) (by decide +kernel)⟩
set_option maxRecDepth 100000 in
theorem k_X6_takeWord (v9 : Value) : ev_MK (ev_B0 v9) m_X6_takeWord := ⟨by decide +kernel, ev_dec_all _ _ (by decide +kernel), rfl, Or.inl rfl, ev_mem 1648 (by decide +kernel) (by decide +kernel)⟩
set_option maxRecDepth 100000 in
theorem k_J0_charAt_5068e (v9 : Value) : ev_MK (ev_B0 v9) m_J0_charAt_5068e := ⟨by decide +kernel, ev_dec_all _ _ (by decide +kernel), rfl, Or.inl rfl, ev_mem 1653 (by decide +kernel) (by decide +kernel)⟩
set_option maxRecDepth 100000 in
theorem k_J0_isLatin1_aae02 (v9 : Value) : ev_MK (ev_B0 v9) m_J0_isLatin1_aae02 := ⟨by decide +kernel, ev_dec_all _ _ (by decide +kernel), rfl, Or.inl rfl, ev_mem 1657 (by decide +kernel) (by decide +kernel)⟩
set_option maxRecDepth 100000 in
theorem k_J1_charAt_3b067 (v9 : Value) : ev_MK (ev_B0 v9) m_J1_charAt_3b067 := ⟨by decide +kernel, ev_dec_all _ _ (by decide +kernel), rfl, Or.inl rfl, ev_mem 1660 (by decide +kernel) (by decide +kernel)⟩
set_option maxRecDepth 100000 in
theorem k_X6_takeNumber (v9 : Value) : ev_MK (ev_B0 v9) m_X6_takeNumber := ⟨by decide +kernel, ev_dec_all _ _ (by decide +kernel), rfl, Or.inl rfl, ev_mem 1668 (by decide +kernel) (by decide +kernel)⟩
set_option maxRecDepth 100000 in
theorem k_X6_isDigit (v9 : Value) : ev_MK (ev_B0 v9) m_X6_isDigit := ⟨by decide +kernel, ev_dec_all _ _ (by decide +kernel), rfl, Or.inl rfl, ev_mem 1671 (by decide +kernel) (by decide +kernel)⟩
set_option maxRecDepth 100000 in
theorem k_X6_takeRanking (v9 : Value) : ev_MK (ev_B0 v9) m_X6_takeRanking := ⟨by decide +kernel, ev_dec_all _ _ (by decide +kernel), rfl, Or.inl rfl, ev_mem 1676 (by decide +kernel) (by decide +kernel)⟩
set_option maxRecDepth 100000 in
theorem k_X6_takeFirst (v9 : Value) : ev_MK (ev_B0 v9) m_X6_takeFirst := ⟨by decide +kernel, ev_dec_all _ _ (by decide +kernel), rfl, Or.inl rfl, ev_mem 1681 (by decide +kernel) (by decide +kernel)⟩
set_option maxRecDepth 100000 in
theorem k_J0_indexOf_0f7a4 (v9 : Value) : ev_MK (ev_B0 v9) m_J0_indexOf_0f7a4 := ⟨by decide +kernel, ev_dec_all _ _ (by decide +kernel), rfl, Or.inl rfl, ev_mem 1685 (by decide +kernel) (by decide +kernel)⟩
set_option maxRecDepth 100000 in
theorem k_J0_indexOf_7cf53 (v9 : Value) : ev_MK (ev_B0 v9) m_J0_indexOf_7cf53 := ⟨by decide +kernel, ev_dec_all _ _ (by decide +kernel), rfl, Or.inl rfl, ev_mem 1689 (by decide +kernel) (by decide +kernel)⟩
set_option maxRecDepth 100000 in
theorem k_J1_indexOf_4cfef (v9 : Value) : ev_MK (ev_B0 v9) m_J1_indexOf_4cfef := ⟨by decide +kernel, ev_dec_all _ _ (by decide +kernel), rfl, Or.inl rfl, ev_mem 1693 (by decide +kernel) (by decide +kernel)⟩
set_option maxRecDepth 100000 in
theorem k_J1_canEncode_9a6ad (v9 : Value) : ev_MK (ev_B0 v9) m_J1_canEncode_9a6ad := ⟨by decide +kernel, ev_dec_all _ _ (by decide +kernel), rfl, Or.inl rfl, ev_mem 1696 (by decide +kernel) (by decide +kernel)⟩
set_option maxRecDepth 100000 in
theorem k_J1_indexOfChar_4cfef (v9 : Value) : ev_MK (ev_B0 v9) m_J1_indexOfChar_4cfef := ⟨by decide +kernel, ev_dec_all _ _ (by decide +kernel), rfl, Or.inl rfl, ev_mem 1701 (by decide +kernel) (by decide +kernel)⟩
set_option maxRecDepth 100000 in
theorem k_X6_readMirrorOrMethod (v9 : Value) : ev_MK (ev_B0 v9) m_X6_readMirrorOrMethod := ⟨by decide +kernel, ev_dec_all _ _ (by decide +kernel), rfl, Or.inl rfl, ev_mem 1732 (by decide +kernel) (by decide +kernel)⟩
set_option maxRecDepth 100000 in
theorem k_X8_runNextCommand (v9 : Value) : ev_MK (ev_B0 v9) m_X8_runNextCommand := ⟨by decide +kernel, ev_dec_all _ _ (by decide +kernel), rfl, Or.inl rfl, ev_mem 1746 (by decide +kernel) (by decide +kernel)⟩
set_option maxRecDepth 100000 in
theorem k_X6_skipSeparator (v9 : Value) : ev_MK (ev_B0 v9) m_X6_skipSeparator := ⟨by decide +kernel, ev_dec_all _ _ (by decide +kernel), rfl, Or.inl rfl, ev_mem 1750 (by decide +kernel) (by decide +kernel)⟩
set_option maxRecDepth 100000 in
theorem k_X8_runCat (v9 : Value) : ev_MK (ev_B0 v9) m_X8_runCat := ⟨by decide +kernel, ev_dec_all _ _ (by decide +kernel), rfl, Or.inl rfl, ev_mem 1755 (by decide +kernel) (by decide +kernel)⟩
set_option maxRecDepth 100000 in
theorem k_X8_runMirror (v9 : Value) : ev_MK (ev_B0 v9) m_X8_runMirror := ⟨by decide +kernel, ev_dec_all _ _ (by decide +kernel), rfl, Or.inl rfl, ev_mem 1759 (by decide +kernel) (by decide +kernel)⟩
set_option maxRecDepth 100000 in
theorem k_X8_runSay (v9 : Value) : ev_MK (ev_B0 v9) m_X8_runSay := ⟨by decide +kernel, ev_dec_all _ _ (by decide +kernel), rfl, Or.inl rfl, ev_mem 1763 (by decide +kernel) (by decide +kernel)⟩
set_option maxRecDepth 100000 in
theorem k_X3_returnToMarked (v9 : Value) : ev_MK (ev_B0 v9) m_X3_returnToMarked := ⟨by decide +kernel, ev_dec_all _ _ (by decide +kernel), rfl, Or.inl rfl, ev_mem 1768 (by decide +kernel) (by decide +kernel)⟩
set_option maxRecDepth 100000 in
theorem k_L_syntaxErrorOffset (v9 : Value) : ev_MK (ev_B0 v9) m_L_syntaxErrorOffset := ⟨by decide +kernel, ev_dec_all _ _ (by decide +kernel), rfl, Or.inr rfl, ev_mem 1773 (by decide +kernel) (by decide +kernel)⟩
set_option maxRecDepth 100000 in
theorem k_X8_syntaxErrorOffset (v9 : Value) : ev_MK (ev_B0 v9) m_X8_syntaxErrorOffset := ⟨by decide +kernel, ev_dec_all _ _ (by decide +kernel), rfl, Or.inl rfl, ev_mem 1777 (by decide +kernel) (by decide +kernel)⟩
set_option maxRecDepth 100000 in
theorem k_L_rejectionReason (v9 : Value) : ev_MK (ev_B0 v9) m_L_rejectionReason := ⟨by decide +kernel, ev_dec_all _ _ (by decide +kernel), rfl, Or.inr rfl, ev_mem 1781 (by decide +kernel) (by decide +kernel)⟩
set_option maxRecDepth 100000 in
theorem k_X8_rejectionReason (v9 : Value) : ev_MK (ev_B0 v9) m_X8_rejectionReason := ⟨by decide +kernel, ev_dec_all _ _ (by decide +kernel), rfl, Or.inl rfl, ev_mem 1785 (by decide +kernel) (by decide +kernel)⟩
set_option maxRecDepth 100000 in
theorem k_X8_requireRejection (v9 : Value) : ev_MK (ev_B0 v9) m_X8_requireRejection := ⟨by decide +kernel, ev_dec_all _ _ (by decide +kernel), rfl, Or.inl rfl, ev_mem 1789 (by decide +kernel) (by decide +kernel)⟩
set_option maxRecDepth 100000 in
theorem k_L_rejectionDetail (v9 : Value) : ev_MK (ev_B0 v9) m_L_rejectionDetail := ⟨by decide +kernel, ev_dec_all _ _ (by decide +kernel), rfl, Or.inr rfl, ev_mem 1793 (by decide +kernel) (by decide +kernel)⟩
set_option maxRecDepth 100000 in
theorem k_X8_rejectionDetail (v9 : Value) : ev_MK (ev_B0 v9) m_X8_rejectionDetail := ⟨by decide +kernel, ev_dec_all _ _ (by decide +kernel), rfl, Or.inl rfl, ev_mem 1797 (by decide +kernel) (by decide +kernel)⟩
set_option maxRecDepth 100000 in
theorem k_L_causeReason (v9 : Value) : ev_MK (ev_B0 v9) m_L_causeReason := ⟨by decide +kernel, ev_dec_all _ _ (by decide +kernel), rfl, Or.inr rfl, ev_mem 1800 (by decide +kernel) (by decide +kernel)⟩
set_option maxRecDepth 100000 in
theorem k_X8_causeReason (v9 : Value) : ev_MK (ev_B0 v9) m_X8_causeReason := ⟨by decide +kernel, ev_dec_all _ _ (by decide +kernel), rfl, Or.inl rfl, ev_mem 1804 (by decide +kernel) (by decide +kernel)⟩
set_option maxRecDepth 100000 in
theorem k_L_undo (v9 : Value) : ev_MK (ev_B0 v9) m_L_undo := ⟨by decide +kernel, ev_dec_all _ _ (by decide +kernel), rfl, Or.inr rfl, ev_mem 1808 (by decide +kernel) (by decide +kernel)⟩
set_option maxRecDepth 100000 in
theorem k_X8_undo (v9 : Value) : ev_MK (ev_B0 v9) m_X8_undo := ⟨by decide +kernel, ev_dec_all _ _ (by decide +kernel), rfl, Or.inl rfl, ev_mem 1812 (by decide +kernel) (by decide +kernel)⟩
set_option maxRecDepth 100000 in
theorem k_X3_stepBack (v9 : Value) : ev_MK (ev_B0 v9) m_X3_stepBack := ⟨by decide +kernel, ev_dec_all _ _ (by decide +kernel), rfl, Or.inl rfl, ev_mem 1817 (by decide +kernel) (by decide +kernel)⟩
set_option maxRecDepth 100000 in
theorem k_L_restoreSnapshot (v9 : Value) : ev_MK (ev_B0 v9) m_L_restoreSnapshot := ⟨by decide +kernel, ev_dec_all _ _ (by decide +kernel), rfl, Or.inr rfl, ev_mem 1821 (by decide +kernel) (by decide +kernel)⟩
set_option maxRecDepth 100000 in
theorem k_X8_restoreSnapshot (v9 : Value) : ev_MK (ev_B0 v9) m_X8_restoreSnapshot := ⟨by decide +kernel, ev_dec_all _ _ (by decide +kernel), rfl, Or.inl rfl, ev_mem 1825 (by decide +kernel) (by decide +kernel)⟩
set_option maxRecDepth 100000 in
theorem k_X9_init (v9 : Value) : ev_MK (ev_B0 v9) m_X9_init := ⟨by decide +kernel, ev_dec_all _ _ (by decide +kernel), rfl, Or.inl rfl, ev_mem 1831 (by decide +kernel) (by decide +kernel)⟩
set_option maxRecDepth 100000 in
theorem k_X9_thrown (v9 : Value) : ev_MK (ev_B0 v9) m_X9_thrown := ⟨by decide +kernel, ev_dec_all _ _ (by decide +kernel), rfl, Or.inl rfl, ev_mem 1921 (by decide +kernel) (by decide +kernel)⟩
set_option maxRecDepth 100000 in
theorem k_X9_addCat (v9 : Value) : ev_MK (ev_B0 v9) m_X9_addCat := ⟨by decide +kernel, ev_dec_all _ _ (by decide +kernel), rfl, Or.inl rfl, ev_mem 1925 (by decide +kernel) (by decide +kernel)⟩
set_option maxRecDepth 100000 in
theorem k_X9_keeps (v9 : Value) : ev_MK (ev_B0 v9) m_X9_keeps := ⟨by decide +kernel, ev_dec_all _ _ (by decide +kernel), rfl, Or.inl rfl, ev_mem 1929 (by decide +kernel) (by decide +kernel)⟩
set_option maxRecDepth 100000 in
theorem k_X9_copies (v9 : Value) : ev_MK (ev_B0 v9) m_X9_copies := ⟨by decide +kernel, ev_dec_all _ _ (by decide +kernel), rfl, Or.inl rfl, ev_mem 1932 (by decide +kernel) (by decide +kernel)⟩
set_option maxRecDepth 100000 in
theorem k_X9_cats (v9 : Value) : ev_MK (ev_B0 v9) m_X9_cats := ⟨by decide +kernel, ev_dec_all _ _ (by decide +kernel), rfl, Or.inl rfl, ev_mem 1936 (by decide +kernel) (by decide +kernel)⟩
set_option maxRecDepth 100000 in
theorem k_X9_isCell (v9 : Value) : ev_MK (ev_B0 v9) m_X9_isCell := ⟨by decide +kernel, ev_dec_all _ _ (by decide +kernel), rfl, Or.inl rfl, ev_mem 1939 (by decide +kernel) (by decide +kernel)⟩
set_option maxRecDepth 100000 in
theorem k_X9_isIn (v9 : Value) : ev_MK (ev_B0 v9) m_X9_isIn := ⟨by decide +kernel, ev_dec_all _ _ (by decide +kernel), rfl, Or.inl rfl, ev_mem 1942 (by decide +kernel) (by decide +kernel)⟩
set_option maxRecDepth 100000 in
theorem k_X9_isThrown (v9 : Value) : ev_MK (ev_B0 v9) m_X9_isThrown := ⟨by decide +kernel, ev_dec_all _ _ (by decide +kernel), rfl, Or.inl rfl, ev_mem 1946 (by decide +kernel) (by decide +kernel)⟩
set_option maxRecDepth 100000 in
theorem k_X9_areThree (v9 : Value) : ev_MK (ev_B0 v9) m_X9_areThree := ⟨by decide +kernel, ev_dec_all _ _ (by decide +kernel), rfl, Or.inl rfl, ev_mem 1949 (by decide +kernel) (by decide +kernel)⟩
set_option maxRecDepth 100000 in
theorem k_X9_isOption (v9 : Value) : ev_MK (ev_B0 v9) m_X9_isOption := ⟨by decide +kernel, ev_dec_all _ _ (by decide +kernel), rfl, Or.inl rfl, ev_mem 1952 (by decide +kernel) (by decide +kernel)⟩
set_option maxRecDepth 100000 in
theorem k_X9_isRejected (v9 : Value) : ev_MK (ev_B0 v9) m_X9_isRejected := ⟨by decide +kernel, ev_dec_all _ _ (by decide +kernel), rfl, Or.inl rfl, ev_mem 1956 (by decide +kernel) (by decide +kernel)⟩
set_option maxRecDepth 100000 in
theorem k_X9_catOn (v9 : Value) : ev_MK (ev_B0 v9) m_X9_catOn := ⟨by decide +kernel, ev_dec_all _ _ (by decide +kernel), rfl, Or.inl rfl, ev_mem 1960 (by decide +kernel) (by decide +kernel)⟩
set_option maxRecDepth 100000 in
theorem k_X9_of (v9 : Value) : ev_MK (ev_B0 v9) m_X9_of := ⟨by decide +kernel, ev_dec_all _ _ (by decide +kernel), rfl, Or.inl rfl, ev_mem 1964 (by decide +kernel) (by decide +kernel)⟩
set_option maxRecDepth 100000 in
theorem k_X9_sets (v9 : Value) : ev_MK (ev_B0 v9) m_X9_sets := ⟨by decide +kernel, ev_dec_all _ _ (by decide +kernel), rfl, Or.inl rfl, ev_mem 1968 (by decide +kernel) (by decide +kernel)⟩
set_option maxRecDepth 100000 in
theorem k_X9_ends (v9 : Value) : ev_MK (ev_B0 v9) m_X9_ends := ⟨by decide +kernel, ev_dec_all _ _ (by decide +kernel), rfl, Or.inl rfl, ev_mem 1972 (by decide +kernel) (by decide +kernel)⟩
set_option maxRecDepth 100000 in
theorem k_X9_setMirror (v9 : Value) : ev_MK (ev_B0 v9) m_X9_setMirror := ⟨by decide +kernel, ev_dec_all _ _ (by decide +kernel), rfl, Or.inl rfl, ev_mem 1976 (by decide +kernel) (by decide +kernel)⟩
set_option maxRecDepth 100000 in
theorem k_X9_mirror (v9 : Value) : ev_MK (ev_B0 v9) m_X9_mirror := ⟨by decide +kernel, ev_dec_all _ _ (by decide +kernel), rfl, Or.inl rfl, ev_mem 1980 (by decide +kernel) (by decide +kernel)⟩
set_option maxRecDepth 100000 in
theorem k_X9_isContent (v9 : Value) : ev_MK (ev_B0 v9) m_X9_isContent := ⟨by decide +kernel, ev_dec_all _ _ (by decide +kernel), rfl, Or.inl rfl, ev_mem 1983 (by decide +kernel) (by decide +kernel)⟩
set_option maxRecDepth 100000 in
theorem k_X9_mirrors (v9 : Value) : ev_MK (ev_B0 v9) m_X9_mirrors := ⟨by decide +kernel, ev_dec_all _ _ (by decide +kernel), rfl, Or.inl rfl, ev_mem 1987 (by decide +kernel) (by decide +kernel)⟩
set_option maxRecDepth 100000 in
theorem k_X9_catCount (v9 : Value) : ev_MK (ev_B0 v9) m_X9_catCount := ⟨by decide +kernel, ev_dec_all _ _ (by decide +kernel), rfl, Or.inl rfl, ev_mem 1991 (by decide +kernel) (by decide +kernel)⟩
set_option maxRecDepth 100000 in
theorem k_X9_cellOf (v9 : Value) : ev_MK (ev_B0 v9) m_X9_cellOf := ⟨by decide +kernel, ev_dec_all _ _ (by decide +kernel), rfl, Or.inl rfl, ev_mem 1995 (by decide +kernel) (by decide +kernel)⟩
set_option maxRecDepth 100000 in
theorem k_X9_isCat (v9 : Value) : ev_MK (ev_B0 v9) m_X9_isCat := ⟨by decide +kernel, ev_dec_all _ _ (by decide +kernel), rfl, Or.inl rfl, ev_mem 1999 (by decide +kernel) (by decide +kernel)⟩
set_option maxRecDepth 100000 in
theorem k_X9_catIn (v9 : Value) : ev_MK (ev_B0 v9) m_X9_catIn := ⟨by decide +kernel, ev_dec_all _ _ (by decide +kernel), rfl, Or.inl rfl, ev_mem 2003 (by decide +kernel) (by decide +kernel)⟩
set_option maxRecDepth 100000 in
theorem k_X9_contentOf (v9 : Value) : ev_MK (ev_B0 v9) m_X9_contentOf := ⟨by decide +kernel, ev_dec_all _ _ (by decide +kernel), rfl, Or.inl rfl, ev_mem 2007 (by decide +kernel) (by decide +kernel)⟩
set_option maxRecDepth 100000 in
theorem k_X9_content (v9 : Value) : ev_MK (ev_B0 v9) m_X9_content := ⟨by decide +kernel, ev_dec_all _ _ (by decide +kernel), rfl, Or.inl rfl, ev_mem 2011 (by decide +kernel) (by decide +kernel)⟩
set_option maxRecDepth 100000 in
theorem k_X9_optionAt (v9 : Value) : ev_MK (ev_B0 v9) m_X9_optionAt := ⟨by decide +kernel, ev_dec_all _ _ (by decide +kernel), rfl, Or.inl rfl, ev_mem 2015 (by decide +kernel) (by decide +kernel)⟩
set_option maxRecDepth 100000 in
theorem k_X9_placeOf (v9 : Value) : ev_MK (ev_B0 v9) m_X9_placeOf := ⟨by decide +kernel, ev_dec_all _ _ (by decide +kernel), rfl, Or.inl rfl, ev_mem 2019 (by decide +kernel) (by decide +kernel)⟩
set_option maxRecDepth 100000 in
theorem k_X9_place (v9 : Value) : ev_MK (ev_B0 v9) m_X9_place := ⟨by decide +kernel, ev_dec_all _ _ (by decide +kernel), rfl, Or.inl rfl, ev_mem 2023 (by decide +kernel) (by decide +kernel)⟩
set_option maxRecDepth 100000 in
theorem k_X9_heardBy (v9 : Value) : ev_MK (ev_B0 v9) m_X9_heardBy := ⟨by decide +kernel, ev_dec_all _ _ (by decide +kernel), rfl, Or.inl rfl, ev_mem 2027 (by decide +kernel) (by decide +kernel)⟩
set_option maxRecDepth 100000 in
theorem k_X9_rayEnd (v9 : Value) : ev_MK (ev_B0 v9) m_X9_rayEnd := ⟨by decide +kernel, ev_dec_all _ _ (by decide +kernel), rfl, Or.inl rfl, ev_mem 2031 (by decide +kernel) (by decide +kernel)⟩
set_option maxRecDepth 100000 in
theorem k_X9_isNoPort (v9 : Value) : ev_MK (ev_B0 v9) m_X9_isNoPort := ⟨by decide +kernel, ev_dec_all _ _ (by decide +kernel), rfl, Or.inl rfl, ev_mem 2035 (by decide +kernel) (by decide +kernel)⟩
set_option maxRecDepth 100000 in
theorem k_X9_isPort (v9 : Value) : ev_MK (ev_B0 v9) m_X9_isPort := ⟨by decide +kernel, ev_dec_all _ _ (by decide +kernel), rfl, Or.inl rfl, ev_mem 2038 (by decide +kernel) (by decide +kernel)⟩
set_option maxRecDepth 100000 in
theorem k_X9_shines (v9 : Value) : ev_MK (ev_B0 v9) m_X9_shines := ⟨by decide +kernel, ev_dec_all _ _ (by decide +kernel), rfl, Or.inl rfl, ev_mem 2042 (by decide +kernel) (by decide +kernel)⟩
set_option maxRecDepth 100000 in
theorem k_X9_firstCell (v9 : Value) : ev_MK (ev_B0 v9) m_X9_firstCell := ⟨by decide +kernel, ev_dec_all _ _ (by decide +kernel), rfl, Or.inl rfl, ev_mem 2045 (by decide +kernel) (by decide +kernel)⟩
set_option maxRecDepth 100000 in
theorem k_X9_firstWay (v9 : Value) : ev_MK (ev_B0 v9) m_X9_firstWay := ⟨by decide +kernel, ev_dec_all _ _ (by decide +kernel), rfl, Or.inl rfl, ev_mem 2048 (by decide +kernel) (by decide +kernel)⟩
set_option maxRecDepth 100000 in
theorem k_X9_reflected (v9 : Value) : ev_MK (ev_B0 v9) m_X9_reflected := ⟨by decide +kernel, ev_dec_all _ _ (by decide +kernel), rfl, Or.inl rfl, ev_mem 2052 (by decide +kernel) (by decide +kernel)⟩
set_option maxRecDepth 100000 in
theorem k_X9_next (v9 : Value) : ev_MK (ev_B0 v9) m_X9_next := ⟨by decide +kernel, ev_dec_all _ _ (by decide +kernel), rfl, Or.inl rfl, ev_mem 2055 (by decide +kernel) (by decide +kernel)⟩
set_option maxRecDepth 100000 in
theorem k_X9_rayEndByJoining (v9 : Value) : ev_MK (ev_B0 v9) m_X9_rayEndByJoining := ⟨by decide +kernel, ev_dec_all _ _ (by decide +kernel), rfl, Or.inl rfl, ev_mem 2059 (by decide +kernel) (by decide +kernel)⟩
set_option maxRecDepth 100000 in
theorem k_X9_rayCat (v9 : Value) : ev_MK (ev_B0 v9) m_X9_rayCat := ⟨by decide +kernel, ev_dec_all _ _ (by decide +kernel), rfl, Or.inl rfl, ev_mem 2064 (by decide +kernel) (by decide +kernel)⟩
set_option maxRecDepth 100000 in
theorem k_X9_rayLength (v9 : Value) : ev_MK (ev_B0 v9) m_X9_rayLength := ⟨by decide +kernel, ev_dec_all _ _ (by decide +kernel), rfl, Or.inl rfl, ev_mem 2068 (by decide +kernel) (by decide +kernel)⟩
set_option maxRecDepth 100000 in
theorem k_X9_rayBounces (v9 : Value) : ev_MK (ev_B0 v9) m_X9_rayBounces := ⟨by decide +kernel, ev_dec_all _ _ (by decide +kernel), rfl, Or.inl rfl, ev_mem 2072 (by decide +kernel) (by decide +kernel)⟩
set_option maxRecDepth 100000 in
theorem k_X9_leastEffort (v9 : Value) : ev_MK (ev_B0 v9) m_X9_leastEffort := ⟨by decide +kernel, ev_dec_all _ _ (by decide +kernel), rfl, Or.inl rfl, ev_mem 2076 (by decide +kernel) (by decide +kernel)⟩
set_option maxRecDepth 100000 in
theorem k_X9_effort (v9 : Value) : ev_MK (ev_B0 v9) m_X9_effort := ⟨by decide +kernel, ev_dec_all _ _ (by decide +kernel), rfl, Or.inl rfl, ev_mem 2080 (by decide +kernel) (by decide +kernel)⟩
set_option maxRecDepth 100000 in
theorem k_X9_lowers (v9 : Value) : ev_MK (ev_B0 v9) m_X9_lowers := ⟨by decide +kernel, ev_dec_all _ _ (by decide +kernel), rfl, Or.inl rfl, ev_mem 2084 (by decide +kernel) (by decide +kernel)⟩
set_option maxRecDepth 100000 in
theorem k_X9_goesOn (v9 : Value) : ev_MK (ev_B0 v9) m_X9_goesOn := ⟨by decide +kernel, ev_dec_all _ _ (by decide +kernel), rfl, Or.inl rfl, ev_mem 2088 (by decide +kernel) (by decide +kernel)⟩
set_option maxRecDepth 100000 in
theorem k_X9_leastEffortByRounds (v9 : Value) : ev_MK (ev_B0 v9) m_X9_leastEffortByRounds := ⟨by decide +kernel, ev_dec_all _ _ (by decide +kernel), rfl, Or.inl rfl, ev_mem 2092 (by decide +kernel) (by decide +kernel)⟩
set_option maxRecDepth 100000 in
theorem k_X9_portByLength (v9 : Value) : ev_MK (ev_B0 v9) m_X9_portByLength := ⟨by decide +kernel, ev_dec_all _ _ (by decide +kernel), rfl, Or.inl rfl, ev_mem 2097 (by decide +kernel) (by decide +kernel)⟩
set_option maxRecDepth 100000 in
theorem k_X9_rayLengthOf (v9 : Value) : ev_MK (ev_B0 v9) m_X9_rayLengthOf := ⟨by decide +kernel, ev_dec_all _ _ (by decide +kernel), rfl, Or.inl rfl, ev_mem 2101 (by decide +kernel) (by decide +kernel)⟩
set_option maxRecDepth 100000 in
theorem k_X9_testify (v9 : Value) : ev_MK (ev_B0 v9) m_X9_testify := ⟨by decide +kernel, ev_dec_all _ _ (by decide +kernel), rfl, Or.inl rfl, ev_mem 2105 (by decide +kernel) (by decide +kernel)⟩
set_option maxRecDepth 100000 in
theorem k_X9_says (v9 : Value) : ev_MK (ev_B0 v9) m_X9_says := ⟨by decide +kernel, ev_dec_all _ _ (by decide +kernel), rfl, Or.inl rfl, ev_mem 2109 (by decide +kernel) (by decide +kernel)⟩
set_option maxRecDepth 100000 in
theorem k_X9_firstVotes (v9 : Value) : ev_MK (ev_B0 v9) m_X9_firstVotes := ⟨by decide +kernel, ev_dec_all _ _ (by decide +kernel), rfl, Or.inl rfl, ev_mem 2113 (by decide +kernel) (by decide +kernel)⟩
set_option maxRecDepth 100000 in
theorem k_X9_votes (v9 : Value) : ev_MK (ev_B0 v9) m_X9_votes := ⟨by decide +kernel, ev_dec_all _ _ (by decide +kernel), rfl, Or.inl rfl, ev_mem 2117 (by decide +kernel) (by decide +kernel)⟩
set_option maxRecDepth 100000 in
theorem k_X9_prefer (v9 : Value) : ev_MK (ev_B0 v9) m_X9_prefer := ⟨by decide +kernel, ev_dec_all _ _ (by decide +kernel), rfl, Or.inl rfl, ev_mem 2121 (by decide +kernel) (by decide +kernel)⟩
set_option maxRecDepth 100000 in
theorem k_X9_areOptions (v9 : Value) : ev_MK (ev_B0 v9) m_X9_areOptions := ⟨by decide +kernel, ev_dec_all _ _ (by decide +kernel), rfl, Or.inl rfl, ev_mem 2124 (by decide +kernel) (by decide +kernel)⟩
set_option maxRecDepth 100000 in
theorem k_X9_likes (v9 : Value) : ev_MK (ev_B0 v9) m_X9_likes := ⟨by decide +kernel, ev_dec_all _ _ (by decide +kernel), rfl, Or.inl rfl, ev_mem 2128 (by decide +kernel) (by decide +kernel)⟩
set_option maxRecDepth 100000 in
theorem k_X9_pointsOf (v9 : Value) : ev_MK (ev_B0 v9) m_X9_pointsOf := ⟨by decide +kernel, ev_dec_all _ _ (by decide +kernel), rfl, Or.inl rfl, ev_mem 2132 (by decide +kernel) (by decide +kernel)⟩
set_option maxRecDepth 100000 in
theorem k_X9_points (v9 : Value) : ev_MK (ev_B0 v9) m_X9_points := ⟨by decide +kernel, ev_dec_all _ _ (by decide +kernel), rfl, Or.inl rfl, ev_mem 2136 (by decide +kernel) (by decide +kernel)⟩
set_option maxRecDepth 100000 in
theorem k_X9_pointsWinner (v9 : Value) : ev_MK (ev_B0 v9) m_X9_pointsWinner := ⟨by decide +kernel, ev_dec_all _ _ (by decide +kernel), rfl, Or.inl rfl, ev_mem 2140 (by decide +kernel) (by decide +kernel)⟩
set_option maxRecDepth 100000 in
theorem k_X9_byPoints (v9 : Value) : ev_MK (ev_B0 v9) m_X9_byPoints := ⟨by decide +kernel, ev_dec_all _ _ (by decide +kernel), rfl, Or.inl rfl, ev_mem 2144 (by decide +kernel) (by decide +kernel)⟩
set_option maxRecDepth 100000 in
theorem k_X9_roundsWinner (v9 : Value) : ev_MK (ev_B0 v9) m_X9_roundsWinner := ⟨by decide +kernel, ev_dec_all _ _ (by decide +kernel), rfl, Or.inl rfl, ev_mem 2148 (by decide +kernel) (by decide +kernel)⟩
set_option maxRecDepth 100000 in
theorem k_X9_byRounds (v9 : Value) : ev_MK (ev_B0 v9) m_X9_byRounds := ⟨by decide +kernel, ev_dec_all _ _ (by decide +kernel), rfl, Or.inl rfl, ev_mem 2152 (by decide +kernel) (by decide +kernel)⟩
set_option maxRecDepth 100000 in
theorem k_X9_major (v9 : Value) : ev_MK (ev_B0 v9) m_X9_major := ⟨by decide +kernel, ev_dec_all _ _ (by decide +kernel), rfl, Or.inl rfl, ev_mem 2156 (by decide +kernel) (by decide +kernel)⟩
set_option maxRecDepth 100000 in
theorem k_X9_leaves (v9 : Value) : ev_MK (ev_B0 v9) m_X9_leaves := ⟨by decide +kernel, ev_dec_all _ _ (by decide +kernel), rfl, Or.inl rfl, ev_mem 2160 (by decide +kernel) (by decide +kernel)⟩
set_option maxRecDepth 100000 in
theorem k_X9_rounds (v9 : Value) : ev_MK (ev_B0 v9) m_X9_rounds := ⟨by decide +kernel, ev_dec_all _ _ (by decide +kernel), rfl, Or.inl rfl, ev_mem 2164 (by decide +kernel) (by decide +kernel)⟩
set_option maxRecDepth 100000 in
theorem k_X9_strengthOf (v9 : Value) : ev_MK (ev_B0 v9) m_X9_strengthOf := ⟨by decide +kernel, ev_dec_all _ _ (by decide +kernel), rfl, Or.inl rfl, ev_mem 2168 (by decide +kernel) (by decide +kernel)⟩
set_option maxRecDepth 100000 in
theorem k_X9_strengths (v9 : Value) : ev_MK (ev_B0 v9) m_X9_strengths := ⟨by decide +kernel, ev_dec_all _ _ (by decide +kernel), rfl, Or.inl rfl, ev_mem 2172 (by decide +kernel) (by decide +kernel)⟩
set_option maxRecDepth 100000 in
theorem k_X9_strengthByTrying (v9 : Value) : ev_MK (ev_B0 v9) m_X9_strengthByTrying := ⟨by decide +kernel, ev_dec_all _ _ (by decide +kernel), rfl, Or.inl rfl, ev_mem 2176 (by decide +kernel) (by decide +kernel)⟩
set_option maxRecDepth 100000 in
theorem k_X9_strengthWinner (v9 : Value) : ev_MK (ev_B0 v9) m_X9_strengthWinner := ⟨by decide +kernel, ev_dec_all _ _ (by decide +kernel), rfl, Or.inl rfl, ev_mem 2181 (by decide +kernel) (by decide +kernel)⟩
set_option maxRecDepth 100000 in
theorem k_X9_byStrengths (v9 : Value) : ev_MK (ev_B0 v9) m_X9_byStrengths := ⟨by decide +kernel, ev_dec_all _ _ (by decide +kernel), rfl, Or.inl rfl, ev_mem 2185 (by decide +kernel) (by decide +kernel)⟩
set_option maxRecDepth 100000 in
theorem k_X9_isDominant (v9 : Value) : ev_MK (ev_B0 v9) m_X9_isDominant := ⟨by decide +kernel, ev_dec_all _ _ (by decide +kernel), rfl, Or.inl rfl, ev_mem 2189 (by decide +kernel) (by decide +kernel)⟩
set_option maxRecDepth 100000 in
theorem k_X9_dominates (v9 : Value) : ev_MK (ev_B0 v9) m_X9_dominates := ⟨by decide +kernel, ev_dec_all _ _ (by decide +kernel), rfl, Or.inl rfl, ev_mem 2193 (by decide +kernel) (by decide +kernel)⟩
set_option maxRecDepth 100000 in
theorem k_X9_setMethod (v9 : Value) : ev_MK (ev_B0 v9) m_X9_setMethod := ⟨by decide +kernel, ev_dec_all _ _ (by decide +kernel), rfl, Or.inl rfl, ev_mem 2197 (by decide +kernel) (by decide +kernel)⟩
set_option maxRecDepth 100000 in
theorem k_X9_methods (v9 : Value) : ev_MK (ev_B0 v9) m_X9_methods := ⟨by decide +kernel, ev_dec_all _ _ (by decide +kernel), rfl, Or.inl rfl, ev_mem 2201 (by decide +kernel) (by decide +kernel)⟩
set_option maxRecDepth 100000 in
theorem k_X9_method (v9 : Value) : ev_MK (ev_B0 v9) m_X9_method := ⟨by decide +kernel, ev_dec_all _ _ (by decide +kernel), rfl, Or.inl rfl, ev_mem 2205 (by decide +kernel) (by decide +kernel)⟩
set_option maxRecDepth 100000 in
theorem k_X9_deliberate (v9 : Value) : ev_MK (ev_B0 v9) m_X9_deliberate := ⟨by decide +kernel, ev_dec_all _ _ (by decide +kernel), rfl, Or.inl rfl, ev_mem 2209 (by decide +kernel) (by decide +kernel)⟩
set_option maxRecDepth 100000 in
theorem k_X9_votesAll (v9 : Value) : ev_MK (ev_B0 v9) m_X9_votesAll := ⟨by decide +kernel, ev_dec_all _ _ (by decide +kernel), rfl, Or.inl rfl, ev_mem 2213 (by decide +kernel) (by decide +kernel)⟩
set_option maxRecDepth 100000 in
theorem k_X9_winner (v9 : Value) : ev_MK (ev_B0 v9) m_X9_winner := ⟨by decide +kernel, ev_dec_all _ _ (by decide +kernel), rfl, Or.inl rfl, ev_mem 2217 (by decide +kernel) (by decide +kernel)⟩
set_option maxRecDepth 100000 in
theorem k_X9_retry (v9 : Value) : ev_MK (ev_B0 v9) m_X9_retry := ⟨by decide +kernel, ev_dec_all _ _ (by decide +kernel), rfl, Or.inl rfl, ev_mem 2221 (by decide +kernel) (by decide +kernel)⟩
set_option maxRecDepth 100000 in
theorem k_X9_retries (v9 : Value) : ev_MK (ev_B0 v9) m_X9_retries := ⟨by decide +kernel, ev_dec_all _ _ (by decide +kernel), rfl, Or.inl rfl, ev_mem 2225 (by decide +kernel) (by decide +kernel)⟩
set_option maxRecDepth 100000 in
theorem k_X9_isCaused (v9 : Value) : ev_MK (ev_B0 v9) m_X9_isCaused := ⟨by decide +kernel, ev_dec_all _ _ (by decide +kernel), rfl, Or.inl rfl, ev_mem 2229 (by decide +kernel) (by decide +kernel)⟩
set_option maxRecDepth 100000 in
theorem k_X9_hasCause (v9 : Value) : ev_MK (ev_B0 v9) m_X9_hasCause := ⟨by decide +kernel, ev_dec_all _ _ (by decide +kernel), rfl, Or.inl rfl, ev_mem 2233 (by decide +kernel) (by decide +kernel)⟩
set_option maxRecDepth 100000 in
theorem k_X9_deliberations (v9 : Value) : ev_MK (ev_B0 v9) m_X9_deliberations := ⟨by decide +kernel, ev_dec_all _ _ (by decide +kernel), rfl, Or.inl rfl, ev_mem 2237 (by decide +kernel) (by decide +kernel)⟩
set_option maxRecDepth 100000 in
theorem k_X9_verdictAt (v9 : Value) : ev_MK (ev_B0 v9) m_X9_verdictAt := ⟨by decide +kernel, ev_dec_all _ _ (by decide +kernel), rfl, Or.inl rfl, ev_mem 2241 (by decide +kernel) (by decide +kernel)⟩
set_option maxRecDepth 100000 in
theorem k_X9_hungCount (v9 : Value) : ev_MK (ev_B0 v9) m_X9_hungCount := ⟨by decide +kernel, ev_dec_all _ _ (by decide +kernel), rfl, Or.inl rfl, ev_mem 2245 (by decide +kernel) (by decide +kernel)⟩
set_option maxRecDepth 100000 in
theorem k_X9_retrials (v9 : Value) : ev_MK (ev_B0 v9) m_X9_retrials := ⟨by decide +kernel, ev_dec_all _ _ (by decide +kernel), rfl, Or.inl rfl, ev_mem 2249 (by decide +kernel) (by decide +kernel)⟩
set_option maxRecDepth 100000 in
theorem k_X9_testimonies (v9 : Value) : ev_MK (ev_B0 v9) m_X9_testimonies := ⟨by decide +kernel, ev_dec_all _ _ (by decide +kernel), rfl, Or.inl rfl, ev_mem 2253 (by decide +kernel) (by decide +kernel)⟩
set_option maxRecDepth 100000 in
theorem k_X9_catByHeard (v9 : Value) : ev_MK (ev_B0 v9) m_X9_catByHeard := ⟨by decide +kernel, ev_dec_all _ _ (by decide +kernel), rfl, Or.inl rfl, ev_mem 2257 (by decide +kernel) (by decide +kernel)⟩
set_option maxRecDepth 100000 in
theorem k_X9_meanHeard (v9 : Value) : ev_MK (ev_B0 v9) m_X9_meanHeard := ⟨by decide +kernel, ev_dec_all _ _ (by decide +kernel), rfl, Or.inl rfl, ev_mem 2261 (by decide +kernel) (by decide +kernel)⟩
set_option maxRecDepth 100000 in
theorem k_X9_hungShare (v9 : Value) : ev_MK (ev_B0 v9) m_X9_hungShare := ⟨by decide +kernel, ev_dec_all _ _ (by decide +kernel), rfl, Or.inl rfl, ev_mem 2265 (by decide +kernel) (by decide +kernel)⟩
set_option maxRecDepth 100000 in
theorem k_X9_isConsistent (v9 : Value) : ev_MK (ev_B0 v9) m_X9_isConsistent := ⟨by decide +kernel, ev_dec_all _ _ (by decide +kernel), rfl, Or.inl rfl, ev_mem 2269 (by decide +kernel) (by decide +kernel)⟩
set_option maxRecDepth 100000 in
theorem k_X9_writeRow (v9 : Value) : ev_MK (ev_B0 v9) m_X9_writeRow := ⟨by decide +kernel, ev_dec_all _ _ (by decide +kernel), rfl, Or.inl rfl, ev_mem 2273 (by decide +kernel) (by decide +kernel)⟩
set_option maxRecDepth 100000 in
theorem k_X9_puts (v9 : Value) : ev_MK (ev_B0 v9) m_X9_puts := ⟨by decide +kernel, ev_dec_all _ _ (by decide +kernel), rfl, Or.inl rfl, ev_mem 2277 (by decide +kernel) (by decide +kernel)⟩
set_option maxRecDepth 100000 in
theorem k_X9_writeCat (v9 : Value) : ev_MK (ev_B0 v9) m_X9_writeCat := ⟨by decide +kernel, ev_dec_all _ _ (by decide +kernel), rfl, Or.inl rfl, ev_mem 2281 (by decide +kernel) (by decide +kernel)⟩
set_option maxRecDepth 100000 in
theorem k_X9_number (v9 : Value) : ev_MK (ev_B0 v9) m_X9_number := ⟨by decide +kernel, ev_dec_all _ _ (by decide +kernel), rfl, Or.inl rfl, ev_mem 2285 (by decide +kernel) (by decide +kernel)⟩
set_option maxRecDepth 100000 in
theorem k_X9_outputAt (v9 : Value) : ev_MK (ev_B0 v9) m_X9_outputAt := ⟨by decide +kernel, ev_dec_all _ _ (by decide +kernel), rfl, Or.inl rfl, ev_mem 2289 (by decide +kernel) (by decide +kernel)⟩
set_option maxRecDepth 100000 in
theorem k_X9_appendInput (v9 : Value) : ev_MK (ev_B0 v9) m_X9_appendInput := ⟨by decide +kernel, ev_dec_all _ _ (by decide +kernel), rfl, Or.inl rfl, ev_mem 2293 (by decide +kernel) (by decide +kernel)⟩
set_option maxRecDepth 100000 in
theorem k_X9_execute (v9 : Value) : ev_MK (ev_B0 v9) m_X9_execute := ⟨by decide +kernel, ev_dec_all _ _ (by decide +kernel), rfl, Or.inl rfl, ev_mem 2297 (by decide +kernel) (by decide +kernel)⟩
set_option maxRecDepth 100000 in
theorem k_X9_isInput (v9 : Value) : ev_MK (ev_B0 v9) m_X9_isInput := ⟨by decide +kernel, ev_dec_all _ _ (by decide +kernel), rfl, Or.inl rfl, ev_mem 2301 (by decide +kernel) (by decide +kernel)⟩
set_option maxRecDepth 100000 in
theorem k_X9_readsCommand (v9 : Value) : ev_MK (ev_B0 v9) m_X9_readsCommand := ⟨by decide +kernel, ev_dec_all _ _ (by decide +kernel), rfl, Or.inl rfl, ev_mem 2305 (by decide +kernel) (by decide +kernel)⟩
set_option maxRecDepth 100000 in
theorem k_X9_now (v9 : Value) : ev_MK (ev_B0 v9) m_X9_now := ⟨by decide +kernel, ev_dec_all _ _ (by decide +kernel), rfl, Or.inl rfl, ev_mem 2309 (by decide +kernel) (by decide +kernel)⟩
set_option maxRecDepth 100000 in
theorem k_X9_isFirst (v9 : Value) : ev_MK (ev_B0 v9) m_X9_isFirst := ⟨by decide +kernel, ev_dec_all _ _ (by decide +kernel), rfl, Or.inl rfl, ev_mem 2312 (by decide +kernel) (by decide +kernel)⟩
set_option maxRecDepth 100000 in
theorem k_X9_readsRest (v9 : Value) : ev_MK (ev_B0 v9) m_X9_readsRest := ⟨by decide +kernel, ev_dec_all _ _ (by decide +kernel), rfl, Or.inl rfl, ev_mem 2316 (by decide +kernel) (by decide +kernel)⟩
set_option maxRecDepth 100000 in
theorem k_X9_readsCat (v9 : Value) : ev_MK (ev_B0 v9) m_X9_readsCat := ⟨by decide +kernel, ev_dec_all _ _ (by decide +kernel), rfl, Or.inl rfl, ev_mem 2320 (by decide +kernel) (by decide +kernel)⟩
set_option maxRecDepth 100000 in
theorem k_X9_isWord (v9 : Value) : ev_MK (ev_B0 v9) m_X9_isWord := ⟨by decide +kernel, ev_dec_all _ _ (by decide +kernel), rfl, Or.inl rfl, ev_mem 2325 (by decide +kernel) (by decide +kernel)⟩
set_option maxRecDepth 100000 in
theorem k_X9_isSign (v9 : Value) : ev_MK (ev_B0 v9) m_X9_isSign := ⟨by decide +kernel, ev_dec_all _ _ (by decide +kernel), rfl, Or.inl rfl, ev_mem 2331 (by decide +kernel) (by decide +kernel)⟩
set_option maxRecDepth 100000 in
theorem k_X9_isNumber (v9 : Value) : ev_MK (ev_B0 v9) m_X9_isNumber := ⟨by decide +kernel, ev_dec_all _ _ (by decide +kernel), rfl, Or.inl rfl, ev_mem 2335 (by decide +kernel) (by decide +kernel)⟩
set_option maxRecDepth 100000 in
theorem k_X9_takes (v9 : Value) : ev_MK (ev_B0 v9) m_X9_takes := ⟨by decide +kernel, ev_dec_all _ _ (by decide +kernel), rfl, Or.inl rfl, ev_mem 2339 (by decide +kernel) (by decide +kernel)⟩
set_option maxRecDepth 100000 in
theorem k_X9_readsM (v9 : Value) : ev_MK (ev_B0 v9) m_X9_readsM := ⟨by decide +kernel, ev_dec_all _ _ (by decide +kernel), rfl, Or.inl rfl, ev_mem 2343 (by decide +kernel) (by decide +kernel)⟩
set_option maxRecDepth 100000 in
theorem k_X9_does (v9 : Value) : ev_MK (ev_B0 v9) m_X9_does := ⟨by decide +kernel, ev_dec_all _ _ (by decide +kernel), rfl, Or.inl rfl, ev_mem 2352 (by decide +kernel) (by decide +kernel)⟩
set_option maxRecDepth 100000 in
theorem k_X9_fails (v9 : Value) : ev_MK (ev_B0 v9) m_X9_fails := ⟨by decide +kernel, ev_dec_all _ _ (by decide +kernel), rfl, Or.inl rfl, ev_mem 2356 (by decide +kernel) (by decide +kernel)⟩
set_option maxRecDepth 100000 in
theorem k_X9_syntaxErrorOffset (v9 : Value) : ev_MK (ev_B0 v9) m_X9_syntaxErrorOffset := ⟨by decide +kernel, ev_dec_all _ _ (by decide +kernel), rfl, Or.inl rfl, ev_mem 2360 (by decide +kernel) (by decide +kernel)⟩
set_option maxRecDepth 100000 in
theorem k_X9_rejectionReason (v9 : Value) : ev_MK (ev_B0 v9) m_X9_rejectionReason := ⟨by decide +kernel, ev_dec_all _ _ (by decide +kernel), rfl, Or.inl rfl, ev_mem 2364 (by decide +kernel) (by decide +kernel)⟩
set_option maxRecDepth 100000 in
theorem k_X9_rejectionDetail (v9 : Value) : ev_MK (ev_B0 v9) m_X9_rejectionDetail := ⟨by decide +kernel, ev_dec_all _ _ (by decide +kernel), rfl, Or.inl rfl, ev_mem 2368 (by decide +kernel) (by decide +kernel)⟩
set_option maxRecDepth 100000 in
theorem k_X9_causeReason (v9 : Value) : ev_MK (ev_B0 v9) m_X9_causeReason := ⟨by decide +kernel, ev_dec_all _ _ (by decide +kernel), rfl, Or.inl rfl, ev_mem 2372 (by decide +kernel) (by decide +kernel)⟩
set_option maxRecDepth 100000 in
theorem k_X9_undo (v9 : Value) : ev_MK (ev_B0 v9) m_X9_undo := ⟨by decide +kernel, ev_dec_all _ _ (by decide +kernel), rfl, Or.inl rfl, ev_mem 2376 (by decide +kernel) (by decide +kernel)⟩
set_option maxRecDepth 100000 in
theorem k_X9_saveSnapshot (v9 : Value) : ev_MK (ev_B0 v9) m_X9_saveSnapshot := ⟨by decide +kernel, ev_dec_all _ _ (by decide +kernel), rfl, Or.inl rfl, ev_mem 2380 (by decide +kernel) (by decide +kernel)⟩
set_option maxRecDepth 100000 in
theorem k_X9_restoreSnapshot (v9 : Value) : ev_MK (ev_B0 v9) m_X9_restoreSnapshot := ⟨by decide +kernel, ev_dec_all _ _ (by decide +kernel), rfl, Or.inl rfl, ev_mem 2384 (by decide +kernel) (by decide +kernel)⟩
