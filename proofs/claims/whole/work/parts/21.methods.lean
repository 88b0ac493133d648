/-! each method stands in the tables, with the instructions that are listed; laid by a program -/
theorem ev_mem (i : Nat) {w : Jvm.Cond} (h : lw_tbl[i]? = some w) (g : goodWord w = true) : w ∈ ev_Tb0 := List.mem_filter.mpr ⟨List.mem_of_getElem? h, g⟩
theorem ev_memN (i : Nat) {w : Jvm.Cond} (h : tables_1[i]? = some w) (g : (ev_ngk w && w.onTables) = true) : w ∈ ev_NG0 := List.mem_filter.mpr ⟨List.mem_of_getElem? h, g⟩
theorem ev_dec_all (b : ByteArray) (l : List (Nat × Instr × Nat)) (h : l.all (fun q => decide (decode b q.1 = .ok q.2)) = true) : ∀ q ∈ l, decode b q.1 = .ok q.2 := fun q hq => of_decide_eq_true (List.all_eq_true.mp h q hq)
set_option maxRecDepth 100000 in
theorem k_X8_init (v9 : Value) : ev_MK (ev_B0 v9) m_X8_init := ⟨by decide +kernel, ev_dec_all _ _ (by decide +kernel), rfl, Or.inl rfl, ev_mem 171 rfl rfl⟩
set_option maxRecDepth 100000 in
theorem k_X2_init (v9 : Value) : ev_MK (ev_B0 v9) m_X2_init := ⟨by decide +kernel, ev_dec_all _ _ (by decide +kernel), rfl, Or.inl rfl, ev_mem 179 rfl rfl⟩
set_option maxRecDepth 100000 in
theorem k_X3_init (v9 : Value) : ev_MK (ev_B0 v9) m_X3_init := ⟨by decide +kernel, ev_dec_all _ _ (by decide +kernel), rfl, Or.inl rfl, ev_mem 245 rfl rfl⟩
set_option maxRecDepth 100000 in
theorem k_X5_init (v9 : Value) : ev_MK (ev_B0 v9) m_X5_init := ⟨by decide +kernel, ev_dec_all _ _ (by decide +kernel), rfl, Or.inl rfl, ev_mem 265 rfl rfl⟩
set_option maxRecDepth 100000 in
theorem k_X4_init (v9 : Value) : ev_MK (ev_B0 v9) m_X4_init := ⟨by decide +kernel, ev_dec_all _ _ (by decide +kernel), rfl, Or.inl rfl, ev_mem 288 rfl rfl⟩
set_option maxRecDepth 100000 in
theorem k_X1_init (v9 : Value) : ev_MK (ev_B0 v9) m_X1_init := ⟨by decide +kernel, ev_dec_all _ _ (by decide +kernel), rfl, Or.inl rfl, ev_mem 298 rfl rfl⟩
set_option maxRecDepth 100000 in
theorem k_X7_init (v9 : Value) : ev_MK (ev_B0 v9) m_X7_init := ⟨by decide +kernel, ev_dec_all _ _ (by decide +kernel), rfl, Or.inl rfl, ev_mem 317 rfl rfl⟩
set_option maxRecDepth 100000 in
theorem k_X6_init (v9 : Value) : ev_MK (ev_B0 v9) m_X6_init := ⟨by decide +kernel, ev_dec_all _ _ (by decide +kernel), rfl, Or.inl rfl, ev_mem 337 rfl rfl⟩
set_option maxRecDepth 100000 in
theorem k_J4_init_da8c8 (v9 : Value) : ev_MK (ev_B0 v9) m_J4_init_da8c8 := ⟨by decide +kernel, ev_dec_all _ _ (by decide +kernel), rfl, Or.inl rfl, ev_mem 343 rfl rfl⟩
set_option maxRecDepth 100000 in
theorem k_J5_init_d00df (v9 : Value) : ev_MK (ev_B0 v9) m_J5_init_d00df := ⟨by decide +kernel, ev_dec_all _ _ (by decide +kernel), rfl, Or.inl rfl, ev_mem 346 rfl rfl⟩
set_option maxRecDepth 100000 in
theorem k_X8_catCount (v9 : Value) : ev_MK (ev_B0 v9) m_X8_catCount := ⟨by decide +kernel, ev_dec_all _ _ (by decide +kernel), rfl, Or.inl rfl, ev_mem 455 rfl rfl⟩
set_option maxRecDepth 100000 in
theorem k_X8_method (v9 : Value) : ev_MK (ev_B0 v9) m_X8_method := ⟨by decide +kernel, ev_dec_all _ _ (by decide +kernel), rfl, Or.inl rfl, ev_mem 459 rfl rfl⟩
set_option maxRecDepth 100000 in
theorem k_X8_hasCause (v9 : Value) : ev_MK (ev_B0 v9) m_X8_hasCause := ⟨by decide +kernel, ev_dec_all _ _ (by decide +kernel), rfl, Or.inl rfl, ev_mem 463 rfl rfl⟩
set_option maxRecDepth 100000 in
theorem k_X2_mayRetry (v9 : Value) : ev_MK (ev_B0 v9) m_X2_mayRetry := ⟨by decide +kernel, ev_dec_all _ _ (by decide +kernel), rfl, Or.inl rfl, ev_mem 467 rfl rfl⟩
set_option maxRecDepth 100000 in
theorem k_X8_at_ (v9 : Value) : ev_MK (ev_B0 v9) m_X8_at_ := ⟨by decide +kernel, ev_dec_all _ _ (by decide +kernel), rfl, Or.inl rfl, ev_mem 470 rfl rfl⟩
set_option maxRecDepth 100000 in
theorem k_X8_deliberations (v9 : Value) : ev_MK (ev_B0 v9) m_X8_deliberations := ⟨by decide +kernel, ev_dec_all _ _ (by decide +kernel), rfl, Or.inl rfl, ev_mem 474 rfl rfl⟩
set_option maxRecDepth 100000 in
theorem k_X8_hungCount (v9 : Value) : ev_MK (ev_B0 v9) m_X8_hungCount := ⟨by decide +kernel, ev_dec_all _ _ (by decide +kernel), rfl, Or.inl rfl, ev_mem 478 rfl rfl⟩
set_option maxRecDepth 100000 in
theorem k_X8_retrials (v9 : Value) : ev_MK (ev_B0 v9) m_X8_retrials := ⟨by decide +kernel, ev_dec_all _ _ (by decide +kernel), rfl, Or.inl rfl, ev_mem 482 rfl rfl⟩
set_option maxRecDepth 100000 in
theorem k_X8_testimonies (v9 : Value) : ev_MK (ev_B0 v9) m_X8_testimonies := ⟨by decide +kernel, ev_dec_all _ _ (by decide +kernel), rfl, Or.inl rfl, ev_mem 486 rfl rfl⟩
set_option maxRecDepth 100000 in
theorem k_X8_isConsistent (v9 : Value) : ev_MK (ev_B0 v9) m_X8_isConsistent := ⟨by decide +kernel, ev_dec_all _ _ (by decide +kernel), rfl, Or.inl rfl, ev_mem 490 rfl rfl⟩
set_option maxRecDepth 100000 in
theorem k_X8_raysAgree (v9 : Value) : ev_MK (ev_B0 v9) m_X8_raysAgree := ⟨by decide +kernel, ev_dec_all _ _ (by decide +kernel), rfl, Or.inl rfl, ev_mem 494 rfl rfl⟩
set_option maxRecDepth 100000 in
theorem k_X4_joinAll (v9 : Value) : ev_MK (ev_B0 v9) m_X4_joinAll := ⟨by decide +kernel, ev_dec_all _ _ (by decide +kernel), rfl, Or.inl rfl, ev_mem 498 rfl rfl⟩
set_option maxRecDepth 100000 in
theorem k_X4_joinToNeighbour (v9 : Value) : ev_MK (ev_B0 v9) m_X4_joinToNeighbour := ⟨by decide +kernel, ev_dec_all _ _ (by decide +kernel), rfl, Or.inl rfl, ev_mem 502 rfl rfl⟩
set_option maxRecDepth 100000 in
theorem k_X0_neighbour (v9 : Value) : ev_MK (ev_B0 v9) m_X0_neighbour := ⟨by decide +kernel, ev_dec_all _ _ (by decide +kernel), rfl, Or.inl rfl, ev_mem 505 rfl rfl⟩
set_option maxRecDepth 100000 in
theorem k_X0_side (v9 : Value) : ev_MK (ev_B0 v9) m_X0_side := ⟨by decide +kernel, ev_dec_all _ _ (by decide +kernel), rfl, Or.inl rfl, ev_mem 508 rfl rfl⟩
set_option maxRecDepth 100000 in
theorem k_X0_opposite (v9 : Value) : ev_MK (ev_B0 v9) m_X0_opposite := ⟨by decide +kernel, ev_dec_all _ _ (by decide +kernel), rfl, Or.inl rfl, ev_mem 511 rfl rfl⟩
set_option maxRecDepth 100000 in
theorem k_X4_join (v9 : Value) : ev_MK (ev_B0 v9) m_X4_join := ⟨by decide +kernel, ev_dec_all _ _ (by decide +kernel), rfl, Or.inl rfl, ev_mem 515 rfl rfl⟩
set_option maxRecDepth 100000 in
theorem k_X4_rootOf (v9 : Value) : ev_MK (ev_B0 v9) m_X4_rootOf := ⟨by decide +kernel, ev_dec_all _ _ (by decide +kernel), rfl, Or.inl rfl, ev_mem 519 rfl rfl⟩
set_option maxRecDepth 100000 in
theorem k_X8_at (v9 : Value) : ev_MK (ev_B0 v9) m_X8_at := ⟨by decide +kernel, ev_dec_all _ _ (by decide +kernel), rfl, Or.inl rfl, ev_mem 522 rfl rfl⟩
set_option maxRecDepth 100000 in
theorem k_X8_put (v9 : Value) : ev_MK (ev_B0 v9) m_X8_put := ⟨by decide +kernel, ev_dec_all _ _ (by decide +kernel), rfl, Or.inl rfl, ev_mem 525 rfl rfl⟩
set_option maxRecDepth 100000 in
theorem k_X4_joinWithin (v9 : Value) : ev_MK (ev_B0 v9) m_X4_joinWithin := ⟨by decide +kernel, ev_dec_all _ _ (by decide +kernel), rfl, Or.inl rfl, ev_mem 530 rfl rfl⟩
set_option maxRecDepth 100000 in
theorem k_X0_reflected (v9 : Value) : ev_MK (ev_B0 v9) m_X0_reflected := ⟨by decide +kernel, ev_dec_all _ _ (by decide +kernel), rfl, Or.inl rfl, ev_mem 533 rfl rfl⟩
set_option maxRecDepth 100000 in
theorem k_X5_follow (v9 : Value) : ev_MK (ev_B0 v9) m_X5_follow := ⟨by decide +kernel, ev_dec_all _ _ (by decide +kernel), rfl, Or.inl rfl, ev_mem 537 rfl rfl⟩
set_option maxRecDepth 100000 in
theorem k_X0_cellAt (v9 : Value) : ev_MK (ev_B0 v9) m_X0_cellAt := ⟨by decide +kernel, ev_dec_all _ _ (by decide +kernel), rfl, Or.inl rfl, ev_mem 540 rfl rfl⟩
set_option maxRecDepth 100000 in
theorem k_X0_directionAt (v9 : Value) : ev_MK (ev_B0 v9) m_X0_directionAt := ⟨by decide +kernel, ev_dec_all _ _ (by decide +kernel), rfl, Or.inl rfl, ev_mem 543 rfl rfl⟩
set_option maxRecDepth 100000 in
theorem k_X2_findCat (v9 : Value) : ev_MK (ev_B0 v9) m_X2_findCat := ⟨by decide +kernel, ev_dec_all _ _ (by decide +kernel), rfl, Or.inl rfl, ev_mem 548 rfl rfl⟩
set_option maxRecDepth 100000 in
theorem k_X0_portAt (v9 : Value) : ev_MK (ev_B0 v9) m_X0_portAt := ⟨by decide +kernel, ev_dec_all _ _ (by decide +kernel), rfl, Or.inl rfl, ev_mem 554 rfl rfl⟩
set_option maxRecDepth 100000 in
theorem k_X4_otherEnd (v9 : Value) : ev_MK (ev_B0 v9) m_X4_otherEnd := ⟨by decide +kernel, ev_dec_all _ _ (by decide +kernel), rfl, Or.inl rfl, ev_mem 558 rfl rfl⟩
set_option maxRecDepth 100000 in
theorem k_X4_rootAt (v9 : Value) : ev_MK (ev_B0 v9) m_X4_rootAt := ⟨by decide +kernel, ev_dec_all _ _ (by decide +kernel), rfl, Or.inl rfl, ev_mem 562 rfl rfl⟩
set_option maxRecDepth 100000 in
theorem k_X8_effortsAgree (v9 : Value) : ev_MK (ev_B0 v9) m_X8_effortsAgree := ⟨by decide +kernel, ev_dec_all _ _ (by decide +kernel), rfl, Or.inl rfl, ev_mem 568 rfl rfl⟩
set_option maxRecDepth 100000 in
theorem k_X1_searchByQueue (v9 : Value) : ev_MK (ev_B0 v9) m_X1_searchByQueue := ⟨by decide +kernel, ev_dec_all _ _ (by decide +kernel), rfl, Or.inl rfl, ev_mem 572 rfl rfl⟩
set_option maxRecDepth 100000 in
theorem k_X1_start (v9 : Value) : ev_MK (ev_B0 v9) m_X1_start := ⟨by decide +kernel, ev_dec_all _ _ (by decide +kernel), rfl, Or.inl rfl, ev_mem 576 rfl rfl⟩
set_option maxRecDepth 100000 in
theorem k_X1_putAhead (v9 : Value) : ev_MK (ev_B0 v9) m_X1_putAhead := ⟨by decide +kernel, ev_dec_all _ _ (by decide +kernel), rfl, Or.inl rfl, ev_mem 584 rfl rfl⟩
set_option maxRecDepth 100000 in
theorem k_X1_takeFirst (v9 : Value) : ev_MK (ev_B0 v9) m_X1_takeFirst := ⟨by decide +kernel, ev_dec_all _ _ (by decide +kernel), rfl, Or.inl rfl, ev_mem 588 rfl rfl⟩
set_option maxRecDepth 100000 in
theorem k_X1_goOn (v9 : Value) : ev_MK (ev_B0 v9) m_X1_goOn := ⟨by decide +kernel, ev_dec_all _ _ (by decide +kernel), rfl, Or.inl rfl, ev_mem 593 rfl rfl⟩
set_option maxRecDepth 100000 in
theorem k_X1_reach (v9 : Value) : ev_MK (ev_B0 v9) m_X1_reach := ⟨by decide +kernel, ev_dec_all _ _ (by decide +kernel), rfl, Or.inl rfl, ev_mem 601 rfl rfl⟩
set_option maxRecDepth 100000 in
theorem k_X1_putBehind (v9 : Value) : ev_MK (ev_B0 v9) m_X1_putBehind := ⟨by decide +kernel, ev_dec_all _ _ (by decide +kernel), rfl, Or.inl rfl, ev_mem 605 rfl rfl⟩
set_option maxRecDepth 100000 in
theorem k_X1_searchByRounds (v9 : Value) : ev_MK (ev_B0 v9) m_X1_searchByRounds := ⟨by decide +kernel, ev_dec_all _ _ (by decide +kernel), rfl, Or.inl rfl, ev_mem 609 rfl rfl⟩
set_option maxRecDepth 100000 in
theorem k_X1_lowerAll (v9 : Value) : ev_MK (ev_B0 v9) m_X1_lowerAll := ⟨by decide +kernel, ev_dec_all _ _ (by decide +kernel), rfl, Or.inl rfl, ev_mem 613 rfl rfl⟩
set_option maxRecDepth 100000 in
theorem k_X1_effortFromBehind (v9 : Value) : ev_MK (ev_B0 v9) m_X1_effortFromBehind := ⟨by decide +kernel, ev_dec_all _ _ (by decide +kernel), rfl, Or.inl rfl, ev_mem 617 rfl rfl⟩
set_option maxRecDepth 100000 in
theorem k_X1_effortInto (v9 : Value) : ev_MK (ev_B0 v9) m_X1_effortInto := ⟨by decide +kernel, ev_dec_all _ _ (by decide +kernel), rfl, Or.inl rfl, ev_mem 622 rfl rfl⟩
set_option maxRecDepth 100000 in
theorem k_X8_strengthsAgree (v9 : Value) : ev_MK (ev_B0 v9) m_X8_strengthsAgree := ⟨by decide +kernel, ev_dec_all _ _ (by decide +kernel), rfl, Or.inl rfl, ev_mem 626 rfl rfl⟩
set_option maxRecDepth 100000 in
theorem k_X7_fillStrengths (v9 : Value) : ev_MK (ev_B0 v9) m_X7_fillStrengths := ⟨by decide +kernel, ev_dec_all _ _ (by decide +kernel), rfl, Or.inl rfl, ev_mem 630 rfl rfl⟩
set_option maxRecDepth 100000 in
theorem k_X7_countPairs (v9 : Value) : ev_MK (ev_B0 v9) m_X7_countPairs := ⟨by decide +kernel, ev_dec_all _ _ (by decide +kernel), rfl, Or.inl rfl, ev_mem 634 rfl rfl⟩
set_option maxRecDepth 100000 in
theorem k_X7_pair (v9 : Value) : ev_MK (ev_B0 v9) m_X7_pair := ⟨by decide +kernel, ev_dec_all _ _ (by decide +kernel), rfl, Or.inl rfl, ev_mem 638 rfl rfl⟩
set_option maxRecDepth 100000 in
theorem k_X7_victory (v9 : Value) : ev_MK (ev_B0 v9) m_X7_victory := ⟨by decide +kernel, ev_dec_all _ _ (by decide +kernel), rfl, Or.inl rfl, ev_mem 643 rfl rfl⟩
set_option maxRecDepth 100000 in
theorem k_X7_tableStrength (v9 : Value) : ev_MK (ev_B0 v9) m_X7_tableStrength := ⟨by decide +kernel, ev_dec_all _ _ (by decide +kernel), rfl, Or.inl rfl, ev_mem 647 rfl rfl⟩
set_option maxRecDepth 100000 in
theorem k_J9_min_7cf53 (v9 : Value) : ev_MK (ev_B0 v9) m_J9_min_7cf53 := ⟨by decide +kernel, ev_dec_all _ _ (by decide +kernel), rfl, Or.inl rfl, ev_mem 650 rfl rfl⟩
set_option maxRecDepth 100000 in
theorem k_J9_max_7cf53 (v9 : Value) : ev_MK (ev_B0 v9) m_J9_max_7cf53 := ⟨by decide +kernel, ev_dec_all _ _ (by decide +kernel), rfl, Or.inl rfl, ev_mem 653 rfl rfl⟩
set_option maxRecDepth 100000 in
theorem k_X7_triedStrength (v9 : Value) : ev_MK (ev_B0 v9) m_X7_triedStrength := ⟨by decide +kernel, ev_dec_all _ _ (by decide +kernel), rfl, Or.inl rfl, ev_mem 658 rfl rfl⟩
set_option maxRecDepth 100000 in
theorem k_X7_reachedWith (v9 : Value) : ev_MK (ev_B0 v9) m_X7_reachedWith := ⟨by decide +kernel, ev_dec_all _ _ (by decide +kernel), rfl, Or.inl rfl, ev_mem 662 rfl rfl⟩
set_option maxRecDepth 100000 in
theorem k_X7_isIn (v9 : Value) : ev_MK (ev_B0 v9) m_X7_isIn := ⟨by decide +kernel, ev_dec_all _ _ (by decide +kernel), rfl, Or.inl rfl, ev_mem 665 rfl rfl⟩
set_option maxRecDepth 100000 in
theorem k_X2_countHeard (v9 : Value) : ev_MK (ev_B0 v9) m_X2_countHeard := ⟨by decide +kernel, ev_dec_all _ _ (by decide +kernel), rfl, Or.inl rfl, ev_mem 669 rfl rfl⟩
set_option maxRecDepth 100000 in
theorem k_X8_saveSnapshot (v9 : Value) : ev_MK (ev_B0 v9) m_X8_saveSnapshot := ⟨by decide +kernel, ev_dec_all _ _ (by decide +kernel), rfl, Or.inl rfl, ev_mem 673 rfl rfl⟩
set_option maxRecDepth 100000 in
theorem k_X2_copyFrom (v9 : Value) : ev_MK (ev_B0 v9) m_X2_copyFrom := ⟨by decide +kernel, ev_dec_all _ _ (by decide +kernel), rfl, Or.inl rfl, ev_mem 677 rfl rfl⟩
set_option maxRecDepth 100000 in
theorem k_X8_copy_ (v9 : Value) : ev_MK (ev_B0 v9) m_X8_copy_ := ⟨by decide +kernel, ev_dec_all _ _ (by decide +kernel), rfl, Or.inl rfl, ev_mem 680 rfl rfl⟩
set_option maxRecDepth 100000 in
theorem k_X8_copy (v9 : Value) : ev_MK (ev_B0 v9) m_X8_copy := ⟨by decide +kernel, ev_dec_all _ _ (by decide +kernel), rfl, Or.inl rfl, ev_mem 683 rfl rfl⟩
set_option maxRecDepth 100000 in
theorem k_L_addCat (v9 : Value) : ev_MK (ev_B0 v9) m_L_addCat := ⟨by decide +kernel, ev_dec_all _ _ (by decide +kernel), rfl, Or.inr rfl, ev_mem 686 rfl rfl⟩
set_option maxRecDepth 100000 in
theorem k_X8_addCat (v9 : Value) : ev_MK (ev_B0 v9) m_X8_addCat := ⟨by decide +kernel, ev_dec_all _ _ (by decide +kernel), rfl, Or.inl rfl, ev_mem 772 rfl rfl⟩
set_option maxRecDepth 100000 in
theorem k_X8_requireCell (v9 : Value) : ev_MK (ev_B0 v9) m_X8_requireCell := ⟨by decide +kernel, ev_dec_all _ _ (by decide +kernel), rfl, Or.inl rfl, ev_mem 775 rfl rfl⟩
set_option maxRecDepth 100000 in
theorem k_X8_isCell (v9 : Value) : ev_MK (ev_B0 v9) m_X8_isCell := ⟨by decide +kernel, ev_dec_all _ _ (by decide +kernel), rfl, Or.inl rfl, ev_mem 778 rfl rfl⟩
set_option maxRecDepth 100000 in
theorem k_X8_areThreeOptions (v9 : Value) : ev_MK (ev_B0 v9) m_X8_areThreeOptions := ⟨by decide +kernel, ev_dec_all _ _ (by decide +kernel), rfl, Or.inl rfl, ev_mem 794 rfl rfl⟩
set_option maxRecDepth 100000 in
theorem k_X8_isOption (v9 : Value) : ev_MK (ev_B0 v9) m_X8_isOption := ⟨by decide +kernel, ev_dec_all _ _ (by decide +kernel), rfl, Or.inl rfl, ev_mem 797 rfl rfl⟩
set_option maxRecDepth 100000 in
theorem k_X2_reasonAgainstCat (v9 : Value) : ev_MK (ev_B0 v9) m_X2_reasonAgainstCat := ⟨by decide +kernel, ev_dec_all _ _ (by decide +kernel), rfl, Or.inl rfl, ev_mem 817 rfl rfl⟩
set_option maxRecDepth 100000 in
theorem k_X2_reasonAgainstMirror (v9 : Value) : ev_MK (ev_B0 v9) m_X2_reasonAgainstMirror := ⟨by decide +kernel, ev_dec_all _ _ (by decide +kernel), rfl, Or.inl rfl, ev_mem 821 rfl rfl⟩
set_option maxRecDepth 100000 in
theorem k_X8_reject (v9 : Value) : ev_MK (ev_B0 v9) m_X8_reject := ⟨by decide +kernel, ev_dec_all _ _ (by decide +kernel), rfl, Or.inl rfl, ev_mem 827 rfl rfl⟩
set_option maxRecDepth 100000 in
theorem k_X3_keep (v9 : Value) : ev_MK (ev_B0 v9) m_X3_keep := ⟨by decide +kernel, ev_dec_all _ _ (by decide +kernel), rfl, Or.inl rfl, ev_mem 847 rfl rfl⟩
set_option maxRecDepth 100000 in
theorem k_X3_mark (v9 : Value) : ev_MK (ev_B0 v9) m_X3_mark := ⟨by decide +kernel, ev_dec_all _ _ (by decide +kernel), rfl, Or.inl rfl, ev_mem 851 rfl rfl⟩
set_option maxRecDepth 100000 in
theorem k_X3_slotOfMarked (v9 : Value) : ev_MK (ev_B0 v9) m_X3_slotOfMarked := ⟨by decide +kernel, ev_dec_all _ _ (by decide +kernel), rfl, Or.inl rfl, ev_mem 855 rfl rfl⟩
set_option maxRecDepth 100000 in
theorem k_X3_keepMarked (v9 : Value) : ev_MK (ev_B0 v9) m_X3_keepMarked := ⟨by decide +kernel, ev_dec_all _ _ (by decide +kernel), rfl, Or.inl rfl, ev_mem 860 rfl rfl⟩
set_option maxRecDepth 100000 in
theorem k_X2_seatCat (v9 : Value) : ev_MK (ev_B0 v9) m_X2_seatCat := ⟨by decide +kernel, ev_dec_all _ _ (by decide +kernel), rfl, Or.inl rfl, ev_mem 864 rfl rfl⟩
set_option maxRecDepth 100000 in
theorem k_X8_indexOf (v9 : Value) : ev_MK (ev_B0 v9) m_X8_indexOf := ⟨by decide +kernel, ev_dec_all _ _ (by decide +kernel), rfl, Or.inl rfl, ev_mem 867 rfl rfl⟩
set_option maxRecDepth 100000 in
theorem k_X8_put_ (v9 : Value) : ev_MK (ev_B0 v9) m_X8_put_ := ⟨by decide +kernel, ev_dec_all _ _ (by decide +kernel), rfl, Or.inl rfl, ev_mem 870 rfl rfl⟩
set_option maxRecDepth 100000 in
theorem k_X2_rank (v9 : Value) : ev_MK (ev_B0 v9) m_X2_rank := ⟨by decide +kernel, ev_dec_all _ _ (by decide +kernel), rfl, Or.inl rfl, ev_mem 875 rfl rfl⟩
set_option maxRecDepth 100000 in
theorem k_L_setMirror (v9 : Value) : ev_MK (ev_B0 v9) m_L_setMirror := ⟨by decide +kernel, ev_dec_all _ _ (by decide +kernel), rfl, Or.inr rfl, ev_mem 878 rfl rfl⟩
set_option maxRecDepth 100000 in
theorem k_X8_setMirror (v9 : Value) : ev_MK (ev_B0 v9) m_X8_setMirror := ⟨by decide +kernel, ev_dec_all _ _ (by decide +kernel), rfl, Or.inl rfl, ev_mem 882 rfl rfl⟩
set_option maxRecDepth 100000 in
theorem k_X8_isContent (v9 : Value) : ev_MK (ev_B0 v9) m_X8_isContent := ⟨by decide +kernel, ev_dec_all _ _ (by decide +kernel), rfl, Or.inl rfl, ev_mem 885 rfl rfl⟩
set_option maxRecDepth 100000 in
theorem k_X2_changeContent (v9 : Value) : ev_MK (ev_B0 v9) m_X2_changeContent := ⟨by decide +kernel, ev_dec_all _ _ (by decide +kernel), rfl, Or.inl rfl, ev_mem 892 rfl rfl⟩
set_option maxRecDepth 100000 in
theorem k_X2_countMirrors (v9 : Value) : ev_MK (ev_B0 v9) m_X2_countMirrors := ⟨by decide +kernel, ev_dec_all _ _ (by decide +kernel), rfl, Or.inl rfl, ev_mem 896 rfl rfl⟩
set_option maxRecDepth 100000 in
theorem k_L_cellOf (v9 : Value) : ev_MK (ev_B0 v9) m_L_cellOf := ⟨by decide +kernel, ev_dec_all _ _ (by decide +kernel), rfl, Or.inr rfl, ev_mem 899 rfl rfl⟩
set_option maxRecDepth 100000 in
theorem k_X8_cellOf (v9 : Value) : ev_MK (ev_B0 v9) m_X8_cellOf := ⟨by decide +kernel, ev_dec_all _ _ (by decide +kernel), rfl, Or.inl rfl, ev_mem 903 rfl rfl⟩
set_option maxRecDepth 100000 in
theorem k_X8_requireCat (v9 : Value) : ev_MK (ev_B0 v9) m_X8_requireCat := ⟨by decide +kernel, ev_dec_all _ _ (by decide +kernel), rfl, Or.inl rfl, ev_mem 907 rfl rfl⟩
set_option maxRecDepth 100000 in
theorem k_L_catIn (v9 : Value) : ev_MK (ev_B0 v9) m_L_catIn := ⟨by decide +kernel, ev_dec_all _ _ (by decide +kernel), rfl, Or.inr rfl, ev_mem 911 rfl rfl⟩
set_option maxRecDepth 100000 in
theorem k_X8_catIn (v9 : Value) : ev_MK (ev_B0 v9) m_X8_catIn := ⟨by decide +kernel, ev_dec_all _ _ (by decide +kernel), rfl, Or.inl rfl, ev_mem 916 rfl rfl⟩
set_option maxRecDepth 100000 in
theorem k_L_contentOf (v9 : Value) : ev_MK (ev_B0 v9) m_L_contentOf := ⟨by decide +kernel, ev_dec_all _ _ (by decide +kernel), rfl, Or.inr rfl, ev_mem 935 rfl rfl⟩
set_option maxRecDepth 100000 in
theorem k_X8_contentOf (v9 : Value) : ev_MK (ev_B0 v9) m_X8_contentOf := ⟨by decide +kernel, ev_dec_all _ _ (by decide +kernel), rfl, Or.inl rfl, ev_mem 939 rfl rfl⟩
set_option maxRecDepth 100000 in
theorem k_L_optionAt (v9 : Value) : ev_MK (ev_B0 v9) m_L_optionAt := ⟨by decide +kernel, ev_dec_all _ _ (by decide +kernel), rfl, Or.inr rfl, ev_mem 943 rfl rfl⟩
set_option maxRecDepth 100000 in
theorem k_X8_optionAt (v9 : Value) : ev_MK (ev_B0 v9) m_X8_optionAt := ⟨by decide +kernel, ev_dec_all _ _ (by decide +kernel), rfl, Or.inl rfl, ev_mem 947 rfl rfl⟩
set_option maxRecDepth 100000 in
theorem k_X2_optionIn (v9 : Value) : ev_MK (ev_B0 v9) m_X2_optionIn := ⟨by decide +kernel, ev_dec_all _ _ (by decide +kernel), rfl, Or.inl rfl, ev_mem 952 rfl rfl⟩
set_option maxRecDepth 100000 in
theorem k_X8_letterOf (v9 : Value) : ev_MK (ev_B0 v9) m_X8_letterOf := ⟨by decide +kernel, ev_dec_all _ _ (by decide +kernel), rfl, Or.inl rfl, ev_mem 955 rfl rfl⟩
set_option maxRecDepth 100000 in
theorem k_L_placeOf (v9 : Value) : ev_MK (ev_B0 v9) m_L_placeOf := ⟨by decide +kernel, ev_dec_all _ _ (by decide +kernel), rfl, Or.inr rfl, ev_mem 958 rfl rfl⟩
set_option maxRecDepth 100000 in
theorem k_X8_placeOf (v9 : Value) : ev_MK (ev_B0 v9) m_X8_placeOf := ⟨by decide +kernel, ev_dec_all _ _ (by decide +kernel), rfl, Or.inl rfl, ev_mem 962 rfl rfl⟩
set_option maxRecDepth 100000 in
theorem k_X8_requireOption (v9 : Value) : ev_MK (ev_B0 v9) m_X8_requireOption := ⟨by decide +kernel, ev_dec_all _ _ (by decide +kernel), rfl, Or.inl rfl, ev_mem 965 rfl rfl⟩
set_option maxRecDepth 100000 in
theorem k_X2_placeIn (v9 : Value) : ev_MK (ev_B0 v9) m_X2_placeIn := ⟨by decide +kernel, ev_dec_all _ _ (by decide +kernel), rfl, Or.inl rfl, ev_mem 971 rfl rfl⟩
set_option maxRecDepth 100000 in
theorem k_L_heardBy (v9 : Value) : ev_MK (ev_B0 v9) m_L_heardBy := ⟨by decide +kernel, ev_dec_all _ _ (by decide +kernel), rfl, Or.inr rfl, ev_mem 974 rfl rfl⟩
set_option maxRecDepth 100000 in
theorem k_X8_heardBy (v9 : Value) : ev_MK (ev_B0 v9) m_X8_heardBy := ⟨by decide +kernel, ev_dec_all _ _ (by decide +kernel), rfl, Or.inl rfl, ev_mem 978 rfl rfl⟩
set_option maxRecDepth 100000 in
theorem k_L_rayEnd (v9 : Value) : ev_MK (ev_B0 v9) m_L_rayEnd := ⟨by decide +kernel, ev_dec_all _ _ (by decide +kernel), rfl, Or.inr rfl, ev_mem 981 rfl rfl⟩
set_option maxRecDepth 100000 in
theorem k_X8_rayEnd (v9 : Value) : ev_MK (ev_B0 v9) m_X8_rayEnd := ⟨by decide +kernel, ev_dec_all _ _ (by decide +kernel), rfl, Or.inl rfl, ev_mem 985 rfl rfl⟩
set_option maxRecDepth 100000 in
theorem k_X8_requirePort (v9 : Value) : ev_MK (ev_B0 v9) m_X8_requirePort := ⟨by decide +kernel, ev_dec_all _ _ (by decide +kernel), rfl, Or.inl rfl, ev_mem 988 rfl rfl⟩
set_option maxRecDepth 100000 in
theorem k_X8_isPort (v9 : Value) : ev_MK (ev_B0 v9) m_X8_isPort := ⟨by decide +kernel, ev_dec_all _ _ (by decide +kernel), rfl, Or.inl rfl, ev_mem 991 rfl rfl⟩
set_option maxRecDepth 100000 in
theorem k_L_rayEndByJoining (v9 : Value) : ev_MK (ev_B0 v9) m_L_rayEndByJoining := ⟨by decide +kernel, ev_dec_all _ _ (by decide +kernel), rfl, Or.inr rfl, ev_mem 996 rfl rfl⟩
set_option maxRecDepth 100000 in
theorem k_X8_rayEndByJoining (v9 : Value) : ev_MK (ev_B0 v9) m_X8_rayEndByJoining := ⟨by decide +kernel, ev_dec_all _ _ (by decide +kernel), rfl, Or.inl rfl, ev_mem 1000 rfl rfl⟩
set_option maxRecDepth 100000 in
theorem k_L_rayCat (v9 : Value) : ev_MK (ev_B0 v9) m_L_rayCat := ⟨by decide +kernel, ev_dec_all _ _ (by decide +kernel), rfl, Or.inr rfl, ev_mem 1003 rfl rfl⟩
set_option maxRecDepth 100000 in
theorem k_X8_rayCat (v9 : Value) : ev_MK (ev_B0 v9) m_X8_rayCat := ⟨by decide +kernel, ev_dec_all _ _ (by decide +kernel), rfl, Or.inl rfl, ev_mem 1007 rfl rfl⟩
set_option maxRecDepth 100000 in
theorem k_L_rayLength (v9 : Value) : ev_MK (ev_B0 v9) m_L_rayLength := ⟨by decide +kernel, ev_dec_all _ _ (by decide +kernel), rfl, Or.inr rfl, ev_mem 1011 rfl rfl⟩
set_option maxRecDepth 100000 in
theorem k_X8_rayLength (v9 : Value) : ev_MK (ev_B0 v9) m_X8_rayLength := ⟨by decide +kernel, ev_dec_all _ _ (by decide +kernel), rfl, Or.inl rfl, ev_mem 1015 rfl rfl⟩
set_option maxRecDepth 100000 in
theorem k_L_rayBounces (v9 : Value) : ev_MK (ev_B0 v9) m_L_rayBounces := ⟨by decide +kernel, ev_dec_all _ _ (by decide +kernel), rfl, Or.inr rfl, ev_mem 1018 rfl rfl⟩
set_option maxRecDepth 100000 in
theorem k_X8_rayBounces (v9 : Value) : ev_MK (ev_B0 v9) m_X8_rayBounces := ⟨by decide +kernel, ev_dec_all _ _ (by decide +kernel), rfl, Or.inl rfl, ev_mem 1022 rfl rfl⟩
set_option maxRecDepth 100000 in
theorem k_L_leastEffort (v9 : Value) : ev_MK (ev_B0 v9) m_L_leastEffort := ⟨by decide +kernel, ev_dec_all _ _ (by decide +kernel), rfl, Or.inr rfl, ev_mem 1025 rfl rfl⟩
set_option maxRecDepth 100000 in
theorem k_X8_leastEffort (v9 : Value) : ev_MK (ev_B0 v9) m_X8_leastEffort := ⟨by decide +kernel, ev_dec_all _ _ (by decide +kernel), rfl, Or.inl rfl, ev_mem 1029 rfl rfl⟩
set_option maxRecDepth 100000 in
theorem k_L_leastEffortByRounds (v9 : Value) : ev_MK (ev_B0 v9) m_L_leastEffortByRounds := ⟨by decide +kernel, ev_dec_all _ _ (by decide +kernel), rfl, Or.inr rfl, ev_mem 1033 rfl rfl⟩
set_option maxRecDepth 100000 in
theorem k_X8_leastEffortByRounds (v9 : Value) : ev_MK (ev_B0 v9) m_X8_leastEffortByRounds := ⟨by decide +kernel, ev_dec_all _ _ (by decide +kernel), rfl, Or.inl rfl, ev_mem 1037 rfl rfl⟩
set_option maxRecDepth 100000 in
theorem k_L_portByLength (v9 : Value) : ev_MK (ev_B0 v9) m_L_portByLength := ⟨by decide +kernel, ev_dec_all _ _ (by decide +kernel), rfl, Or.inr rfl, ev_mem 1040 rfl rfl⟩
set_option maxRecDepth 100000 in
theorem k_X8_portByLength (v9 : Value) : ev_MK (ev_B0 v9) m_X8_portByLength := ⟨by decide +kernel, ev_dec_all _ _ (by decide +kernel), rfl, Or.inl rfl, ev_mem 1044 rfl rfl⟩
set_option maxRecDepth 100000 in
theorem k_X8_portsAhead (v9 : Value) : ev_MK (ev_B0 v9) m_X8_portsAhead := ⟨by decide +kernel, ev_dec_all _ _ (by decide +kernel), rfl, Or.inl rfl, ev_mem 1050 rfl rfl⟩
set_option maxRecDepth 100000 in
theorem k_L_testify (v9 : Value) : ev_MK (ev_B0 v9) m_L_testify := ⟨by decide +kernel, ev_dec_all _ _ (by decide +kernel), rfl, Or.inr rfl, ev_mem 1053 rfl rfl⟩
set_option maxRecDepth 100000 in
theorem k_X8_testify (v9 : Value) : ev_MK (ev_B0 v9) m_X8_testify := ⟨by decide +kernel, ev_dec_all _ _ (by decide +kernel), rfl, Or.inl rfl, ev_mem 1057 rfl rfl⟩
set_option maxRecDepth 100000 in
theorem k_X2_hear (v9 : Value) : ev_MK (ev_B0 v9) m_X2_hear := ⟨by decide +kernel, ev_dec_all _ _ (by decide +kernel), rfl, Or.inl rfl, ev_mem 1061 rfl rfl⟩
set_option maxRecDepth 100000 in
theorem k_L_firstVotes (v9 : Value) : ev_MK (ev_B0 v9) m_L_firstVotes := ⟨by decide +kernel, ev_dec_all _ _ (by decide +kernel), rfl, Or.inr rfl, ev_mem 1066 rfl rfl⟩
set_option maxRecDepth 100000 in
theorem k_X8_firstVotes (v9 : Value) : ev_MK (ev_B0 v9) m_X8_firstVotes := ⟨by decide +kernel, ev_dec_all _ _ (by decide +kernel), rfl, Or.inl rfl, ev_mem 1070 rfl rfl⟩
set_option maxRecDepth 100000 in
theorem k_X7_countFirst (v9 : Value) : ev_MK (ev_B0 v9) m_X7_countFirst := ⟨by decide +kernel, ev_dec_all _ _ (by decide +kernel), rfl, Or.inl rfl, ev_mem 1074 rfl rfl⟩
set_option maxRecDepth 100000 in
theorem k_L_prefer (v9 : Value) : ev_MK (ev_B0 v9) m_L_prefer := ⟨by decide +kernel, ev_dec_all _ _ (by decide +kernel), rfl, Or.inr rfl, ev_mem 1078 rfl rfl⟩
set_option maxRecDepth 100000 in
theorem k_X8_prefer (v9 : Value) : ev_MK (ev_B0 v9) m_X8_prefer := ⟨by decide +kernel, ev_dec_all _ _ (by decide +kernel), rfl, Or.inl rfl, ev_mem 1082 rfl rfl⟩
set_option maxRecDepth 100000 in
theorem k_X8_requirePair (v9 : Value) : ev_MK (ev_B0 v9) m_X8_requirePair := ⟨by decide +kernel, ev_dec_all _ _ (by decide +kernel), rfl, Or.inl rfl, ev_mem 1085 rfl rfl⟩
set_option maxRecDepth 100000 in
theorem k_X7_preferring (v9 : Value) : ev_MK (ev_B0 v9) m_X7_preferring := ⟨by decide +kernel, ev_dec_all _ _ (by decide +kernel), rfl, Or.inl rfl, ev_mem 1091 rfl rfl⟩
set_option maxRecDepth 100000 in
theorem k_L_pointsOf (v9 : Value) : ev_MK (ev_B0 v9) m_L_pointsOf := ⟨by decide +kernel, ev_dec_all _ _ (by decide +kernel), rfl, Or.inr rfl, ev_mem 1094 rfl rfl⟩
set_option maxRecDepth 100000 in
theorem k_X8_pointsOf (v9 : Value) : ev_MK (ev_B0 v9) m_X8_pointsOf := ⟨by decide +kernel, ev_dec_all _ _ (by decide +kernel), rfl, Or.inl rfl, ev_mem 1098 rfl rfl⟩
set_option maxRecDepth 100000 in
theorem k_X7_countPoints (v9 : Value) : ev_MK (ev_B0 v9) m_X7_countPoints := ⟨by decide +kernel, ev_dec_all _ _ (by decide +kernel), rfl, Or.inl rfl, ev_mem 1102 rfl rfl⟩
set_option maxRecDepth 100000 in
theorem k_L_pointsWinner (v9 : Value) : ev_MK (ev_B0 v9) m_L_pointsWinner := ⟨by decide +kernel, ev_dec_all _ _ (by decide +kernel), rfl, Or.inr rfl, ev_mem 1106 rfl rfl⟩
set_option maxRecDepth 100000 in
theorem k_X8_pointsWinner (v9 : Value) : ev_MK (ev_B0 v9) m_X8_pointsWinner := ⟨by decide +kernel, ev_dec_all _ _ (by decide +kernel), rfl, Or.inl rfl, ev_mem 1110 rfl rfl⟩
set_option maxRecDepth 100000 in
theorem k_X8_requireCats (v9 : Value) : ev_MK (ev_B0 v9) m_X8_requireCats := ⟨by decide +kernel, ev_dec_all _ _ (by decide +kernel), rfl, Or.inl rfl, ev_mem 1114 rfl rfl⟩
set_option maxRecDepth 100000 in
theorem k_X7_findMostPoints (v9 : Value) : ev_MK (ev_B0 v9) m_X7_findMostPoints := ⟨by decide +kernel, ev_dec_all _ _ (by decide +kernel), rfl, Or.inl rfl, ev_mem 1119 rfl rfl⟩
set_option maxRecDepth 100000 in
theorem k_L_roundsWinner (v9 : Value) : ev_MK (ev_B0 v9) m_L_roundsWinner := ⟨by decide +kernel, ev_dec_all _ _ (by decide +kernel), rfl, Or.inr rfl, ev_mem 1123 rfl rfl⟩
set_option maxRecDepth 100000 in
theorem k_X8_roundsWinner (v9 : Value) : ev_MK (ev_B0 v9) m_X8_roundsWinner := ⟨by decide +kernel, ev_dec_all _ _ (by decide +kernel), rfl, Or.inl rfl, ev_mem 1127 rfl rfl⟩
set_option maxRecDepth 100000 in
theorem k_X7_voteInRounds (v9 : Value) : ev_MK (ev_B0 v9) m_X7_voteInRounds := ⟨by decide +kernel, ev_dec_all _ _ (by decide +kernel), rfl, Or.inl rfl, ev_mem 1131 rfl rfl⟩
set_option maxRecDepth 100000 in
theorem k_X7_countBallots (v9 : Value) : ev_MK (ev_B0 v9) m_X7_countBallots := ⟨by decide +kernel, ev_dec_all _ _ (by decide +kernel), rfl, Or.inl rfl, ev_mem 1135 rfl rfl⟩
set_option maxRecDepth 100000 in
theorem k_X7_findFavourite (v9 : Value) : ev_MK (ev_B0 v9) m_X7_findFavourite := ⟨by decide +kernel, ev_dec_all _ _ (by decide +kernel), rfl, Or.inl rfl, ev_mem 1139 rfl rfl⟩
set_option maxRecDepth 100000 in
theorem k_X7_findFewest (v9 : Value) : ev_MK (ev_B0 v9) m_X7_findFewest := ⟨by decide +kernel, ev_dec_all _ _ (by decide +kernel), rfl, Or.inl rfl, ev_mem 1143 rfl rfl⟩
set_option maxRecDepth 100000 in
theorem k_L_rounds (v9 : Value) : ev_MK (ev_B0 v9) m_L_rounds := ⟨by decide +kernel, ev_dec_all _ _ (by decide +kernel), rfl, Or.inr rfl, ev_mem 1146 rfl rfl⟩
set_option maxRecDepth 100000 in
theorem k_X8_rounds (v9 : Value) : ev_MK (ev_B0 v9) m_X8_rounds := ⟨by decide +kernel, ev_dec_all _ _ (by decide +kernel), rfl, Or.inl rfl, ev_mem 1150 rfl rfl⟩
set_option maxRecDepth 100000 in
theorem k_L_strengthOf (v9 : Value) : ev_MK (ev_B0 v9) m_L_strengthOf := ⟨by decide +kernel, ev_dec_all _ _ (by decide +kernel), rfl, Or.inr rfl, ev_mem 1153 rfl rfl⟩
set_option maxRecDepth 100000 in
theorem k_X8_strengthOf (v9 : Value) : ev_MK (ev_B0 v9) m_X8_strengthOf := ⟨by decide +kernel, ev_dec_all _ _ (by decide +kernel), rfl, Or.inl rfl, ev_mem 1157 rfl rfl⟩
set_option maxRecDepth 100000 in
theorem k_L_strengthByTrying (v9 : Value) : ev_MK (ev_B0 v9) m_L_strengthByTrying := ⟨by decide +kernel, ev_dec_all _ _ (by decide +kernel), rfl, Or.inr rfl, ev_mem 1160 rfl rfl⟩
set_option maxRecDepth 100000 in
theorem k_X8_strengthByTrying (v9 : Value) : ev_MK (ev_B0 v9) m_X8_strengthByTrying := ⟨by decide +kernel, ev_dec_all _ _ (by decide +kernel), rfl, Or.inl rfl, ev_mem 1164 rfl rfl⟩
set_option maxRecDepth 100000 in
theorem k_L_strengthWinner (v9 : Value) : ev_MK (ev_B0 v9) m_L_strengthWinner := ⟨by decide +kernel, ev_dec_all _ _ (by decide +kernel), rfl, Or.inr rfl, ev_mem 1167 rfl rfl⟩
set_option maxRecDepth 100000 in
theorem k_X8_strengthWinner (v9 : Value) : ev_MK (ev_B0 v9) m_X8_strengthWinner := ⟨by decide +kernel, ev_dec_all _ _ (by decide +kernel), rfl, Or.inl rfl, ev_mem 1171 rfl rfl⟩
set_option maxRecDepth 100000 in
theorem k_X7_findStrongest (v9 : Value) : ev_MK (ev_B0 v9) m_X7_findStrongest := ⟨by decide +kernel, ev_dec_all _ _ (by decide +kernel), rfl, Or.inl rfl, ev_mem 1175 rfl rfl⟩
set_option maxRecDepth 100000 in
theorem k_X7_holdsAgainstAll (v9 : Value) : ev_MK (ev_B0 v9) m_X7_holdsAgainstAll := ⟨by decide +kernel, ev_dec_all _ _ (by decide +kernel), rfl, Or.inl rfl, ev_mem 1180 rfl rfl⟩
set_option maxRecDepth 100000 in
theorem k_L_isDominant (v9 : Value) : ev_MK (ev_B0 v9) m_L_isDominant := ⟨by decide +kernel, ev_dec_all _ _ (by decide +kernel), rfl, Or.inr rfl, ev_mem 1183 rfl rfl⟩
set_option maxRecDepth 100000 in
theorem k_X8_isDominant (v9 : Value) : ev_MK (ev_B0 v9) m_X8_isDominant := ⟨by decide +kernel, ev_dec_all _ _ (by decide +kernel), rfl, Or.inl rfl, ev_mem 1187 rfl rfl⟩
set_option maxRecDepth 100000 in
theorem k_X7_dominates (v9 : Value) : ev_MK (ev_B0 v9) m_X7_dominates := ⟨by decide +kernel, ev_dec_all _ _ (by decide +kernel), rfl, Or.inl rfl, ev_mem 1191 rfl rfl⟩
set_option maxRecDepth 100000 in
theorem k_L_setMethod (v9 : Value) : ev_MK (ev_B0 v9) m_L_setMethod := ⟨by decide +kernel, ev_dec_all _ _ (by decide +kernel), rfl, Or.inr rfl, ev_mem 1195 rfl rfl⟩
set_option maxRecDepth 100000 in
theorem k_X8_setMethod (v9 : Value) : ev_MK (ev_B0 v9) m_X8_setMethod := ⟨by decide +kernel, ev_dec_all _ _ (by decide +kernel), rfl, Or.inl rfl, ev_mem 1199 rfl rfl⟩
set_option maxRecDepth 100000 in
theorem k_X8_isMethod (v9 : Value) : ev_MK (ev_B0 v9) m_X8_isMethod := ⟨by decide +kernel, ev_dec_all _ _ (by decide +kernel), rfl, Or.inl rfl, ev_mem 1202 rfl rfl⟩
set_option maxRecDepth 100000 in
theorem k_L_deliberate (v9 : Value) : ev_MK (ev_B0 v9) m_L_deliberate := ⟨by decide +kernel, ev_dec_all _ _ (by decide +kernel), rfl, Or.inr rfl, ev_mem 1206 rfl rfl⟩
set_option maxRecDepth 100000 in
theorem k_X8_deliberate (v9 : Value) : ev_MK (ev_B0 v9) m_X8_deliberate := ⟨by decide +kernel, ev_dec_all _ _ (by decide +kernel), rfl, Or.inl rfl, ev_mem 1210 rfl rfl⟩
set_option maxRecDepth 100000 in
theorem k_X8_holdVote (v9 : Value) : ev_MK (ev_B0 v9) m_X8_holdVote := ⟨by decide +kernel, ev_dec_all _ _ (by decide +kernel), rfl, Or.inl rfl, ev_mem 1214 rfl rfl⟩
set_option maxRecDepth 100000 in
theorem k_X2_conclude (v9 : Value) : ev_MK (ev_B0 v9) m_X2_conclude := ⟨by decide +kernel, ev_dec_all _ _ (by decide +kernel), rfl, Or.inl rfl, ev_mem 1218 rfl rfl⟩
set_option maxRecDepth 100000 in
theorem k_L_retry (v9 : Value) : ev_MK (ev_B0 v9) m_L_retry := ⟨by decide +kernel, ev_dec_all _ _ (by decide +kernel), rfl, Or.inr rfl, ev_mem 1221 rfl rfl⟩
set_option maxRecDepth 100000 in
theorem k_X8_retry (v9 : Value) : ev_MK (ev_B0 v9) m_X8_retry := ⟨by decide +kernel, ev_dec_all _ _ (by decide +kernel), rfl, Or.inl rfl, ev_mem 1225 rfl rfl⟩
set_option maxRecDepth 100000 in
theorem k_X2_startAgain (v9 : Value) : ev_MK (ev_B0 v9) m_X2_startAgain := ⟨by decide +kernel, ev_dec_all _ _ (by decide +kernel), rfl, Or.inl rfl, ev_mem 1230 rfl rfl⟩
set_option maxRecDepth 100000 in
theorem k_X2_resetRanking (v9 : Value) : ev_MK (ev_B0 v9) m_X2_resetRanking := ⟨by decide +kernel, ev_dec_all _ _ (by decide +kernel), rfl, Or.inl rfl, ev_mem 1234 rfl rfl⟩
set_option maxRecDepth 100000 in
theorem k_L_verdictAt (v9 : Value) : ev_MK (ev_B0 v9) m_L_verdictAt := ⟨by decide +kernel, ev_dec_all _ _ (by decide +kernel), rfl, Or.inr rfl, ev_mem 1237 rfl rfl⟩
set_option maxRecDepth 100000 in
theorem k_X8_verdictAt (v9 : Value) : ev_MK (ev_B0 v9) m_X8_verdictAt := ⟨by decide +kernel, ev_dec_all _ _ (by decide +kernel), rfl, Or.inl rfl, ev_mem 1241 rfl rfl⟩
set_option maxRecDepth 100000 in
theorem k_L_catByHeard (v9 : Value) : ev_MK (ev_B0 v9) m_L_catByHeard := ⟨by decide +kernel, ev_dec_all _ _ (by decide +kernel), rfl, Or.inr rfl, ev_mem 1245 rfl rfl⟩
set_option maxRecDepth 100000 in
theorem k_X8_catByHeard (v9 : Value) : ev_MK (ev_B0 v9) m_X8_catByHeard := ⟨by decide +kernel, ev_dec_all _ _ (by decide +kernel), rfl, Or.inl rfl, ev_mem 1249 rfl rfl⟩
set_option maxRecDepth 100000 in
theorem k_X2_catsAhead (v9 : Value) : ev_MK (ev_B0 v9) m_X2_catsAhead := ⟨by decide +kernel, ev_dec_all _ _ (by decide +kernel), rfl, Or.inl rfl, ev_mem 1253 rfl rfl⟩
set_option maxRecDepth 100000 in
theorem k_L_meanHeard (v9 : Value) : ev_MK (ev_B0 v9) m_L_meanHeard := ⟨by decide +kernel, ev_dec_all _ _ (by decide +kernel), rfl, Or.inr rfl, ev_mem 1256 rfl rfl⟩
set_option maxRecDepth 100000 in
theorem k_X8_meanHeard (v9 : Value) : ev_MK (ev_B0 v9) m_X8_meanHeard := ⟨by decide +kernel, ev_dec_all _ _ (by decide +kernel), rfl, Or.inl rfl, ev_mem 1274 rfl rfl⟩
set_option maxRecDepth 100000 in
theorem k_L_hungShare (v9 : Value) : ev_MK (ev_B0 v9) m_L_hungShare := ⟨by decide +kernel, ev_dec_all _ _ (by decide +kernel), rfl, Or.inr rfl, ev_mem 1279 rfl rfl⟩
set_option maxRecDepth 100000 in
theorem k_X8_hungShare (v9 : Value) : ev_MK (ev_B0 v9) m_X8_hungShare := ⟨by decide +kernel, ev_dec_all _ _ (by decide +kernel), rfl, Or.inl rfl, ev_mem 1283 rfl rfl⟩
set_option maxRecDepth 100000 in
theorem k_L_writeRow (v9 : Value) : ev_MK (ev_B0 v9) m_L_writeRow := ⟨by decide +kernel, ev_dec_all _ _ (by decide +kernel), rfl, Or.inr rfl, ev_mem 1287 rfl rfl⟩
set_option maxRecDepth 100000 in
theorem k_X8_writeRow (v9 : Value) : ev_MK (ev_B0 v9) m_X8_writeRow := ⟨by decide +kernel, ev_dec_all _ _ (by decide +kernel), rfl, Or.inl rfl, ev_mem 1291 rfl rfl⟩
set_option maxRecDepth 100000 in
theorem k_J4_setLength_d00df (v9 : Value) : ev_MK (ev_B0 v9) m_J4_setLength_d00df := ⟨by decide +kernel, ev_dec_all _ _ (by decide +kernel), rfl, Or.inl rfl, ev_mem 1296 rfl rfl⟩
set_option maxRecDepth 100000 in
theorem k_J5_setLength_d00df (v9 : Value) : ev_MK (ev_B0 v9) m_J5_setLength_d00df := ⟨by decide +kernel, ev_dec_all _ _ (by decide +kernel), rfl, Or.inl rfl, ev_mem 1299 rfl rfl⟩
set_option maxRecDepth 100000 in
theorem k_J4_append_15ec4 (v9 : Value) : ev_MK (ev_B0 v9) m_J4_append_15ec4 := ⟨by decide +kernel, ev_dec_all _ _ (by decide +kernel), rfl, Or.inl rfl, ev_mem 1311 rfl rfl⟩
set_option maxRecDepth 100000 in
theorem k_J5_append_cf1ce (v9 : Value) : ev_MK (ev_B0 v9) m_J5_append_cf1ce := ⟨by decide +kernel, ev_dec_all _ _ (by decide +kernel), rfl, Or.inl rfl, ev_mem 1314 rfl rfl⟩
set_option maxRecDepth 100000 in
theorem k_J5_appendNull_278bc (v9 : Value) : ev_MK (ev_B0 v9) m_J5_appendNull_278bc := ⟨by decide +kernel, ev_dec_all _ _ (by decide +kernel), rfl, Or.inl rfl, ev_mem 1318 rfl rfl⟩
set_option maxRecDepth 100000 in
theorem k_J5_ensureCapacityInternal_d00df (v9 : Value) : ev_MK (ev_B0 v9) m_J5_ensureCapacityInternal_d00df := ⟨by decide +kernel, ev_dec_all _ _ (by decide +kernel), rfl, Or.inl rfl, ev_mem 1322 rfl rfl⟩
set_option maxRecDepth 100000 in
theorem k_J5_newCapacity_0f7a4 (v9 : Value) : ev_MK (ev_B0 v9) m_J5_newCapacity_0f7a4 := ⟨by decide +kernel, ev_dec_all _ _ (by decide +kernel), rfl, Or.inl rfl, ev_mem 1326 rfl rfl⟩
set_option maxRecDepth 100000 in
theorem k_J8_newLength_cabcc (v9 : Value) : ev_MK (ev_B0 v9) m_J8_newLength_cabcc := ⟨by decide +kernel, ev_dec_all _ _ (by decide +kernel), rfl, Or.inl rfl, ev_mem 1329 rfl rfl⟩
set_option maxRecDepth 100000 in
theorem k_J8_hugeLength_7cf53 (v9 : Value) : ev_MK (ev_B0 v9) m_J8_hugeLength_7cf53 := ⟨by decide +kernel, ev_dec_all _ _ (by decide +kernel), rfl, Or.inl rfl, ev_mem 1334 rfl rfl⟩
set_option maxRecDepth 100000 in
theorem k_J7_copyOf_9075b (v9 : Value) : ev_MK (ev_B0 v9) m_J7_copyOf_9075b := ⟨by decide +kernel, ev_dec_all _ _ (by decide +kernel), rfl, Or.inl rfl, ev_mem 1338 rfl rfl⟩
set_option maxRecDepth 100000 in
theorem k_J5_isLatin1_aae02 (v9 : Value) : ev_MK (ev_B0 v9) m_J5_isLatin1_aae02 := ⟨by decide +kernel, ev_dec_all _ _ (by decide +kernel), rfl, Or.inl rfl, ev_mem 1354 rfl rfl⟩
set_option maxRecDepth 100000 in
theorem k_J0_checkBoundsBeginEnd_23922 (v9 : Value) : ev_MK (ev_B0 v9) m_J0_checkBoundsBeginEnd_23922 := ⟨by decide +kernel, ev_dec_all _ _ (by decide +kernel), rfl, Or.inl rfl, ev_mem 1366 rfl rfl⟩
set_option maxRecDepth 100000 in
theorem k_J3_checkFromToIndex_8c36e (v9 : Value) : ev_MK (ev_B0 v9) m_J3_checkFromToIndex_8c36e := ⟨by decide +kernel, ev_dec_all _ _ (by decide +kernel), rfl, Or.inl rfl, ev_mem 1371 rfl rfl⟩
set_option maxRecDepth 100000 in
theorem k_J0_length_8abf5 (v9 : Value) : ev_MK (ev_B0 v9) m_J0_length_8abf5 := ⟨by decide +kernel, ev_dec_all _ _ (by decide +kernel), rfl, Or.inl rfl, ev_mem 1384 rfl rfl⟩
set_option maxRecDepth 100000 in
theorem k_J0_coder_7d493 (v9 : Value) : ev_MK (ev_B0 v9) m_J0_coder_7d493 := ⟨by decide +kernel, ev_dec_all _ _ (by decide +kernel), rfl, Or.inl rfl, ev_mem 1388 rfl rfl⟩
set_option maxRecDepth 100000 in
theorem k_J5_putStringAt_47b60 (v9 : Value) : ev_MK (ev_B0 v9) m_J5_putStringAt_47b60 := ⟨by decide +kernel, ev_dec_all _ _ (by decide +kernel), rfl, Or.inl rfl, ev_mem 1393 rfl rfl⟩
set_option maxRecDepth 100000 in
theorem k_J5_inflateIfNeededFor_a7421 (v9 : Value) : ev_MK (ev_B0 v9) m_J5_inflateIfNeededFor_a7421 := ⟨by decide +kernel, ev_dec_all _ _ (by decide +kernel), rfl, Or.inl rfl, ev_mem 1397 rfl rfl⟩
set_option maxRecDepth 100000 in
theorem k_J5_inflate_da8c8 (v9 : Value) : ev_MK (ev_B0 v9) m_J5_inflate_da8c8 := ⟨by decide +kernel, ev_dec_all _ _ (by decide +kernel), rfl, Or.inl rfl, ev_mem 1402 rfl rfl⟩
set_option maxRecDepth 100000 in
theorem k_J1_inflate_0e8fd (v9 : Value) : ev_MK (ev_B0 v9) m_J1_inflate_0e8fd := ⟨by decide +kernel, ev_dec_all _ _ (by decide +kernel), rfl, Or.inl rfl, ev_mem 1405 rfl rfl⟩
set_option maxRecDepth 100000 in
theorem k_J0_checkBoundsOffCount_cabcc (v9 : Value) : ev_MK (ev_B0 v9) m_J0_checkBoundsOffCount_cabcc := ⟨by decide +kernel, ev_dec_all _ _ (by decide +kernel), rfl, Or.inl rfl, ev_mem 1414 rfl rfl⟩
set_option maxRecDepth 100000 in
theorem k_J3_checkFromIndexSize_8c36e (v9 : Value) : ev_MK (ev_B0 v9) m_J3_checkFromIndexSize_8c36e := ⟨by decide +kernel, ev_dec_all _ _ (by decide +kernel), rfl, Or.inl rfl, ev_mem 1417 rfl rfl⟩
set_option maxRecDepth 100000 in
theorem k_J0_getBytes_840e7 (v9 : Value) : ev_MK (ev_B0 v9) m_J0_getBytes_840e7 := ⟨by decide +kernel, ev_dec_all _ _ (by decide +kernel), rfl, Or.inl rfl, ev_mem 1421 rfl rfl⟩
set_option maxRecDepth 100000 in
theorem k_J4_append_bf812 (v9 : Value) : ev_MK (ev_B0 v9) m_J4_append_bf812 := ⟨by decide +kernel, ev_dec_all _ _ (by decide +kernel), rfl, Or.inl rfl, ev_mem 1427 rfl rfl⟩
set_option maxRecDepth 100000 in
theorem k_J5_append_c97b9 (v9 : Value) : ev_MK (ev_B0 v9) m_J5_append_c97b9 := ⟨by decide +kernel, ev_dec_all _ _ (by decide +kernel), rfl, Or.inl rfl, ev_mem 1430 rfl rfl⟩
set_option maxRecDepth 100000 in
theorem k_J6_stringSize_0f7a4 (v9 : Value) : ev_MK (ev_B0 v9) m_J6_stringSize_0f7a4 := ⟨by decide +kernel, ev_dec_all _ _ (by decide +kernel), rfl, Or.inl rfl, ev_mem 1433 rfl rfl⟩
set_option maxRecDepth 100000 in
theorem k_J6_getChars_ba4f3 (v9 : Value) : ev_MK (ev_B0 v9) m_J6_getChars_ba4f3 := ⟨by decide +kernel, ev_dec_all _ _ (by decide +kernel), rfl, Or.inl rfl, ev_mem 1436 rfl rfl⟩
set_option maxRecDepth 100000 in
theorem k_J4_toString_0e30d (v9 : Value) : ev_MK (ev_B0 v9) m_J4_toString_0e30d := ⟨by decide +kernel, ev_dec_all _ _ (by decide +kernel), rfl, Or.inl rfl, ev_mem 1452 rfl rfl⟩
set_option maxRecDepth 100000 in
theorem k_J0_init_81219 (v9 : Value) : ev_MK (ev_B0 v9) m_J0_init_81219 := ⟨by decide +kernel, ev_dec_all _ _ (by decide +kernel), rfl, Or.inl rfl, ev_mem 1456 rfl rfl⟩
set_option maxRecDepth 100000 in
theorem k_J0_init_db425 (v9 : Value) : ev_MK (ev_B0 v9) m_J0_init_db425 := ⟨by decide +kernel, ev_dec_all _ _ (by decide +kernel), rfl, Or.inl rfl, ev_mem 1459 rfl rfl⟩
set_option maxRecDepth 100000 in
theorem k_J5_getValue_6d5f1 (v9 : Value) : ev_MK (ev_B0 v9) m_J5_getValue_6d5f1 := ⟨by decide +kernel, ev_dec_all _ _ (by decide +kernel), rfl, Or.inl rfl, ev_mem 1465 rfl rfl⟩
set_option maxRecDepth 100000 in
theorem k_J4_length_8abf5 (v9 : Value) : ev_MK (ev_B0 v9) m_J4_length_8abf5 := ⟨by decide +kernel, ev_dec_all _ _ (by decide +kernel), rfl, Or.inl rfl, ev_mem 1471 rfl rfl⟩
set_option maxRecDepth 100000 in
theorem k_J5_length_8abf5 (v9 : Value) : ev_MK (ev_B0 v9) m_J5_length_8abf5 := ⟨by decide +kernel, ev_dec_all _ _ (by decide +kernel), rfl, Or.inl rfl, ev_mem 1473 rfl rfl⟩
set_option maxRecDepth 100000 in
theorem k_J7_copyOfRange_39247 (v9 : Value) : ev_MK (ev_B0 v9) m_J7_copyOfRange_39247 := ⟨by decide +kernel, ev_dec_all _ _ (by decide +kernel), rfl, Or.inl rfl, ev_mem 1477 rfl rfl⟩
set_option maxRecDepth 100000 in
theorem k_J7_copyOfRangeByte_39247 (v9 : Value) : ev_MK (ev_B0 v9) m_J7_copyOfRangeByte_39247 := ⟨by decide +kernel, ev_dec_all _ _ (by decide +kernel), rfl, Or.inl rfl, ev_mem 1480 rfl rfl⟩
set_option maxRecDepth 100000 in
theorem k_J7_checkLength_df160 (v9 : Value) : ev_MK (ev_B0 v9) m_J7_checkLength_df160 := ⟨by decide +kernel, ev_dec_all _ _ (by decide +kernel), rfl, Or.inl rfl, ev_mem 1483 rfl rfl⟩
set_option maxRecDepth 100000 in
theorem k_J1_fillNull_b72d1 (v9 : Value) : ev_MK (ev_B0 v9) m_J1_fillNull_b72d1 := ⟨by decide +kernel, ev_dec_all _ _ (by decide +kernel), rfl, Or.inl rfl, ev_mem 1522 rfl rfl⟩
set_option maxRecDepth 100000 in
theorem k_J7_fill_eb02e (v9 : Value) : ev_MK (ev_B0 v9) m_J7_fill_eb02e := ⟨by decide +kernel, ev_dec_all _ _ (by decide +kernel), rfl, Or.inl rfl, ev_mem 1525 rfl rfl⟩
set_option maxRecDepth 100000 in
theorem k_J7_rangeCheck_23922 (v9 : Value) : ev_MK (ev_B0 v9) m_J7_rangeCheck_23922 := ⟨by decide +kernel, ev_dec_all _ _ (by decide +kernel), rfl, Or.inl rfl, ev_mem 1528 rfl rfl⟩
set_option maxRecDepth 100000 in
theorem k_X8_digitOf (v9 : Value) : ev_MK (ev_B0 v9) m_X8_digitOf := ⟨by decide +kernel, ev_dec_all _ _ (by decide +kernel), rfl, Or.inl rfl, ev_mem 1548 rfl rfl⟩
set_option maxRecDepth 100000 in
theorem k_J4_append_cf468 (v9 : Value) : ev_MK (ev_B0 v9) m_J4_append_cf468 := ⟨by decide +kernel, ev_dec_all _ _ (by decide +kernel), rfl, Or.inl rfl, ev_mem 1552 rfl rfl⟩
set_option maxRecDepth 100000 in
theorem k_J5_append_3fe6f (v9 : Value) : ev_MK (ev_B0 v9) m_J5_append_3fe6f := ⟨by decide +kernel, ev_dec_all _ _ (by decide +kernel), rfl, Or.inl rfl, ev_mem 1555 rfl rfl⟩
set_option maxRecDepth 100000 in
theorem k_J1_canEncode_fc78d (v9 : Value) : ev_MK (ev_B0 v9) m_J1_canEncode_fc78d := ⟨by decide +kernel, ev_dec_all _ _ (by decide +kernel), rfl, Or.inl rfl, ev_mem 1558 rfl rfl⟩
set_option maxRecDepth 100000 in
theorem k_J0_checkIndex_df160 (v9 : Value) : ev_MK (ev_B0 v9) m_J0_checkIndex_df160 := ⟨by decide +kernel, ev_dec_all _ _ (by decide +kernel), rfl, Or.inl rfl, ev_mem 1567 rfl rfl⟩
set_option maxRecDepth 100000 in
theorem k_J3_checkIndex_8e157 (v9 : Value) : ev_MK (ev_B0 v9) m_J3_checkIndex_8e157 := ⟨by decide +kernel, ev_dec_all _ _ (by decide +kernel), rfl, Or.inl rfl, ev_mem 1570 rfl rfl⟩
set_option maxRecDepth 100000 in
theorem k_L_writeCat (v9 : Value) : ev_MK (ev_B0 v9) m_L_writeCat := ⟨by decide +kernel, ev_dec_all _ _ (by decide +kernel), rfl, Or.inr rfl, ev_mem 1574 rfl rfl⟩
set_option maxRecDepth 100000 in
theorem k_X8_writeCat (v9 : Value) : ev_MK (ev_B0 v9) m_X8_writeCat := ⟨by decide +kernel, ev_dec_all _ _ (by decide +kernel), rfl, Or.inl rfl, ev_mem 1578 rfl rfl⟩
set_option maxRecDepth 100000 in
theorem k_L_outputAt (v9 : Value) : ev_MK (ev_B0 v9) m_L_outputAt := ⟨by decide +kernel, ev_dec_all _ _ (by decide +kernel), rfl, Or.inr rfl, ev_mem 1582 rfl rfl⟩
set_option maxRecDepth 100000 in
theorem k_X8_outputAt (v9 : Value) : ev_MK (ev_B0 v9) m_X8_outputAt := ⟨by decide +kernel, ev_dec_all _ _ (by decide +kernel), rfl, Or.inl rfl, ev_mem 1586 rfl rfl⟩
set_option maxRecDepth 100000 in
theorem k_J4_charAt_5068e (v9 : Value) : ev_MK (ev_B0 v9) m_J4_charAt_5068e := ⟨by decide +kernel, ev_dec_all _ _ (by decide +kernel), rfl, Or.inl rfl, ev_mem 1591 rfl rfl⟩
set_option maxRecDepth 100000 in
theorem k_J5_charAt_5068e (v9 : Value) : ev_MK (ev_B0 v9) m_J5_charAt_5068e := ⟨by decide +kernel, ev_dec_all _ _ (by decide +kernel), rfl, Or.inl rfl, ev_mem 1594 rfl rfl⟩
set_option maxRecDepth 100000 in
theorem k_L_appendInput (v9 : Value) : ev_MK (ev_B0 v9) m_L_appendInput := ⟨by decide +kernel, ev_dec_all _ _ (by decide +kernel), rfl, Or.inr rfl, ev_mem 1600 rfl rfl⟩
set_option maxRecDepth 100000 in
theorem k_X8_appendInput (v9 : Value) : ev_MK (ev_B0 v9) m_X8_appendInput := ⟨by decide +kernel, ev_dec_all _ _ (by decide +kernel), rfl, Or.inl rfl, ev_mem 1605 rfl rfl⟩
set_option maxRecDepth 100000 in
theorem k_L_execute (v9 : Value) : ev_MK (ev_B0 v9) m_L_execute := ⟨by decide +kernel, ev_dec_all _ _ (by decide +kernel), rfl, Or.inr rfl, ev_mem 1625 rfl rfl⟩
set_option maxRecDepth 100000 in
theorem k_X8_execute (v9 : Value) : ev_MK (ev_B0 v9) m_X8_execute := ⟨by decide +kernel, ev_dec_all _ _ (by decide +kernel), rfl, Or.inl rfl, ev_mem 1629 rfl rfl⟩
set_option maxRecDepth 100000 in
theorem k_X6_countCommands (v9 : Value) : ev_MK (ev_B0 v9) m_X6_countCommands := ⟨by decide +kernel, ev_dec_all _ _ (by decide +kernel), rfl, Or.inl rfl, ev_mem 1633 rfl rfl⟩
set_option maxRecDepth 100000 in
theorem k_X6_readCommand (v9 : Value) : ev_MK (ev_B0 v9) m_X6_readCommand := ⟨by decide +kernel, ev_dec_all _ _ (by decide +kernel), rfl, Or.inl rfl, ev_mem 1637 rfl rfl⟩
set_option maxRecDepth 100000 in
theorem k_X6_peek (v9 : Value) : ev_MK (ev_B0 v9) m_X6_peek := ⟨by decide +kernel, ev_dec_all _ _ (by decide +kernel), rfl, Or.inl rfl, ev_mem 1641 rfl rfl⟩
set_option maxRecDepth 100000 in
theorem k_X6_takeWord (v9 : Value) : ev_MK (ev_B0 v9) m_X6_takeWord := ⟨by decide +kernel, ev_dec_all _ _ (by decide +kernel), rfl, Or.inl rfl, ev_mem 1648 rfl rfl⟩
set_option maxRecDepth 100000 in
theorem k_J0_charAt_5068e (v9 : Value) : ev_MK (ev_B0 v9) m_J0_charAt_5068e := ⟨by decide +kernel, ev_dec_all _ _ (by decide +kernel), rfl, Or.inl rfl, ev_mem 1653 rfl rfl⟩
set_option maxRecDepth 100000 in
theorem k_J0_isLatin1_aae02 (v9 : Value) : ev_MK (ev_B0 v9) m_J0_isLatin1_aae02 := ⟨by decide +kernel, ev_dec_all _ _ (by decide +kernel), rfl, Or.inl rfl, ev_mem 1657 rfl rfl⟩
set_option maxRecDepth 100000 in
theorem k_J1_charAt_3b067 (v9 : Value) : ev_MK (ev_B0 v9) m_J1_charAt_3b067 := ⟨by decide +kernel, ev_dec_all _ _ (by decide +kernel), rfl, Or.inl rfl, ev_mem 1660 rfl rfl⟩
set_option maxRecDepth 100000 in
theorem k_X6_takeNumber (v9 : Value) : ev_MK (ev_B0 v9) m_X6_takeNumber := ⟨by decide +kernel, ev_dec_all _ _ (by decide +kernel), rfl, Or.inl rfl, ev_mem 1668 rfl rfl⟩
set_option maxRecDepth 100000 in
theorem k_X6_isDigit (v9 : Value) : ev_MK (ev_B0 v9) m_X6_isDigit := ⟨by decide +kernel, ev_dec_all _ _ (by decide +kernel), rfl, Or.inl rfl, ev_mem 1671 rfl rfl⟩
set_option maxRecDepth 100000 in
theorem k_X6_takeRanking (v9 : Value) : ev_MK (ev_B0 v9) m_X6_takeRanking := ⟨by decide +kernel, ev_dec_all _ _ (by decide +kernel), rfl, Or.inl rfl, ev_mem 1676 rfl rfl⟩
set_option maxRecDepth 100000 in
theorem k_X6_takeFirst (v9 : Value) : ev_MK (ev_B0 v9) m_X6_takeFirst := ⟨by decide +kernel, ev_dec_all _ _ (by decide +kernel), rfl, Or.inl rfl, ev_mem 1681 rfl rfl⟩
set_option maxRecDepth 100000 in
theorem k_J0_indexOf_0f7a4 (v9 : Value) : ev_MK (ev_B0 v9) m_J0_indexOf_0f7a4 := ⟨by decide +kernel, ev_dec_all _ _ (by decide +kernel), rfl, Or.inl rfl, ev_mem 1685 rfl rfl⟩
set_option maxRecDepth 100000 in
theorem k_J0_indexOf_7cf53 (v9 : Value) : ev_MK (ev_B0 v9) m_J0_indexOf_7cf53 := ⟨by decide +kernel, ev_dec_all _ _ (by decide +kernel), rfl, Or.inl rfl, ev_mem 1689 rfl rfl⟩
set_option maxRecDepth 100000 in
theorem k_J1_indexOf_4cfef (v9 : Value) : ev_MK (ev_B0 v9) m_J1_indexOf_4cfef := ⟨by decide +kernel, ev_dec_all _ _ (by decide +kernel), rfl, Or.inl rfl, ev_mem 1693 rfl rfl⟩
set_option maxRecDepth 100000 in
theorem k_J1_canEncode_9a6ad (v9 : Value) : ev_MK (ev_B0 v9) m_J1_canEncode_9a6ad := ⟨by decide +kernel, ev_dec_all _ _ (by decide +kernel), rfl, Or.inl rfl, ev_mem 1696 rfl rfl⟩
set_option maxRecDepth 100000 in
theorem k_J1_indexOfChar_4cfef (v9 : Value) : ev_MK (ev_B0 v9) m_J1_indexOfChar_4cfef := ⟨by decide +kernel, ev_dec_all _ _ (by decide +kernel), rfl, Or.inl rfl, ev_mem 1701 rfl rfl⟩
set_option maxRecDepth 100000 in
theorem k_X6_readMirrorOrMethod (v9 : Value) : ev_MK (ev_B0 v9) m_X6_readMirrorOrMethod := ⟨by decide +kernel, ev_dec_all _ _ (by decide +kernel), rfl, Or.inl rfl, ev_mem 1732 rfl rfl⟩
set_option maxRecDepth 100000 in
theorem k_X8_runNextCommand (v9 : Value) : ev_MK (ev_B0 v9) m_X8_runNextCommand := ⟨by decide +kernel, ev_dec_all _ _ (by decide +kernel), rfl, Or.inl rfl, ev_mem 1746 rfl rfl⟩
set_option maxRecDepth 100000 in
theorem k_X6_skipSeparator (v9 : Value) : ev_MK (ev_B0 v9) m_X6_skipSeparator := ⟨by decide +kernel, ev_dec_all _ _ (by decide +kernel), rfl, Or.inl rfl, ev_mem 1750 rfl rfl⟩
set_option maxRecDepth 100000 in
theorem k_X8_runCat (v9 : Value) : ev_MK (ev_B0 v9) m_X8_runCat := ⟨by decide +kernel, ev_dec_all _ _ (by decide +kernel), rfl, Or.inl rfl, ev_mem 1755 rfl rfl⟩
set_option maxRecDepth 100000 in
theorem k_X8_runMirror (v9 : Value) : ev_MK (ev_B0 v9) m_X8_runMirror := ⟨by decide +kernel, ev_dec_all _ _ (by decide +kernel), rfl, Or.inl rfl, ev_mem 1759 rfl rfl⟩
set_option maxRecDepth 100000 in
theorem k_X8_runSay (v9 : Value) : ev_MK (ev_B0 v9) m_X8_runSay := ⟨by decide +kernel, ev_dec_all _ _ (by decide +kernel), rfl, Or.inl rfl, ev_mem 1763 rfl rfl⟩
set_option maxRecDepth 100000 in
theorem k_X3_returnToMarked (v9 : Value) : ev_MK (ev_B0 v9) m_X3_returnToMarked := ⟨by decide +kernel, ev_dec_all _ _ (by decide +kernel), rfl, Or.inl rfl, ev_mem 1768 rfl rfl⟩
set_option maxRecDepth 100000 in
theorem k_L_syntaxErrorOffset (v9 : Value) : ev_MK (ev_B0 v9) m_L_syntaxErrorOffset := ⟨by decide +kernel, ev_dec_all _ _ (by decide +kernel), rfl, Or.inr rfl, ev_mem 1773 rfl rfl⟩
set_option maxRecDepth 100000 in
theorem k_X8_syntaxErrorOffset (v9 : Value) : ev_MK (ev_B0 v9) m_X8_syntaxErrorOffset := ⟨by decide +kernel, ev_dec_all _ _ (by decide +kernel), rfl, Or.inl rfl, ev_mem 1777 rfl rfl⟩
set_option maxRecDepth 100000 in
theorem k_L_rejectionReason (v9 : Value) : ev_MK (ev_B0 v9) m_L_rejectionReason := ⟨by decide +kernel, ev_dec_all _ _ (by decide +kernel), rfl, Or.inr rfl, ev_mem 1781 rfl rfl⟩
set_option maxRecDepth 100000 in
theorem k_X8_rejectionReason (v9 : Value) : ev_MK (ev_B0 v9) m_X8_rejectionReason := ⟨by decide +kernel, ev_dec_all _ _ (by decide +kernel), rfl, Or.inl rfl, ev_mem 1785 rfl rfl⟩
set_option maxRecDepth 100000 in
theorem k_X8_requireRejection (v9 : Value) : ev_MK (ev_B0 v9) m_X8_requireRejection := ⟨by decide +kernel, ev_dec_all _ _ (by decide +kernel), rfl, Or.inl rfl, ev_mem 1789 rfl rfl⟩
set_option maxRecDepth 100000 in
theorem k_L_rejectionDetail (v9 : Value) : ev_MK (ev_B0 v9) m_L_rejectionDetail := ⟨by decide +kernel, ev_dec_all _ _ (by decide +kernel), rfl, Or.inr rfl, ev_mem 1793 rfl rfl⟩
set_option maxRecDepth 100000 in
theorem k_X8_rejectionDetail (v9 : Value) : ev_MK (ev_B0 v9) m_X8_rejectionDetail := ⟨by decide +kernel, ev_dec_all _ _ (by decide +kernel), rfl, Or.inl rfl, ev_mem 1797 rfl rfl⟩
set_option maxRecDepth 100000 in
theorem k_L_causeReason (v9 : Value) : ev_MK (ev_B0 v9) m_L_causeReason := ⟨by decide +kernel, ev_dec_all _ _ (by decide +kernel), rfl, Or.inr rfl, ev_mem 1800 rfl rfl⟩
set_option maxRecDepth 100000 in
theorem k_X8_causeReason (v9 : Value) : ev_MK (ev_B0 v9) m_X8_causeReason := ⟨by decide +kernel, ev_dec_all _ _ (by decide +kernel), rfl, Or.inl rfl, ev_mem 1804 rfl rfl⟩
set_option maxRecDepth 100000 in
theorem k_L_undo (v9 : Value) : ev_MK (ev_B0 v9) m_L_undo := ⟨by decide +kernel, ev_dec_all _ _ (by decide +kernel), rfl, Or.inr rfl, ev_mem 1808 rfl rfl⟩
set_option maxRecDepth 100000 in
theorem k_X8_undo (v9 : Value) : ev_MK (ev_B0 v9) m_X8_undo := ⟨by decide +kernel, ev_dec_all _ _ (by decide +kernel), rfl, Or.inl rfl, ev_mem 1812 rfl rfl⟩
set_option maxRecDepth 100000 in
theorem k_X3_stepBack (v9 : Value) : ev_MK (ev_B0 v9) m_X3_stepBack := ⟨by decide +kernel, ev_dec_all _ _ (by decide +kernel), rfl, Or.inl rfl, ev_mem 1817 rfl rfl⟩
set_option maxRecDepth 100000 in
theorem k_L_restoreSnapshot (v9 : Value) : ev_MK (ev_B0 v9) m_L_restoreSnapshot := ⟨by decide +kernel, ev_dec_all _ _ (by decide +kernel), rfl, Or.inr rfl, ev_mem 1821 rfl rfl⟩
set_option maxRecDepth 100000 in
theorem k_X8_restoreSnapshot (v9 : Value) : ev_MK (ev_B0 v9) m_X8_restoreSnapshot := ⟨by decide +kernel, ev_dec_all _ _ (by decide +kernel), rfl, Or.inl rfl, ev_mem 1825 rfl rfl⟩
set_option maxRecDepth 100000 in
theorem k_X9_init (v9 : Value) : ev_MK (ev_B0 v9) m_X9_init := ⟨by decide +kernel, ev_dec_all _ _ (by decide +kernel), rfl, Or.inl rfl, ev_mem 1831 rfl rfl⟩
set_option maxRecDepth 100000 in
theorem k_X9_thrown (v9 : Value) : ev_MK (ev_B0 v9) m_X9_thrown := ⟨by decide +kernel, ev_dec_all _ _ (by decide +kernel), rfl, Or.inl rfl, ev_mem 1921 rfl rfl⟩
set_option maxRecDepth 100000 in
theorem k_X9_addCat (v9 : Value) : ev_MK (ev_B0 v9) m_X9_addCat := ⟨by decide +kernel, ev_dec_all _ _ (by decide +kernel), rfl, Or.inl rfl, ev_mem 1925 rfl rfl⟩
set_option maxRecDepth 100000 in
theorem k_X9_keeps (v9 : Value) : ev_MK (ev_B0 v9) m_X9_keeps := ⟨by decide +kernel, ev_dec_all _ _ (by decide +kernel), rfl, Or.inl rfl, ev_mem 1929 rfl rfl⟩
set_option maxRecDepth 100000 in
theorem k_X9_copies (v9 : Value) : ev_MK (ev_B0 v9) m_X9_copies := ⟨by decide +kernel, ev_dec_all _ _ (by decide +kernel), rfl, Or.inl rfl, ev_mem 1932 rfl rfl⟩
set_option maxRecDepth 100000 in
theorem k_X9_cats (v9 : Value) : ev_MK (ev_B0 v9) m_X9_cats := ⟨by decide +kernel, ev_dec_all _ _ (by decide +kernel), rfl, Or.inl rfl, ev_mem 1936 rfl rfl⟩
set_option maxRecDepth 100000 in
theorem k_X9_isCell (v9 : Value) : ev_MK (ev_B0 v9) m_X9_isCell := ⟨by decide +kernel, ev_dec_all _ _ (by decide +kernel), rfl, Or.inl rfl, ev_mem 1939 rfl rfl⟩
set_option maxRecDepth 100000 in
theorem k_X9_isIn (v9 : Value) : ev_MK (ev_B0 v9) m_X9_isIn := ⟨by decide +kernel, ev_dec_all _ _ (by decide +kernel), rfl, Or.inl rfl, ev_mem 1942 rfl rfl⟩
set_option maxRecDepth 100000 in
theorem k_X9_isThrown (v9 : Value) : ev_MK (ev_B0 v9) m_X9_isThrown := ⟨by decide +kernel, ev_dec_all _ _ (by decide +kernel), rfl, Or.inl rfl, ev_mem 1946 rfl rfl⟩
set_option maxRecDepth 100000 in
theorem k_X9_areThree (v9 : Value) : ev_MK (ev_B0 v9) m_X9_areThree := ⟨by decide +kernel, ev_dec_all _ _ (by decide +kernel), rfl, Or.inl rfl, ev_mem 1949 rfl rfl⟩
set_option maxRecDepth 100000 in
theorem k_X9_isOption (v9 : Value) : ev_MK (ev_B0 v9) m_X9_isOption := ⟨by decide +kernel, ev_dec_all _ _ (by decide +kernel), rfl, Or.inl rfl, ev_mem 1952 rfl rfl⟩
set_option maxRecDepth 100000 in
theorem k_X9_isRejected (v9 : Value) : ev_MK (ev_B0 v9) m_X9_isRejected := ⟨by decide +kernel, ev_dec_all _ _ (by decide +kernel), rfl, Or.inl rfl, ev_mem 1956 rfl rfl⟩
set_option maxRecDepth 100000 in
theorem k_X9_catOn (v9 : Value) : ev_MK (ev_B0 v9) m_X9_catOn := ⟨by decide +kernel, ev_dec_all _ _ (by decide +kernel), rfl, Or.inl rfl, ev_mem 1960 rfl rfl⟩
set_option maxRecDepth 100000 in
theorem k_X9_of (v9 : Value) : ev_MK (ev_B0 v9) m_X9_of := ⟨by decide +kernel, ev_dec_all _ _ (by decide +kernel), rfl, Or.inl rfl, ev_mem 1964 rfl rfl⟩
set_option maxRecDepth 100000 in
theorem k_X9_sets (v9 : Value) : ev_MK (ev_B0 v9) m_X9_sets := ⟨by decide +kernel, ev_dec_all _ _ (by decide +kernel), rfl, Or.inl rfl, ev_mem 1968 rfl rfl⟩
set_option maxRecDepth 100000 in
theorem k_X9_ends (v9 : Value) : ev_MK (ev_B0 v9) m_X9_ends := ⟨by decide +kernel, ev_dec_all _ _ (by decide +kernel), rfl, Or.inl rfl, ev_mem 1972 rfl rfl⟩
set_option maxRecDepth 100000 in
theorem k_X9_setMirror (v9 : Value) : ev_MK (ev_B0 v9) m_X9_setMirror := ⟨by decide +kernel, ev_dec_all _ _ (by decide +kernel), rfl, Or.inl rfl, ev_mem 1976 rfl rfl⟩
set_option maxRecDepth 100000 in
theorem k_X9_mirror (v9 : Value) : ev_MK (ev_B0 v9) m_X9_mirror := ⟨by decide +kernel, ev_dec_all _ _ (by decide +kernel), rfl, Or.inl rfl, ev_mem 1980 rfl rfl⟩
set_option maxRecDepth 100000 in
theorem k_X9_isContent (v9 : Value) : ev_MK (ev_B0 v9) m_X9_isContent := ⟨by decide +kernel, ev_dec_all _ _ (by decide +kernel), rfl, Or.inl rfl, ev_mem 1983 rfl rfl⟩
set_option maxRecDepth 100000 in
theorem k_X9_mirrors (v9 : Value) : ev_MK (ev_B0 v9) m_X9_mirrors := ⟨by decide +kernel, ev_dec_all _ _ (by decide +kernel), rfl, Or.inl rfl, ev_mem 1987 rfl rfl⟩
set_option maxRecDepth 100000 in
theorem k_X9_catCount (v9 : Value) : ev_MK (ev_B0 v9) m_X9_catCount := ⟨by decide +kernel, ev_dec_all _ _ (by decide +kernel), rfl, Or.inl rfl, ev_mem 1991 rfl rfl⟩
set_option maxRecDepth 100000 in
theorem k_X9_cellOf (v9 : Value) : ev_MK (ev_B0 v9) m_X9_cellOf := ⟨by decide +kernel, ev_dec_all _ _ (by decide +kernel), rfl, Or.inl rfl, ev_mem 1995 rfl rfl⟩
set_option maxRecDepth 100000 in
theorem k_X9_isCat (v9 : Value) : ev_MK (ev_B0 v9) m_X9_isCat := ⟨by decide +kernel, ev_dec_all _ _ (by decide +kernel), rfl, Or.inl rfl, ev_mem 1999 rfl rfl⟩
set_option maxRecDepth 100000 in
theorem k_X9_catIn (v9 : Value) : ev_MK (ev_B0 v9) m_X9_catIn := ⟨by decide +kernel, ev_dec_all _ _ (by decide +kernel), rfl, Or.inl rfl, ev_mem 2003 rfl rfl⟩
set_option maxRecDepth 100000 in
theorem k_X9_contentOf (v9 : Value) : ev_MK (ev_B0 v9) m_X9_contentOf := ⟨by decide +kernel, ev_dec_all _ _ (by decide +kernel), rfl, Or.inl rfl, ev_mem 2007 rfl rfl⟩
set_option maxRecDepth 100000 in
theorem k_X9_content (v9 : Value) : ev_MK (ev_B0 v9) m_X9_content := ⟨by decide +kernel, ev_dec_all _ _ (by decide +kernel), rfl, Or.inl rfl, ev_mem 2011 rfl rfl⟩
set_option maxRecDepth 100000 in
theorem k_X9_optionAt (v9 : Value) : ev_MK (ev_B0 v9) m_X9_optionAt := ⟨by decide +kernel, ev_dec_all _ _ (by decide +kernel), rfl, Or.inl rfl, ev_mem 2015 rfl rfl⟩
set_option maxRecDepth 100000 in
theorem k_X9_placeOf (v9 : Value) : ev_MK (ev_B0 v9) m_X9_placeOf := ⟨by decide +kernel, ev_dec_all _ _ (by decide +kernel), rfl, Or.inl rfl, ev_mem 2019 rfl rfl⟩
set_option maxRecDepth 100000 in
theorem k_X9_place (v9 : Value) : ev_MK (ev_B0 v9) m_X9_place := ⟨by decide +kernel, ev_dec_all _ _ (by decide +kernel), rfl, Or.inl rfl, ev_mem 2023 rfl rfl⟩
set_option maxRecDepth 100000 in
theorem k_X9_heardBy (v9 : Value) : ev_MK (ev_B0 v9) m_X9_heardBy := ⟨by decide +kernel, ev_dec_all _ _ (by decide +kernel), rfl, Or.inl rfl, ev_mem 2027 rfl rfl⟩
set_option maxRecDepth 100000 in
theorem k_X9_rayEnd (v9 : Value) : ev_MK (ev_B0 v9) m_X9_rayEnd := ⟨by decide +kernel, ev_dec_all _ _ (by decide +kernel), rfl, Or.inl rfl, ev_mem 2031 rfl rfl⟩
set_option maxRecDepth 100000 in
theorem k_X9_isNoPort (v9 : Value) : ev_MK (ev_B0 v9) m_X9_isNoPort := ⟨by decide +kernel, ev_dec_all _ _ (by decide +kernel), rfl, Or.inl rfl, ev_mem 2035 rfl rfl⟩
set_option maxRecDepth 100000 in
theorem k_X9_isPort (v9 : Value) : ev_MK (ev_B0 v9) m_X9_isPort := ⟨by decide +kernel, ev_dec_all _ _ (by decide +kernel), rfl, Or.inl rfl, ev_mem 2038 rfl rfl⟩
set_option maxRecDepth 100000 in
theorem k_X9_shines (v9 : Value) : ev_MK (ev_B0 v9) m_X9_shines := ⟨by decide +kernel, ev_dec_all _ _ (by decide +kernel), rfl, Or.inl rfl, ev_mem 2042 rfl rfl⟩
set_option maxRecDepth 100000 in
theorem k_X9_firstCell (v9 : Value) : ev_MK (ev_B0 v9) m_X9_firstCell := ⟨by decide +kernel, ev_dec_all _ _ (by decide +kernel), rfl, Or.inl rfl, ev_mem 2045 rfl rfl⟩
set_option maxRecDepth 100000 in
theorem k_X9_firstWay (v9 : Value) : ev_MK (ev_B0 v9) m_X9_firstWay := ⟨by decide +kernel, ev_dec_all _ _ (by decide +kernel), rfl, Or.inl rfl, ev_mem 2048 rfl rfl⟩
set_option maxRecDepth 100000 in
theorem k_X9_reflected (v9 : Value) : ev_MK (ev_B0 v9) m_X9_reflected := ⟨by decide +kernel, ev_dec_all _ _ (by decide +kernel), rfl, Or.inl rfl, ev_mem 2052 rfl rfl⟩
set_option maxRecDepth 100000 in
theorem k_X9_next (v9 : Value) : ev_MK (ev_B0 v9) m_X9_next := ⟨by decide +kernel, ev_dec_all _ _ (by decide +kernel), rfl, Or.inl rfl, ev_mem 2055 rfl rfl⟩
set_option maxRecDepth 100000 in
theorem k_X9_rayEndByJoining (v9 : Value) : ev_MK (ev_B0 v9) m_X9_rayEndByJoining := ⟨by decide +kernel, ev_dec_all _ _ (by decide +kernel), rfl, Or.inl rfl, ev_mem 2059 rfl rfl⟩
set_option maxRecDepth 100000 in
theorem k_X9_rayCat (v9 : Value) : ev_MK (ev_B0 v9) m_X9_rayCat := ⟨by decide +kernel, ev_dec_all _ _ (by decide +kernel), rfl, Or.inl rfl, ev_mem 2064 rfl rfl⟩
set_option maxRecDepth 100000 in
theorem k_X9_rayLength (v9 : Value) : ev_MK (ev_B0 v9) m_X9_rayLength := ⟨by decide +kernel, ev_dec_all _ _ (by decide +kernel), rfl, Or.inl rfl, ev_mem 2068 rfl rfl⟩
set_option maxRecDepth 100000 in
theorem k_X9_rayBounces (v9 : Value) : ev_MK (ev_B0 v9) m_X9_rayBounces := ⟨by decide +kernel, ev_dec_all _ _ (by decide +kernel), rfl, Or.inl rfl, ev_mem 2072 rfl rfl⟩
set_option maxRecDepth 100000 in
theorem k_X9_leastEffort (v9 : Value) : ev_MK (ev_B0 v9) m_X9_leastEffort := ⟨by decide +kernel, ev_dec_all _ _ (by decide +kernel), rfl, Or.inl rfl, ev_mem 2076 rfl rfl⟩
set_option maxRecDepth 100000 in
theorem k_X9_effort (v9 : Value) : ev_MK (ev_B0 v9) m_X9_effort := ⟨by decide +kernel, ev_dec_all _ _ (by decide +kernel), rfl, Or.inl rfl, ev_mem 2080 rfl rfl⟩
set_option maxRecDepth 100000 in
theorem k_X9_lowers (v9 : Value) : ev_MK (ev_B0 v9) m_X9_lowers := ⟨by decide +kernel, ev_dec_all _ _ (by decide +kernel), rfl, Or.inl rfl, ev_mem 2084 rfl rfl⟩
set_option maxRecDepth 100000 in
theorem k_X9_goesOn (v9 : Value) : ev_MK (ev_B0 v9) m_X9_goesOn := ⟨by decide +kernel, ev_dec_all _ _ (by decide +kernel), rfl, Or.inl rfl, ev_mem 2088 rfl rfl⟩
set_option maxRecDepth 100000 in
theorem k_X9_leastEffortByRounds (v9 : Value) : ev_MK (ev_B0 v9) m_X9_leastEffortByRounds := ⟨by decide +kernel, ev_dec_all _ _ (by decide +kernel), rfl, Or.inl rfl, ev_mem 2092 rfl rfl⟩
set_option maxRecDepth 100000 in
theorem k_X9_portByLength (v9 : Value) : ev_MK (ev_B0 v9) m_X9_portByLength := ⟨by decide +kernel, ev_dec_all _ _ (by decide +kernel), rfl, Or.inl rfl, ev_mem 2097 rfl rfl⟩
set_option maxRecDepth 100000 in
theorem k_X9_rayLengthOf (v9 : Value) : ev_MK (ev_B0 v9) m_X9_rayLengthOf := ⟨by decide +kernel, ev_dec_all _ _ (by decide +kernel), rfl, Or.inl rfl, ev_mem 2101 rfl rfl⟩
set_option maxRecDepth 100000 in
theorem k_X9_testify (v9 : Value) : ev_MK (ev_B0 v9) m_X9_testify := ⟨by decide +kernel, ev_dec_all _ _ (by decide +kernel), rfl, Or.inl rfl, ev_mem 2105 rfl rfl⟩
set_option maxRecDepth 100000 in
theorem k_X9_says (v9 : Value) : ev_MK (ev_B0 v9) m_X9_says := ⟨by decide +kernel, ev_dec_all _ _ (by decide +kernel), rfl, Or.inl rfl, ev_mem 2109 rfl rfl⟩
set_option maxRecDepth 100000 in
theorem k_X9_firstVotes (v9 : Value) : ev_MK (ev_B0 v9) m_X9_firstVotes := ⟨by decide +kernel, ev_dec_all _ _ (by decide +kernel), rfl, Or.inl rfl, ev_mem 2113 rfl rfl⟩
set_option maxRecDepth 100000 in
theorem k_X9_votes (v9 : Value) : ev_MK (ev_B0 v9) m_X9_votes := ⟨by decide +kernel, ev_dec_all _ _ (by decide +kernel), rfl, Or.inl rfl, ev_mem 2117 rfl rfl⟩
set_option maxRecDepth 100000 in
theorem k_X9_prefer (v9 : Value) : ev_MK (ev_B0 v9) m_X9_prefer := ⟨by decide +kernel, ev_dec_all _ _ (by decide +kernel), rfl, Or.inl rfl, ev_mem 2121 rfl rfl⟩
set_option maxRecDepth 100000 in
theorem k_X9_areOptions (v9 : Value) : ev_MK (ev_B0 v9) m_X9_areOptions := ⟨by decide +kernel, ev_dec_all _ _ (by decide +kernel), rfl, Or.inl rfl, ev_mem 2124 rfl rfl⟩
set_option maxRecDepth 100000 in
theorem k_X9_likes (v9 : Value) : ev_MK (ev_B0 v9) m_X9_likes := ⟨by decide +kernel, ev_dec_all _ _ (by decide +kernel), rfl, Or.inl rfl, ev_mem 2128 rfl rfl⟩
set_option maxRecDepth 100000 in
theorem k_X9_pointsOf (v9 : Value) : ev_MK (ev_B0 v9) m_X9_pointsOf := ⟨by decide +kernel, ev_dec_all _ _ (by decide +kernel), rfl, Or.inl rfl, ev_mem 2132 rfl rfl⟩
set_option maxRecDepth 100000 in
theorem k_X9_points (v9 : Value) : ev_MK (ev_B0 v9) m_X9_points := ⟨by decide +kernel, ev_dec_all _ _ (by decide +kernel), rfl, Or.inl rfl, ev_mem 2136 rfl rfl⟩
set_option maxRecDepth 100000 in
theorem k_X9_pointsWinner (v9 : Value) : ev_MK (ev_B0 v9) m_X9_pointsWinner := ⟨by decide +kernel, ev_dec_all _ _ (by decide +kernel), rfl, Or.inl rfl, ev_mem 2140 rfl rfl⟩
set_option maxRecDepth 100000 in
theorem k_X9_byPoints (v9 : Value) : ev_MK (ev_B0 v9) m_X9_byPoints := ⟨by decide +kernel, ev_dec_all _ _ (by decide +kernel), rfl, Or.inl rfl, ev_mem 2144 rfl rfl⟩
set_option maxRecDepth 100000 in
theorem k_X9_roundsWinner (v9 : Value) : ev_MK (ev_B0 v9) m_X9_roundsWinner := ⟨by decide +kernel, ev_dec_all _ _ (by decide +kernel), rfl, Or.inl rfl, ev_mem 2148 rfl rfl⟩
set_option maxRecDepth 100000 in
theorem k_X9_byRounds (v9 : Value) : ev_MK (ev_B0 v9) m_X9_byRounds := ⟨by decide +kernel, ev_dec_all _ _ (by decide +kernel), rfl, Or.inl rfl, ev_mem 2152 rfl rfl⟩
set_option maxRecDepth 100000 in
theorem k_X9_major (v9 : Value) : ev_MK (ev_B0 v9) m_X9_major := ⟨by decide +kernel, ev_dec_all _ _ (by decide +kernel), rfl, Or.inl rfl, ev_mem 2156 rfl rfl⟩
set_option maxRecDepth 100000 in
theorem k_X9_leaves (v9 : Value) : ev_MK (ev_B0 v9) m_X9_leaves := ⟨by decide +kernel, ev_dec_all _ _ (by decide +kernel), rfl, Or.inl rfl, ev_mem 2160 rfl rfl⟩
set_option maxRecDepth 100000 in
theorem k_X9_rounds (v9 : Value) : ev_MK (ev_B0 v9) m_X9_rounds := ⟨by decide +kernel, ev_dec_all _ _ (by decide +kernel), rfl, Or.inl rfl, ev_mem 2164 rfl rfl⟩
set_option maxRecDepth 100000 in
theorem k_X9_strengthOf (v9 : Value) : ev_MK (ev_B0 v9) m_X9_strengthOf := ⟨by decide +kernel, ev_dec_all _ _ (by decide +kernel), rfl, Or.inl rfl, ev_mem 2168 rfl rfl⟩
set_option maxRecDepth 100000 in
theorem k_X9_strengths (v9 : Value) : ev_MK (ev_B0 v9) m_X9_strengths := ⟨by decide +kernel, ev_dec_all _ _ (by decide +kernel), rfl, Or.inl rfl, ev_mem 2172 rfl rfl⟩
set_option maxRecDepth 100000 in
theorem k_X9_strengthByTrying (v9 : Value) : ev_MK (ev_B0 v9) m_X9_strengthByTrying := ⟨by decide +kernel, ev_dec_all _ _ (by decide +kernel), rfl, Or.inl rfl, ev_mem 2176 rfl rfl⟩
set_option maxRecDepth 100000 in
theorem k_X9_strengthWinner (v9 : Value) : ev_MK (ev_B0 v9) m_X9_strengthWinner := ⟨by decide +kernel, ev_dec_all _ _ (by decide +kernel), rfl, Or.inl rfl, ev_mem 2181 rfl rfl⟩
set_option maxRecDepth 100000 in
theorem k_X9_byStrengths (v9 : Value) : ev_MK (ev_B0 v9) m_X9_byStrengths := ⟨by decide +kernel, ev_dec_all _ _ (by decide +kernel), rfl, Or.inl rfl, ev_mem 2185 rfl rfl⟩
set_option maxRecDepth 100000 in
theorem k_X9_isDominant (v9 : Value) : ev_MK (ev_B0 v9) m_X9_isDominant := ⟨by decide +kernel, ev_dec_all _ _ (by decide +kernel), rfl, Or.inl rfl, ev_mem 2189 rfl rfl⟩
set_option maxRecDepth 100000 in
theorem k_X9_dominates (v9 : Value) : ev_MK (ev_B0 v9) m_X9_dominates := ⟨by decide +kernel, ev_dec_all _ _ (by decide +kernel), rfl, Or.inl rfl, ev_mem 2193 rfl rfl⟩
set_option maxRecDepth 100000 in
theorem k_X9_setMethod (v9 : Value) : ev_MK (ev_B0 v9) m_X9_setMethod := ⟨by decide +kernel, ev_dec_all _ _ (by decide +kernel), rfl, Or.inl rfl, ev_mem 2197 rfl rfl⟩
set_option maxRecDepth 100000 in
theorem k_X9_methods (v9 : Value) : ev_MK (ev_B0 v9) m_X9_methods := ⟨by decide +kernel, ev_dec_all _ _ (by decide +kernel), rfl, Or.inl rfl, ev_mem 2201 rfl rfl⟩
set_option maxRecDepth 100000 in
theorem k_X9_method (v9 : Value) : ev_MK (ev_B0 v9) m_X9_method := ⟨by decide +kernel, ev_dec_all _ _ (by decide +kernel), rfl, Or.inl rfl, ev_mem 2205 rfl rfl⟩
set_option maxRecDepth 100000 in
theorem k_X9_deliberate (v9 : Value) : ev_MK (ev_B0 v9) m_X9_deliberate := ⟨by decide +kernel, ev_dec_all _ _ (by decide +kernel), rfl, Or.inl rfl, ev_mem 2209 rfl rfl⟩
set_option maxRecDepth 100000 in
theorem k_X9_votesAll (v9 : Value) : ev_MK (ev_B0 v9) m_X9_votesAll := ⟨by decide +kernel, ev_dec_all _ _ (by decide +kernel), rfl, Or.inl rfl, ev_mem 2213 rfl rfl⟩
set_option maxRecDepth 100000 in
theorem k_X9_winner (v9 : Value) : ev_MK (ev_B0 v9) m_X9_winner := ⟨by decide +kernel, ev_dec_all _ _ (by decide +kernel), rfl, Or.inl rfl, ev_mem 2217 rfl rfl⟩
set_option maxRecDepth 100000 in
theorem k_X9_retry (v9 : Value) : ev_MK (ev_B0 v9) m_X9_retry := ⟨by decide +kernel, ev_dec_all _ _ (by decide +kernel), rfl, Or.inl rfl, ev_mem 2221 rfl rfl⟩
set_option maxRecDepth 100000 in
theorem k_X9_retries (v9 : Value) : ev_MK (ev_B0 v9) m_X9_retries := ⟨by decide +kernel, ev_dec_all _ _ (by decide +kernel), rfl, Or.inl rfl, ev_mem 2225 rfl rfl⟩
set_option maxRecDepth 100000 in
theorem k_X9_isCaused (v9 : Value) : ev_MK (ev_B0 v9) m_X9_isCaused := ⟨by decide +kernel, ev_dec_all _ _ (by decide +kernel), rfl, Or.inl rfl, ev_mem 2229 rfl rfl⟩
set_option maxRecDepth 100000 in
theorem k_X9_hasCause (v9 : Value) : ev_MK (ev_B0 v9) m_X9_hasCause := ⟨by decide +kernel, ev_dec_all _ _ (by decide +kernel), rfl, Or.inl rfl, ev_mem 2233 rfl rfl⟩
set_option maxRecDepth 100000 in
theorem k_X9_deliberations (v9 : Value) : ev_MK (ev_B0 v9) m_X9_deliberations := ⟨by decide +kernel, ev_dec_all _ _ (by decide +kernel), rfl, Or.inl rfl, ev_mem 2237 rfl rfl⟩
set_option maxRecDepth 100000 in
theorem k_X9_verdictAt (v9 : Value) : ev_MK (ev_B0 v9) m_X9_verdictAt := ⟨by decide +kernel, ev_dec_all _ _ (by decide +kernel), rfl, Or.inl rfl, ev_mem 2241 rfl rfl⟩
set_option maxRecDepth 100000 in
theorem k_X9_hungCount (v9 : Value) : ev_MK (ev_B0 v9) m_X9_hungCount := ⟨by decide +kernel, ev_dec_all _ _ (by decide +kernel), rfl, Or.inl rfl, ev_mem 2245 rfl rfl⟩
set_option maxRecDepth 100000 in
theorem k_X9_retrials (v9 : Value) : ev_MK (ev_B0 v9) m_X9_retrials := ⟨by decide +kernel, ev_dec_all _ _ (by decide +kernel), rfl, Or.inl rfl, ev_mem 2249 rfl rfl⟩
set_option maxRecDepth 100000 in
theorem k_X9_testimonies (v9 : Value) : ev_MK (ev_B0 v9) m_X9_testimonies := ⟨by decide +kernel, ev_dec_all _ _ (by decide +kernel), rfl, Or.inl rfl, ev_mem 2253 rfl rfl⟩
set_option maxRecDepth 100000 in
theorem k_X9_catByHeard (v9 : Value) : ev_MK (ev_B0 v9) m_X9_catByHeard := ⟨by decide +kernel, ev_dec_all _ _ (by decide +kernel), rfl, Or.inl rfl, ev_mem 2257 rfl rfl⟩
set_option maxRecDepth 100000 in
theorem k_X9_meanHeard (v9 : Value) : ev_MK (ev_B0 v9) m_X9_meanHeard := ⟨by decide +kernel, ev_dec_all _ _ (by decide +kernel), rfl, Or.inl rfl, ev_mem 2261 rfl rfl⟩
set_option maxRecDepth 100000 in
theorem k_X9_hungShare (v9 : Value) : ev_MK (ev_B0 v9) m_X9_hungShare := ⟨by decide +kernel, ev_dec_all _ _ (by decide +kernel), rfl, Or.inl rfl, ev_mem 2265 rfl rfl⟩
set_option maxRecDepth 100000 in
theorem k_X9_isConsistent (v9 : Value) : ev_MK (ev_B0 v9) m_X9_isConsistent := ⟨by decide +kernel, ev_dec_all _ _ (by decide +kernel), rfl, Or.inl rfl, ev_mem 2269 rfl rfl⟩
set_option maxRecDepth 100000 in
theorem k_X9_writeRow (v9 : Value) : ev_MK (ev_B0 v9) m_X9_writeRow := ⟨by decide +kernel, ev_dec_all _ _ (by decide +kernel), rfl, Or.inl rfl, ev_mem 2273 rfl rfl⟩
set_option maxRecDepth 100000 in
theorem k_X9_puts (v9 : Value) : ev_MK (ev_B0 v9) m_X9_puts := ⟨by decide +kernel, ev_dec_all _ _ (by decide +kernel), rfl, Or.inl rfl, ev_mem 2277 rfl rfl⟩
set_option maxRecDepth 100000 in
theorem k_X9_writeCat (v9 : Value) : ev_MK (ev_B0 v9) m_X9_writeCat := ⟨by decide +kernel, ev_dec_all _ _ (by decide +kernel), rfl, Or.inl rfl, ev_mem 2281 rfl rfl⟩
set_option maxRecDepth 100000 in
theorem k_X9_number (v9 : Value) : ev_MK (ev_B0 v9) m_X9_number := ⟨by decide +kernel, ev_dec_all _ _ (by decide +kernel), rfl, Or.inl rfl, ev_mem 2285 rfl rfl⟩
set_option maxRecDepth 100000 in
theorem k_X9_outputAt (v9 : Value) : ev_MK (ev_B0 v9) m_X9_outputAt := ⟨by decide +kernel, ev_dec_all _ _ (by decide +kernel), rfl, Or.inl rfl, ev_mem 2289 rfl rfl⟩
set_option maxRecDepth 100000 in
theorem k_X9_appendInput (v9 : Value) : ev_MK (ev_B0 v9) m_X9_appendInput := ⟨by decide +kernel, ev_dec_all _ _ (by decide +kernel), rfl, Or.inl rfl, ev_mem 2293 rfl rfl⟩
set_option maxRecDepth 100000 in
theorem k_X9_execute (v9 : Value) : ev_MK (ev_B0 v9) m_X9_execute := ⟨by decide +kernel, ev_dec_all _ _ (by decide +kernel), rfl, Or.inl rfl, ev_mem 2297 rfl rfl⟩
set_option maxRecDepth 100000 in
theorem k_X9_isInput (v9 : Value) : ev_MK (ev_B0 v9) m_X9_isInput := ⟨by decide +kernel, ev_dec_all _ _ (by decide +kernel), rfl, Or.inl rfl, ev_mem 2301 rfl rfl⟩
set_option maxRecDepth 100000 in
theorem k_X9_readsCommand (v9 : Value) : ev_MK (ev_B0 v9) m_X9_readsCommand := ⟨by decide +kernel, ev_dec_all _ _ (by decide +kernel), rfl, Or.inl rfl, ev_mem 2305 rfl rfl⟩
set_option maxRecDepth 100000 in
theorem k_X9_now (v9 : Value) : ev_MK (ev_B0 v9) m_X9_now := ⟨by decide +kernel, ev_dec_all _ _ (by decide +kernel), rfl, Or.inl rfl, ev_mem 2309 rfl rfl⟩
set_option maxRecDepth 100000 in
theorem k_X9_isFirst (v9 : Value) : ev_MK (ev_B0 v9) m_X9_isFirst := ⟨by decide +kernel, ev_dec_all _ _ (by decide +kernel), rfl, Or.inl rfl, ev_mem 2312 rfl rfl⟩
set_option maxRecDepth 100000 in
theorem k_X9_readsRest (v9 : Value) : ev_MK (ev_B0 v9) m_X9_readsRest := ⟨by decide +kernel, ev_dec_all _ _ (by decide +kernel), rfl, Or.inl rfl, ev_mem 2316 rfl rfl⟩
set_option maxRecDepth 100000 in
theorem k_X9_readsCat (v9 : Value) : ev_MK (ev_B0 v9) m_X9_readsCat := ⟨by decide +kernel, ev_dec_all _ _ (by decide +kernel), rfl, Or.inl rfl, ev_mem 2320 rfl rfl⟩
set_option maxRecDepth 100000 in
theorem k_X9_isWord (v9 : Value) : ev_MK (ev_B0 v9) m_X9_isWord := ⟨by decide +kernel, ev_dec_all _ _ (by decide +kernel), rfl, Or.inl rfl, ev_mem 2325 rfl rfl⟩
set_option maxRecDepth 100000 in
theorem k_X9_isSign (v9 : Value) : ev_MK (ev_B0 v9) m_X9_isSign := ⟨by decide +kernel, ev_dec_all _ _ (by decide +kernel), rfl, Or.inl rfl, ev_mem 2331 rfl rfl⟩
set_option maxRecDepth 100000 in
theorem k_X9_isNumber (v9 : Value) : ev_MK (ev_B0 v9) m_X9_isNumber := ⟨by decide +kernel, ev_dec_all _ _ (by decide +kernel), rfl, Or.inl rfl, ev_mem 2335 rfl rfl⟩
set_option maxRecDepth 100000 in
theorem k_X9_takes (v9 : Value) : ev_MK (ev_B0 v9) m_X9_takes := ⟨by decide +kernel, ev_dec_all _ _ (by decide +kernel), rfl, Or.inl rfl, ev_mem 2339 rfl rfl⟩
set_option maxRecDepth 100000 in
theorem k_X9_readsM (v9 : Value) : ev_MK (ev_B0 v9) m_X9_readsM := ⟨by decide +kernel, ev_dec_all _ _ (by decide +kernel), rfl, Or.inl rfl, ev_mem 2343 rfl rfl⟩
set_option maxRecDepth 100000 in
theorem k_X9_does (v9 : Value) : ev_MK (ev_B0 v9) m_X9_does := ⟨by decide +kernel, ev_dec_all _ _ (by decide +kernel), rfl, Or.inl rfl, ev_mem 2352 rfl rfl⟩
set_option maxRecDepth 100000 in
theorem k_X9_fails (v9 : Value) : ev_MK (ev_B0 v9) m_X9_fails := ⟨by decide +kernel, ev_dec_all _ _ (by decide +kernel), rfl, Or.inl rfl, ev_mem 2356 rfl rfl⟩
set_option maxRecDepth 100000 in
theorem k_X9_syntaxErrorOffset (v9 : Value) : ev_MK (ev_B0 v9) m_X9_syntaxErrorOffset := ⟨by decide +kernel, ev_dec_all _ _ (by decide +kernel), rfl, Or.inl rfl, ev_mem 2360 rfl rfl⟩
set_option maxRecDepth 100000 in
theorem k_X9_rejectionReason (v9 : Value) : ev_MK (ev_B0 v9) m_X9_rejectionReason := ⟨by decide +kernel, ev_dec_all _ _ (by decide +kernel), rfl, Or.inl rfl, ev_mem 2364 rfl rfl⟩
set_option maxRecDepth 100000 in
theorem k_X9_rejectionDetail (v9 : Value) : ev_MK (ev_B0 v9) m_X9_rejectionDetail := ⟨by decide +kernel, ev_dec_all _ _ (by decide +kernel), rfl, Or.inl rfl, ev_mem 2368 rfl rfl⟩
set_option maxRecDepth 100000 in
theorem k_X9_causeReason (v9 : Value) : ev_MK (ev_B0 v9) m_X9_causeReason := ⟨by decide +kernel, ev_dec_all _ _ (by decide +kernel), rfl, Or.inl rfl, ev_mem 2372 rfl rfl⟩
set_option maxRecDepth 100000 in
theorem k_X9_undo (v9 : Value) : ev_MK (ev_B0 v9) m_X9_undo := ⟨by decide +kernel, ev_dec_all _ _ (by decide +kernel), rfl, Or.inl rfl, ev_mem 2376 rfl rfl⟩
set_option maxRecDepth 100000 in
theorem k_X9_saveSnapshot (v9 : Value) : ev_MK (ev_B0 v9) m_X9_saveSnapshot := ⟨by decide +kernel, ev_dec_all _ _ (by decide +kernel), rfl, Or.inl rfl, ev_mem 2380 rfl rfl⟩
set_option maxRecDepth 100000 in
theorem k_X9_restoreSnapshot (v9 : Value) : ev_MK (ev_B0 v9) m_X9_restoreSnapshot := ⟨by decide +kernel, ev_dec_all _ _ (by decide +kernel), rfl, Or.inl rfl, ev_mem 2384 rfl rfl⟩
set_option maxRecDepth 100000 in
theorem k_tb_law_0 : ∀ q ∈ tb_law_0, decode code q.1 = .ok q.2 := ev_dec_all _ _ (by decide +kernel)
set_option maxRecDepth 100000 in
theorem k_tb_law_1 : ∀ q ∈ tb_law_1, decode code q.1 = .ok q.2 := ev_dec_all _ _ (by decide +kernel)
set_option maxRecDepth 100000 in
theorem k_tb_law_2 : ∀ q ∈ tb_law_2, decode code q.1 = .ok q.2 := ev_dec_all _ _ (by decide +kernel)
set_option maxRecDepth 100000 in
theorem k_tb_law_3 : ∀ q ∈ tb_law_3, decode code q.1 = .ok q.2 := ev_dec_all _ _ (by decide +kernel)
set_option maxRecDepth 100000 in
theorem k_tb_law_4 : ∀ q ∈ tb_law_4, decode code q.1 = .ok q.2 := ev_dec_all _ _ (by decide +kernel)
set_option maxRecDepth 100000 in
theorem k_tb_law_5 : ∀ q ∈ tb_law_5, decode code q.1 = .ok q.2 := ev_dec_all _ _ (by decide +kernel)
set_option maxRecDepth 100000 in
theorem k_tb_law_6 : ∀ q ∈ tb_law_6, decode code q.1 = .ok q.2 := ev_dec_all _ _ (by decide +kernel)
set_option maxRecDepth 100000 in
theorem k_tb_law_7 : ∀ q ∈ tb_law_7, decode code q.1 = .ok q.2 := ev_dec_all _ _ (by decide +kernel)
set_option maxRecDepth 100000 in
theorem k_tb_law_8 : ∀ q ∈ tb_law_8, decode code q.1 = .ok q.2 := ev_dec_all _ _ (by decide +kernel)
set_option maxRecDepth 100000 in
theorem k_tb_law_9 : ∀ q ∈ tb_law_9, decode code q.1 = .ok q.2 := ev_dec_all _ _ (by decide +kernel)
set_option maxRecDepth 100000 in
theorem k_tb_law_10 : ∀ q ∈ tb_law_10, decode code q.1 = .ok q.2 := ev_dec_all _ _ (by decide +kernel)
set_option maxRecDepth 100000 in
theorem k_tb_law_11 : ∀ q ∈ tb_law_11, decode code q.1 = .ok q.2 := ev_dec_all _ _ (by decide +kernel)
set_option maxRecDepth 100000 in
theorem k_tb_law_12 : ∀ q ∈ tb_law_12, decode code q.1 = .ok q.2 := ev_dec_all _ _ (by decide +kernel)
set_option maxRecDepth 100000 in
theorem k_tb_law_13 : ∀ q ∈ tb_law_13, decode code q.1 = .ok q.2 := ev_dec_all _ _ (by decide +kernel)
set_option maxRecDepth 100000 in
theorem k_tb_law_14 : ∀ q ∈ tb_law_14, decode code q.1 = .ok q.2 := ev_dec_all _ _ (by decide +kernel)
set_option maxRecDepth 100000 in
theorem k_tb_law_15 : ∀ q ∈ tb_law_15, decode code q.1 = .ok q.2 := ev_dec_all _ _ (by decide +kernel)
set_option maxRecDepth 100000 in
theorem k_tb_law_16 : ∀ q ∈ tb_law_16, decode code q.1 = .ok q.2 := ev_dec_all _ _ (by decide +kernel)
theorem k_law : ∀ q ∈ tb_law, decode code q.1 = .ok q.2 := fun q hq => by
  simp only [tb_law, List.mem_append] at hq
  rcases hq with h | h | h | h | h | h | h | h | h | h | h | h | h | h | h | h | h
  · exact k_tb_law_0 q h
  · exact k_tb_law_1 q h
  · exact k_tb_law_2 q h
  · exact k_tb_law_3 q h
  · exact k_tb_law_4 q h
  · exact k_tb_law_5 q h
  · exact k_tb_law_6 q h
  · exact k_tb_law_7 q h
  · exact k_tb_law_8 q h
  · exact k_tb_law_9 q h
  · exact k_tb_law_10 q h
  · exact k_tb_law_11 q h
  · exact k_tb_law_12 q h
  · exact k_tb_law_13 q h
  · exact k_tb_law_14 q h
  · exact k_tb_law_15 q h
  · exact k_tb_law_16 q h
