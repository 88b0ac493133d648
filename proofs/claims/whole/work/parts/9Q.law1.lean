/-! THE LAW: exceptions of the answers; the wrappers -/
theorem ax_cellOf {c : CT} {n : Nat} {x : Int32} {E : Nat} (h : an_cellOf c n x = .inr E) : E = 0 := by
  unfold an_cellOf at h
  repeat' split at h
  all_goals first | (have h := Sum.inr.inj h; subst h; decide) | cases h
theorem ax_catIn {c : CT} {n : Nat} {x : Int32} {E : Nat} (h : an_catIn c n x = .inr E) : E = 0 ∨ E = 3 := by
  unfold an_catIn at h
  repeat' split at h
  all_goals first | (have h := Sum.inr.inj h; subst h; decide) | cases h
theorem ax_contentOf {c : CT} {x : Int32} {E : Nat} (h : an_contentOf c x = .inr E) : E = 0 := by
  unfold an_contentOf at h
  repeat' split at h
  all_goals first | (have h := Sum.inr.inj h; subst h; decide) | cases h
theorem ax_optionAt {c : CT} {n : Nat} {x : Int32} {z : Int32} {E : Nat} (h : an_optionAt c n x z = .inr E) : E = 0 ∨ E = 1 := by
  unfold an_optionAt at h
  repeat' split at h
  all_goals first | (have h := Sum.inr.inj h; subst h; decide) | cases h
theorem ax_placeOf {c : CT} {n : Nat} {x : Int32} {z : Int32} {E : Nat} (h : an_placeOf c n x z = .inr E) : E = 0 ∨ E = 1 := by
  unfold an_placeOf at h
  repeat' split at h
  all_goals first | (have h := Sum.inr.inj h; subst h; decide) | cases h
theorem ax_heardBy {c : CT} {n : Nat} {x : Int32} {E : Nat} (h : an_heardBy c n x = .inr E) : E = 0 := by
  unfold an_heardBy at h
  repeat' split at h
  all_goals first | (have h := Sum.inr.inj h; subst h; decide) | cases h
theorem ax_rayEnd {c : CT} {x : Int32} {E : Nat} (h : an_rayEnd c x = .inr E) : E = 1 ∨ E = 3 := by
  unfold an_rayEnd at h
  repeat' split at h
  all_goals first | (have h := Sum.inr.inj h; subst h; decide) | cases h
theorem ax_rayJoin {c : CT} {x : Int32} {E : Nat} (h : an_rayJoin c x = .inr E) : E = 1 ∨ E = 3 := by
  unfold an_rayJoin at h
  repeat' split at h
  all_goals first | (have h := Sum.inr.inj h; subst h; decide) | cases h
theorem ax_rayCat {c : CT} {n : Nat} {x : Int32} {E : Nat} (h : an_rayCat c n x = .inr E) : E = 1 ∨ E = 3 := by
  unfold an_rayCat at h
  repeat' split at h
  all_goals first | (have h := Sum.inr.inj h; subst h; decide) | cases h
theorem ax_rayLength {c : CT} {x : Int32} {E : Nat} (h : an_rayLength c x = .inr E) : E = 1 := by
  unfold an_rayLength at h
  repeat' split at h
  all_goals first | (have h := Sum.inr.inj h; subst h; decide) | cases h
theorem ax_rayBounces {c : CT} {x : Int32} {E : Nat} (h : an_rayBounces c x = .inr E) : E = 1 := by
  unfold an_rayBounces at h
  repeat' split at h
  all_goals first | (have h := Sum.inr.inj h; subst h; decide) | cases h
theorem ax_effort {fw : CT → Nat → Nat → Nat} {c : CT} {n : Nat} {x : Int32} {z : Int32} {E : Nat} (h : an_effort fw c n x z = .inr E) : E = 0 ∨ E = 1 ∨ E = 3 := by
  unfold an_effort at h
  repeat' split at h
  all_goals first | (have h := Sum.inr.inj h; subst h; decide) | cases h
theorem ax_portBy {c : CT} {x : Int32} {E : Nat} (h : an_portBy c x = .inr E) : E = 3 := by
  unfold an_portBy at h
  repeat' split at h
  all_goals first | (have h := Sum.inr.inj h; subst h; decide) | cases h
theorem ax_firstVotes {c : CT} {n : Nat} {x : Int32} {E : Nat} (h : an_firstVotes c n x = .inr E) : E = 1 := by
  unfold an_firstVotes at h
  repeat' split at h
  all_goals first | (have h := Sum.inr.inj h; subst h; decide) | cases h
theorem ax_prefer {c : CT} {n : Nat} {x : Int32} {z : Int32} {E : Nat} (h : an_prefer c n x z = .inr E) : E = 1 := by
  unfold an_prefer at h
  repeat' split at h
  all_goals first | (have h := Sum.inr.inj h; subst h; decide) | cases h
theorem ax_pointsOf {c : CT} {n : Nat} {x : Int32} {E : Nat} (h : an_pointsOf c n x = .inr E) : E = 1 := by
  unfold an_pointsOf at h
  repeat' split at h
  all_goals first | (have h := Sum.inr.inj h; subst h; decide) | cases h
theorem ax_win {fw : CT → Nat → Nat} {c : CT} {n : Nat} {E : Nat} (h : an_win fw c n = .inr E) : E = 3 := by
  unfold an_win at h
  repeat' split at h
  all_goals first | (have h := Sum.inr.inj h; subst h; decide) | cases h
theorem ax_rounds {c : CT} {n : Nat} {E : Nat} (h : an_rounds c n = .inr E) : E = 3 := by
  unfold an_rounds at h
  repeat' split at h
  all_goals first | (have h := Sum.inr.inj h; subst h; decide) | cases h
theorem ax_strength {c : CT} {n : Nat} {x : Int32} {z : Int32} {E : Nat} (h : an_strength c n x z = .inr E) : E = 1 := by
  unfold an_strength at h
  repeat' split at h
  all_goals first | (have h := Sum.inr.inj h; subst h; decide) | cases h
theorem ax_tried {c : CT} {n : Nat} {x : Int32} {z : Int32} {E : Nat} (h : an_tried c n x z = .inr E) : E = 1 := by
  unfold an_tried at h
  repeat' split at h
  all_goals first | (have h := Sum.inr.inj h; subst h; decide) | cases h
theorem ax_dominant {c : CT} {n : Nat} {x : Int32} {E : Nat} (h : an_dominant c n x = .inr E) : E = 1 := by
  unfold an_dominant at h
  repeat' split at h
  all_goals first | (have h := Sum.inr.inj h; subst h; decide) | cases h
theorem ax_verdict {c : CT} {x : Int32} {E : Nat} (h : an_verdict c x = .inr E) : E = 3 := by
  unfold an_verdict at h
  repeat' split at h
  all_goals first | (have h := Sum.inr.inj h; subst h; decide) | cases h
theorem ax_catBy {c : CT} {n : Nat} {x : Int32} {E : Nat} (h : an_catBy c n x = .inr E) : E = 3 := by
  unfold an_catBy at h
  repeat' split at h
  all_goals first | (have h := Sum.inr.inj h; subst h; decide) | cases h
theorem ax_add {c : CT} {P : List CT} {y : YS} {n : Nat} {x a b e : Int32} {E : Nat} (h : (do_add c P y n x a b e).1 = .inr E) : E = 0 ∨ E = 1 ∨ E = 2 := by
  unfold do_add at h
  repeat' split at h
  all_goals (try dsimp only at h)
  all_goals first | (have h := Sum.inr.inj h; subst h; decide) | cases h
theorem ax_mir {c : CT} {P : List CT} {y : YS} {n : Nat} {x a : Int32} {E : Nat} (h : (do_mir c P y n x a).1 = .inr E) : E = 0 ∨ E = 1 ∨ E = 2 := by
  unfold do_mir at h
  repeat' split at h
  all_goals (try dsimp only at h)
  all_goals first | (have h := Sum.inr.inj h; subst h; decide) | cases h
theorem ax_test {c : CT} {P : List CT} {y : YS} {n : Nat} {x a : Int32} {E : Nat} (h : (do_test c P y n x a).1 = .inr E) : E = 1 ∨ E = 2 := by
  unfold do_test at h
  repeat' split at h
  all_goals (try dsimp only at h)
  all_goals first | (have h := Sum.inr.inj h; subst h; decide) | cases h
theorem ax_meth {c : CT} {P : List CT} {a : Int32} {E : Nat} (h : (do_meth c P a).1 = .inr E) : E = 1 := by
  unfold do_meth at h
  repeat' split at h
  all_goals (try dsimp only at h)
  all_goals first | (have h := Sum.inr.inj h; subst h; decide) | cases h
theorem ax_delib {c : CT} {P : List CT} {y : YS} {n : Nat} {E : Nat} (h : (do_delib c P y n).1 = .inr E) : E = 2 := by
  unfold do_delib at h
  repeat' split at h
  all_goals (try dsimp only at h)
  all_goals first | (have h := Sum.inr.inj h; subst h; decide) | cases h
theorem ax_retry {c : CT} {P : List CT} {y : YS} {n : Nat} {E : Nat} (h : (do_retry c P y n).1 = .inr E) : E = 2 := by
  unfold do_retry at h
  repeat' split at h
  all_goals (try dsimp only at h)
  all_goals first | (have h := Sum.inr.inj h; subst h; decide) | cases h
theorem ax_app {t : List Int32} {x : Int32} {E : Nat} (h : (do_app t x).1 = .inr E) : E = 1 ∨ E = 5 := by
  unfold do_app at h
  repeat' split at h
  all_goals (try dsimp only at h)
  all_goals first | (have h := Sum.inr.inj h; subst h; decide) | cases h
theorem ax_exec {c : CT} {P : List CT} {y : YS} {t : List Int32} {E : Nat} (h : (do_exec c P y t).1 = .inr E) : E = 1 ∨ E = 2 ∨ E = 5 := by
  unfold do_exec at h
  repeat' split at h
  all_goals (try dsimp only at h)
  all_goals first | (have h := Sum.inr.inj h; subst h; decide) | cases h
theorem ax_row {c : CT} {n : Nat} {x : Int32} {E : Nat} (h : (an_row c n x).1 = .inr E) : E = 0 := by
  unfold an_row at h
  repeat' split at h
  all_goals (try dsimp only at h)
  all_goals first | (have h := Sum.inr.inj h; subst h; decide) | cases h
theorem ax_cat {c : CT} {n : Nat} {x : Int32} {E : Nat} (h : (an_cat c n x).1 = .inr E) : E = 0 := by
  unfold an_cat at h
  repeat' split at h
  all_goals (try dsimp only at h)
  all_goals first | (have h := Sum.inr.inj h; subst h; decide) | cases h
theorem ax_outAt {l : List Int32} {x : Int32} {E : Nat} (h : an_outAt l x = .inr E) : E = 0 := by
  unfold an_outAt at h
  repeat' split at h
  all_goals first | (have h := Sum.inr.inj h; subst h; decide) | cases h
theorem ax_fld {z b v : Int32} {E : Nat} (h : an_fld z b v = .inr E) : E = 3 := by
  unfold an_fld at h
  repeat' split at h
  all_goals first | (have h := Sum.inr.inj h; subst h; decide) | cases h
theorem ax_cause {z v : Int32} {E : Nat} (h : (if z = 6 then (.inl v : Int32 ⊕ Nat) else .inr 3) = .inr E) : E = 3 := by
  repeat' split at h
  all_goals first | (have h := Sum.inr.inj h; subst h; decide) | cases h
theorem ro_L {A : Int32 ⊕ Nat} {h : ev_AH} (hL : hh_L (ro A h).2) : hh_L h := by
  cases A with
  | inl v => exact hL
  | inr E => exact hL
section
variable {g : tr_g} {d : Nat} {h h1 : ev_AH}
theorem wr_cellOf {x1 : Int32} {A : Int32 ⊕ Nat} (hL : hh_L h) (r : tr_L g d m_X8_cellOf 0 [some (.ref 1000), some (.int x1)] [] h (ro A h1)) (hA : ∀ E, A = .inr E → E = 0) : tr_L g (d + 1) m_L_cellOf 0 [some (.ref 1000), some (.int x1), some (.ref 1109), none] [] h (.inl (some (.int (ans A (fun _ => 1)).2)), wH A h1) := by
  cases A with
  | inl v =>
    exact sg_L_cellOf_0 hL r rfl
  | inr E =>
    rcases hA E rfl with rfl
    · exact sx_L_cellOf_0_4_0 (h1 := h) (v0 := 0) hL r rfl
theorem wr_catIn {x1 : Int32} {A : Int32 ⊕ Nat} (hL : hh_L h) (r : tr_L g d m_X8_catIn 0 [some (.ref 1000), some (.int x1), none] [] h (ro A h1)) (hA : ∀ E, A = .inr E → E = 0 ∨ E = 3) : tr_L g (d + 1) m_L_catIn 0 [some (.ref 1000), some (.int x1), some (.ref 1109), none] [] h (.inl (some (.int (ans A cd_catIn).2)), wH A h1) := by
  cases A with
  | inl v =>
    exact sg_L_catIn_0 hL r rfl
  | inr E =>
    rcases hA E rfl with rfl | rfl
    · exact sx_L_catIn_0_4_0 (h1 := h) (v0 := 0) hL r rfl
    · exact sx_L_catIn_0_4_3 (h1 := h) (v0 := 0) hL r rfl
theorem wr_contentOf {x1 : Int32} {A : Int32 ⊕ Nat} (hL : hh_L h) (r : tr_L g d m_X8_contentOf 0 [some (.ref 1000), some (.int x1)] [] h (ro A h1)) (hA : ∀ E, A = .inr E → E = 0) : tr_L g (d + 1) m_L_contentOf 0 [some (.ref 1000), some (.int x1), some (.ref 1109), none] [] h (.inl (some (.int (ans A (fun _ => 1)).2)), wH A h1) := by
  cases A with
  | inl v =>
    exact sg_L_contentOf_0 hL r rfl
  | inr E =>
    rcases hA E rfl with rfl
    · exact sx_L_contentOf_0_4_0 (h1 := h) (v0 := 0) hL r rfl
theorem wr_optionAt {x1 x2 : Int32} {A : Int32 ⊕ Nat} (hL : hh_L h) (r : tr_L g d m_X8_optionAt 0 [some (.ref 1000), some (.int x1), some (.int x2)] [] h (ro A h1)) (hA : ∀ E, A = .inr E → E = 0 ∨ E = 1) : tr_L g (d + 1) m_L_optionAt 0 [some (.ref 1000), some (.int x1), some (.int x2), some (.ref 1109), none] [] h (.inl (some (.int (ans A cd_01).2)), wH A h1) := by
  cases A with
  | inl v =>
    exact sg_L_optionAt_0 hL r rfl
  | inr E =>
    rcases hA E rfl with rfl | rfl
    · exact sx_L_optionAt_0_5_0 (h1 := h) (v0 := 0) hL r rfl
    · exact sx_L_optionAt_0_5_1 (h1 := h) (v0 := 0) hL r rfl
theorem wr_placeOf {x1 x2 : Int32} {A : Int32 ⊕ Nat} (hL : hh_L h) (r : tr_L g d m_X8_placeOf 0 [some (.ref 1000), some (.int x1), some (.int x2)] [] h (ro A h1)) (hA : ∀ E, A = .inr E → E = 0 ∨ E = 1) : tr_L g (d + 1) m_L_placeOf 0 [some (.ref 1000), some (.int x1), some (.int x2), some (.ref 1109), none] [] h (.inl (some (.int (ans A cd_01).2)), wH A h1) := by
  cases A with
  | inl v =>
    exact sg_L_placeOf_0 hL r rfl
  | inr E =>
    rcases hA E rfl with rfl | rfl
    · exact sx_L_placeOf_0_5_0 (h1 := h) (v0 := 0) hL r rfl
    · exact sx_L_placeOf_0_5_1 (h1 := h) (v0 := 0) hL r rfl
theorem wr_heardBy {x1 : Int32} {A : Int32 ⊕ Nat} (hL : hh_L h) (r : tr_L g d m_X8_heardBy 0 [some (.ref 1000), some (.int x1)] [] h (ro A h1)) (hA : ∀ E, A = .inr E → E = 0) : tr_L g (d + 1) m_L_heardBy 0 [some (.ref 1000), some (.int x1), some (.ref 1109), none] [] h (.inl (some (.int (ans A (fun _ => 1)).2)), wH A h1) := by
  cases A with
  | inl v =>
    exact sg_L_heardBy_0 hL r rfl
  | inr E =>
    rcases hA E rfl with rfl
    · exact sx_L_heardBy_0_4_0 (h1 := h) (v0 := 0) hL r rfl
theorem wr_rayEnd {x1 : Int32} {A : Int32 ⊕ Nat} (hL : hh_L h) (r : tr_L g d m_X8_rayEnd 0 [some (.ref 1000), some (.int x1)] [] h (ro A h1)) (hA : ∀ E, A = .inr E → E = 1 ∨ E = 3) : tr_L g (d + 1) m_L_rayEnd 0 [some (.ref 1000), some (.int x1), some (.ref 1109), none] [] h (.inl (some (.int (ans A cd_ray).2)), wH A h1) := by
  cases A with
  | inl v =>
    exact sg_L_rayEnd_0 hL r rfl
  | inr E =>
    rcases hA E rfl with rfl | rfl
    · exact sx_L_rayEnd_0_4_1 (h1 := h) (v0 := 0) hL r rfl
    · exact sx_L_rayEnd_0_4_3 (h1 := h) (v0 := 0) hL r rfl
theorem wr_rayEndByJoining {x1 : Int32} {A : Int32 ⊕ Nat} (hL : hh_L h) (r : tr_L g d m_X8_rayEndByJoining 0 [some (.ref 1000), some (.int x1), none] [] h (ro A h1)) (hA : ∀ E, A = .inr E → E = 1 ∨ E = 3) : tr_L g (d + 1) m_L_rayEndByJoining 0 [some (.ref 1000), some (.int x1), some (.ref 1109), none] [] h (.inl (some (.int (ans A cd_ray).2)), wH A h1) := by
  cases A with
  | inl v =>
    exact sg_L_rayEndByJoining_0 hL r rfl
  | inr E =>
    rcases hA E rfl with rfl | rfl
    · exact sx_L_rayEndByJoining_0_4_1 (h1 := h) (v0 := 0) hL r rfl
    · exact sx_L_rayEndByJoining_0_4_3 (h1 := h) (v0 := 0) hL r rfl
theorem wr_rayCat {x1 : Int32} {A : Int32 ⊕ Nat} (hL : hh_L h) (r : tr_L g d m_X8_rayCat 0 [some (.ref 1000), some (.int x1)] [] h (ro A h1)) (hA : ∀ E, A = .inr E → E = 1 ∨ E = 3) : tr_L g (d + 1) m_L_rayCat 0 [some (.ref 1000), some (.int x1), some (.ref 1109), none] [] h (.inl (some (.int (ans A cd_ray).2)), wH A h1) := by
  cases A with
  | inl v =>
    exact sg_L_rayCat_0 hL r rfl
  | inr E =>
    rcases hA E rfl with rfl | rfl
    · exact sx_L_rayCat_0_4_1 (h1 := h) (v0 := 0) hL r rfl
    · exact sx_L_rayCat_0_4_3 (h1 := h) (v0 := 0) hL r rfl
theorem wr_rayLength {x1 : Int32} {A : Int32 ⊕ Nat} (hL : hh_L h) (r : tr_L g d m_X8_rayLength 0 [some (.ref 1000), some (.int x1)] [] h (ro A h1)) (hA : ∀ E, A = .inr E → E = 1) : tr_L g (d + 1) m_L_rayLength 0 [some (.ref 1000), some (.int x1), some (.ref 1109), none] [] h (.inl (some (.int (ans A cd_ray).2)), wH A h1) := by
  cases A with
  | inl v =>
    exact sg_L_rayLength_0 hL r rfl
  | inr E =>
    rcases hA E rfl with rfl
    · exact sx_L_rayLength_0_4_1 (h1 := h) (v0 := 0) hL r rfl
theorem wr_rayBounces {x1 : Int32} {A : Int32 ⊕ Nat} (hL : hh_L h) (r : tr_L g d m_X8_rayBounces 0 [some (.ref 1000), some (.int x1)] [] h (ro A h1)) (hA : ∀ E, A = .inr E → E = 1) : tr_L g (d + 1) m_L_rayBounces 0 [some (.ref 1000), some (.int x1), some (.ref 1109), none] [] h (.inl (some (.int (ans A cd_ray).2)), wH A h1) := by
  cases A with
  | inl v =>
    exact sg_L_rayBounces_0 hL r rfl
  | inr E =>
    rcases hA E rfl with rfl
    · exact sx_L_rayBounces_0_4_1 (h1 := h) (v0 := 0) hL r rfl
theorem wr_leastEffort {x1 x2 : Int32} {A : Int32 ⊕ Nat} (hL : hh_L h) (r : tr_L g d m_X8_leastEffort 0 [some (.ref 1000), some (.int x1), some (.int x2), none] [] h (ro A h1)) (hA : ∀ E, A = .inr E → E = 0 ∨ E = 1 ∨ E = 3) : tr_L g (d + 1) m_L_leastEffort 0 [some (.ref 1000), some (.int x1), some (.int x2), some (.ref 1109), none] [] h (.inl (some (.int (ans A cd_eff).2)), wH A h1) := by
  cases A with
  | inl v =>
    exact sg_L_leastEffort_0 hL r rfl
  | inr E =>
    rcases hA E rfl with rfl | rfl | rfl
    · exact sx_L_leastEffort_0_5_0 (h1 := h) (v0 := 0) hL r rfl
    · exact sx_L_leastEffort_0_5_1 (h1 := h) (v0 := 0) hL r rfl
    · exact sx_L_leastEffort_0_5_3 (h1 := h) (v0 := 0) hL r rfl
theorem wr_leastEffortByRounds {x1 x2 : Int32} {A : Int32 ⊕ Nat} (hL : hh_L h) (r : tr_L g d m_X8_leastEffortByRounds 0 [some (.ref 1000), some (.int x1), some (.int x2), none] [] h (ro A h1)) (hA : ∀ E, A = .inr E → E = 0 ∨ E = 1 ∨ E = 3) : tr_L g (d + 1) m_L_leastEffortByRounds 0 [some (.ref 1000), some (.int x1), some (.int x2), some (.ref 1109), none] [] h (.inl (some (.int (ans A cd_eff).2)), wH A h1) := by
  cases A with
  | inl v =>
    exact sg_L_leastEffortByRounds_0 hL r rfl
  | inr E =>
    rcases hA E rfl with rfl | rfl | rfl
    · exact sx_L_leastEffortByRounds_0_5_0 (h1 := h) (v0 := 0) hL r rfl
    · exact sx_L_leastEffortByRounds_0_5_1 (h1 := h) (v0 := 0) hL r rfl
    · exact sx_L_leastEffortByRounds_0_5_3 (h1 := h) (v0 := 0) hL r rfl
theorem wr_portByLength {x1 : Int32} {A : Int32 ⊕ Nat} (hL : hh_L h) (r : tr_L g d m_X8_portByLength 0 [some (.ref 1000), some (.int x1), none, none] [] h (ro A h1)) (hA : ∀ E, A = .inr E → E = 3) : tr_L g (d + 1) m_L_portByLength 0 [some (.ref 1000), some (.int x1), some (.ref 1109), none] [] h (.inl (some (.int (ans A (fun _ => 1)).2)), wH A h1) := by
  cases A with
  | inl v =>
    exact sg_L_portByLength_0 hL r rfl
  | inr E =>
    rcases hA E rfl with rfl
    · exact sx_L_portByLength_0_4_3 (h1 := h) (v0 := 0) hL r rfl
theorem wr_firstVotes {x1 : Int32} {A : Int32 ⊕ Nat} (hL : hh_L h) (r : tr_L g d m_X8_firstVotes 0 [some (.ref 1000), some (.int x1)] [] h (ro A h1)) (hA : ∀ E, A = .inr E → E = 1) : tr_L g (d + 1) m_L_firstVotes 0 [some (.ref 1000), some (.int x1), some (.ref 1109), none] [] h (.inl (some (.int (ans A (fun _ => 1)).2)), wH A h1) := by
  cases A with
  | inl v =>
    exact sg_L_firstVotes_0 hL r rfl
  | inr E =>
    rcases hA E rfl with rfl
    · exact sx_L_firstVotes_0_4_1 (h1 := h) (v0 := 0) hL r rfl
theorem wr_prefer {x1 x2 : Int32} {A : Int32 ⊕ Nat} (hL : hh_L h) (r : tr_L g d m_X8_prefer 0 [some (.ref 1000), some (.int x1), some (.int x2)] [] h (ro A h1)) (hA : ∀ E, A = .inr E → E = 1) : tr_L g (d + 1) m_L_prefer 0 [some (.ref 1000), some (.int x1), some (.int x2), some (.ref 1109), none] [] h (.inl (some (.int (ans A (fun _ => 1)).2)), wH A h1) := by
  cases A with
  | inl v =>
    exact sg_L_prefer_0 hL r rfl
  | inr E =>
    rcases hA E rfl with rfl
    · exact sx_L_prefer_0_5_1 (h1 := h) (v0 := 0) hL r rfl
theorem wr_pointsOf {x1 : Int32} {A : Int32 ⊕ Nat} (hL : hh_L h) (r : tr_L g d m_X8_pointsOf 0 [some (.ref 1000), some (.int x1)] [] h (ro A h1)) (hA : ∀ E, A = .inr E → E = 1) : tr_L g (d + 1) m_L_pointsOf 0 [some (.ref 1000), some (.int x1), some (.ref 1109), none] [] h (.inl (some (.int (ans A (fun _ => 1)).2)), wH A h1) := by
  cases A with
  | inl v =>
    exact sg_L_pointsOf_0 hL r rfl
  | inr E =>
    rcases hA E rfl with rfl
    · exact sx_L_pointsOf_0_4_1 (h1 := h) (v0 := 0) hL r rfl
theorem wr_pointsWinner {A : Int32 ⊕ Nat} (hL : hh_L h) (r : tr_L g d m_X8_pointsWinner 0 [some (.ref 1000)] [] h (ro A h1)) (hA : ∀ E, A = .inr E → E = 3) : tr_L g (d + 1) m_L_pointsWinner 0 [some (.ref 1000), some (.ref 1109), none] [] h (.inl (some (.int (ans A (fun _ => 1)).2)), wH A h1) := by
  cases A with
  | inl v =>
    exact sg_L_pointsWinner_0 hL r rfl
  | inr E =>
    rcases hA E rfl with rfl
    · exact sx_L_pointsWinner_0_3_3 (h1 := h) (v0 := 0) hL r rfl
theorem wr_roundsWinner {A : Int32 ⊕ Nat} (hL : hh_L h) (r : tr_L g d m_X8_roundsWinner 0 [some (.ref 1000)] [] h (ro A h1)) (hA : ∀ E, A = .inr E → E = 3) : tr_L g (d + 1) m_L_roundsWinner 0 [some (.ref 1000), some (.ref 1109), none] [] h (.inl (some (.int (ans A (fun _ => 1)).2)), wH A h1) := by
  cases A with
  | inl v =>
    exact sg_L_roundsWinner_0 hL r rfl
  | inr E =>
    rcases hA E rfl with rfl
    · exact sx_L_roundsWinner_0_3_3 (h1 := h) (v0 := 0) hL r rfl
theorem wr_rounds {A : Int32 ⊕ Nat} (hL : hh_L h) (r : tr_L g d m_X8_rounds 0 [some (.ref 1000)] [] h (ro A h1)) (hA : ∀ E, A = .inr E → E = 3) : tr_L g (d + 1) m_L_rounds 0 [some (.ref 1000), some (.ref 1109), none] [] h (.inl (some (.int (ans A (fun _ => 1)).2)), wH A h1) := by
  cases A with
  | inl v =>
    exact sg_L_rounds_0 hL r rfl
  | inr E =>
    rcases hA E rfl with rfl
    · exact sx_L_rounds_0_3_3 (h1 := h) (v0 := 0) hL r rfl
theorem wr_strengthOf {x1 x2 : Int32} {A : Int32 ⊕ Nat} (hL : hh_L h) (r : tr_L g d m_X8_strengthOf 0 [some (.ref 1000), some (.int x1), some (.int x2)] [] h (ro A h1)) (hA : ∀ E, A = .inr E → E = 1) : tr_L g (d + 1) m_L_strengthOf 0 [some (.ref 1000), some (.int x1), some (.int x2), some (.ref 1109), none] [] h (.inl (some (.int (ans A (fun _ => 1)).2)), wH A h1) := by
  cases A with
  | inl v =>
    exact sg_L_strengthOf_0 hL r rfl
  | inr E =>
    rcases hA E rfl with rfl
    · exact sx_L_strengthOf_0_5_1 (h1 := h) (v0 := 0) hL r rfl
theorem wr_strengthByTrying {x1 x2 : Int32} {A : Int32 ⊕ Nat} (hL : hh_L h) (r : tr_L g d m_X8_strengthByTrying 0 [some (.ref 1000), some (.int x1), some (.int x2)] [] h (ro A h1)) (hA : ∀ E, A = .inr E → E = 1) : tr_L g (d + 1) m_L_strengthByTrying 0 [some (.ref 1000), some (.int x1), some (.int x2), some (.ref 1109), none] [] h (.inl (some (.int (ans A (fun _ => 1)).2)), wH A h1) := by
  cases A with
  | inl v =>
    exact sg_L_strengthByTrying_0 hL r rfl
  | inr E =>
    rcases hA E rfl with rfl
    · exact sx_L_strengthByTrying_0_5_1 (h1 := h) (v0 := 0) hL r rfl
theorem wr_strengthWinner {A : Int32 ⊕ Nat} (hL : hh_L h) (r : tr_L g d m_X8_strengthWinner 0 [some (.ref 1000)] [] h (ro A h1)) (hA : ∀ E, A = .inr E → E = 3) : tr_L g (d + 1) m_L_strengthWinner 0 [some (.ref 1000), some (.ref 1109), none] [] h (.inl (some (.int (ans A (fun _ => 1)).2)), wH A h1) := by
  cases A with
  | inl v =>
    exact sg_L_strengthWinner_0 hL r rfl
  | inr E =>
    rcases hA E rfl with rfl
    · exact sx_L_strengthWinner_0_3_3 (h1 := h) (v0 := 0) hL r rfl
theorem wr_isDominant {x1 : Int32} {A : Int32 ⊕ Nat} (hL : hh_L h) (r : tr_L g d m_X8_isDominant 0 [some (.ref 1000), some (.int x1)] [] h (ro A h1)) (hA : ∀ E, A = .inr E → E = 1) (hB : ∀ v, A = .inl v → v = 0 ∨ v = 1) : tr_L g (d + 1) m_L_isDominant 0 [some (.ref 1000), some (.int x1), some (.ref 1109), none] [] h (.inl (some (.int (ans A (fun _ => 1)).2)), wH A h1) := by
  cases A with
  | inl v =>
    rcases hB v rfl with rfl | rfl
    · exact sg_L_isDominant_0 hL r (fun _ => sg_L_isDominant_14 (ro_L r.2) rfl rfl) (fun q => absurd rfl q)
    · exact sg_L_isDominant_0 hL r (fun q => absurd q (by decide)) (fun _ => sg_L_isDominant_10 (ro_L r.2) rfl rfl)
  | inr E =>
    rcases hA E rfl with rfl
    · exact sx_L_isDominant_0_4_1 (h1 := h) (v0 := 0) hL r rfl
theorem wr_verdictAt {x1 : Int32} {A : Int32 ⊕ Nat} (hL : hh_L h) (r : tr_L g d m_X8_verdictAt 0 [some (.ref 1000), some (.int x1)] [] h (ro A h1)) (hA : ∀ E, A = .inr E → E = 3) : tr_L g (d + 1) m_L_verdictAt 0 [some (.ref 1000), some (.int x1), some (.ref 1109), none] [] h (.inl (some (.int (ans A (fun _ => 1)).2)), wH A h1) := by
  cases A with
  | inl v =>
    exact sg_L_verdictAt_0 hL r rfl
  | inr E =>
    rcases hA E rfl with rfl
    · exact sx_L_verdictAt_0_4_3 (h1 := h) (v0 := 0) hL r rfl
theorem wr_catByHeard {x1 : Int32} {A : Int32 ⊕ Nat} (hL : hh_L h) (r : tr_L g d m_X8_catByHeard 0 [some (.ref 1000), some (.int x1), none, none] [] h (ro A h1)) (hA : ∀ E, A = .inr E → E = 3) : tr_L g (d + 1) m_L_catByHeard 0 [some (.ref 1000), some (.int x1), some (.ref 1109), none] [] h (.inl (some (.int (ans A (fun _ => 1)).2)), wH A h1) := by
  cases A with
  | inl v =>
    exact sg_L_catByHeard_0 hL r rfl
  | inr E =>
    rcases hA E rfl with rfl
    · exact sx_L_catByHeard_0_4_3 (h1 := h) (v0 := 0) hL r rfl
theorem wr_addCat {x1 x2 x3 x4 : Int32} {A : Int32 ⊕ Nat} (hL : hh_L h) (r : tr_L g d m_X8_addCat 0 [some (.ref 1000), some (.int x1), some (.int x2), some (.int x3), some (.int x4), none] [] h (ro A h1)) (hA : ∀ E, A = .inr E → E = 0 ∨ E = 1 ∨ E = 2) : tr_L g (d + 1) m_L_addCat 0 [some (.ref 1000), some (.int x1), some (.int x2), some (.int x3), some (.int x4), some (.ref 1109), none] [] h (.inl (some (.int (ans A cd3).2)), wH A h1) := by
  cases A with
  | inl v =>
    exact sg_L_addCat_0 hL r rfl
  | inr E =>
    rcases hA E rfl with rfl | rfl | rfl
    · exact sx_L_addCat_0_9_0 (h1 := h) (v0 := 0) hL r rfl
    · exact sx_L_addCat_0_9_1 (h1 := h) (v0 := 0) hL r rfl
    · exact sx_L_addCat_0_9_2 (h1 := h) (v0 := 0) hL r rfl
theorem wr_setMirror {x1 x2 : Int32} {A : Int32 ⊕ Nat} (hL : hh_L h) (r : tr_L g d m_X8_setMirror 0 [some (.ref 1000), some (.int x1), some (.int x2), none] [] h (ro A h1)) (hA : ∀ E, A = .inr E → E = 0 ∨ E = 1 ∨ E = 2) : tr_L g (d + 1) m_L_setMirror 0 [some (.ref 1000), some (.int x1), some (.int x2), some (.ref 1109), none] [] h (.inl (some (.int (ans A cd3).2)), wH A h1) := by
  cases A with
  | inl v =>
    exact sg_L_setMirror_0 hL r rfl
  | inr E =>
    rcases hA E rfl with rfl | rfl | rfl
    · exact sx_L_setMirror_0_5_0 (h1 := h) (v0 := 0) hL r rfl
    · exact sx_L_setMirror_0_5_1 (h1 := h) (v0 := 0) hL r rfl
    · exact sx_L_setMirror_0_5_2 (h1 := h) (v0 := 0) hL r rfl
theorem wr_testify {x1 x2 : Int32} {A : Int32 ⊕ Nat} (hL : hh_L h) (r : tr_L g d m_X8_testify 0 [some (.ref 1000), some (.int x1), some (.int x2)] [] h (ro A h1)) (hA : ∀ E, A = .inr E → E = 1 ∨ E = 2) : tr_L g (d + 1) m_L_testify 0 [some (.ref 1000), some (.int x1), some (.int x2), some (.ref 1109), none] [] h (.inl (some (.int (ans A cd_ray).2)), wH A h1) := by
  cases A with
  | inl v =>
    exact sg_L_testify_0 hL r rfl
  | inr E =>
    rcases hA E rfl with rfl | rfl
    · exact sx_L_testify_0_5_1 (h1 := h) (v0 := 0) hL r rfl
    · exact sx_L_testify_0_5_2 (h1 := h) (v0 := 0) hL r rfl
theorem wr_setMethod {x1 : Int32} {A : Int32 ⊕ Nat} (hL : hh_L h) (r : tr_L g d m_X8_setMethod 0 [some (.ref 1000), some (.int x1), none] [] h (ro A h1)) (hA : ∀ E, A = .inr E → E = 1) : tr_L g (d + 1) m_L_setMethod 0 [some (.ref 1000), some (.int x1), some (.ref 1109), none] [] h (.inl (some (.int (ans A (fun _ => 1)).2)), wH A h1) := by
  cases A with
  | inl v =>
    exact sg_L_setMethod_0 hL r rfl
  | inr E =>
    rcases hA E rfl with rfl
    · exact sx_L_setMethod_0_4_1 (h1 := h) (v0 := 0) hL r rfl
theorem wr_deliberate {A : Int32 ⊕ Nat} (hL : hh_L h) (r : tr_L g d m_X8_deliberate 0 [some (.ref 1000)] [] h (ro A h1)) (hA : ∀ E, A = .inr E → E = 2) : tr_L g (d + 1) m_L_deliberate 0 [some (.ref 1000), some (.ref 1109), none] [] h (.inl (some (.int (ans A (fun _ => 1)).2)), wH A h1) := by
  cases A with
  | inl v =>
    exact sg_L_deliberate_0 hL r rfl
  | inr E =>
    rcases hA E rfl with rfl
    · exact sx_L_deliberate_0_3_2 (h1 := h) (v0 := 0) hL r rfl
theorem wr_retry {A : Int32 ⊕ Nat} (hL : hh_L h) (r : tr_L g d m_X8_retry 0 [some (.ref 1000)] [] h (ro A h1)) (hA : ∀ E, A = .inr E → E = 2) : tr_L g (d + 1) m_L_retry 0 [some (.ref 1000), some (.ref 1109), none] [] h (.inl (some (.int (ans A (fun _ => 1)).2)), wH A h1) := by
  cases A with
  | inl v =>
    exact sg_L_retry_0 hL r rfl
  | inr E =>
    rcases hA E rfl with rfl
    · exact sx_L_retry_0_3_2 (h1 := h) (v0 := 0) hL r rfl
theorem wr_writeRow {x1 : Int32} {A : Int32 ⊕ Nat} (hL : hh_L h) (r : tr_L g d m_X8_writeRow 0 [some (.ref 1000), some (.int x1), none, none, none] [] h (ro A h1)) (hA : ∀ E, A = .inr E → E = 0) : tr_L g (d + 1) m_L_writeRow 0 [some (.ref 1000), some (.int x1), some (.ref 1109), none] [] h (.inl (some (.int (ans A (fun _ => 1)).2)), wH A h1) := by
  cases A with
  | inl v =>
    exact sg_L_writeRow_0 hL r rfl
  | inr E =>
    rcases hA E rfl with rfl
    · exact sx_L_writeRow_0_4_0 (h1 := h) (v0 := 0) hL r rfl
theorem wr_writeCat {x1 : Int32} {A : Int32 ⊕ Nat} (hL : hh_L h) (r : tr_L g d m_X8_writeCat 0 [some (.ref 1000), some (.int x1), none] [] h (ro A h1)) (hA : ∀ E, A = .inr E → E = 0) : tr_L g (d + 1) m_L_writeCat 0 [some (.ref 1000), some (.int x1), some (.ref 1109), none] [] h (.inl (some (.int (ans A (fun _ => 1)).2)), wH A h1) := by
  cases A with
  | inl v =>
    exact sg_L_writeCat_0 hL r rfl
  | inr E =>
    rcases hA E rfl with rfl
    · exact sx_L_writeCat_0_4_0 (h1 := h) (v0 := 0) hL r rfl
theorem wr_outputAt {x1 : Int32} {A : Int32 ⊕ Nat} (hL : hh_L h) (r : tr_L g d m_X8_outputAt 0 [some (.ref 1000), some (.int x1)] [] h (ro A h1)) (hA : ∀ E, A = .inr E → E = 0) : tr_L g (d + 1) m_L_outputAt 0 [some (.ref 1000), some (.int x1), some (.ref 1109), none] [] h (.inl (some (.int (ans A (fun _ => 1)).2)), wH A h1) := by
  cases A with
  | inl v =>
    exact sg_L_outputAt_0 hL r rfl
  | inr E =>
    rcases hA E rfl with rfl
    · exact sx_L_outputAt_0_4_0 (h1 := h) (v0 := 0) hL r rfl
theorem wr_appendInput {x1 : Int32} {A : Int32 ⊕ Nat} (hL : hh_L h) (r : tr_L g d m_X8_appendInput 0 [some (.ref 1000), some (.int x1)] [] h (ro A h1)) (hA : ∀ E, A = .inr E → E = 1 ∨ E = 5) : tr_L g (d + 1) m_L_appendInput 0 [some (.ref 1000), some (.int x1), some (.ref 1109), none] [] h (.inl (some (.int (ans A cdX).2)), wH A h1) := by
  cases A with
  | inl v =>
    exact sg_L_appendInput_0 hL r rfl
  | inr E =>
    rcases hA E rfl with rfl | rfl
    · exact sx_L_appendInput_0_4_1 (h1 := h) (v0 := 0) hL r rfl
    · exact sx_L_appendInput_0_4_5 (h1 := h) (v0 := 0) hL r rfl
theorem wr_execute {A : Int32 ⊕ Nat} (hL : hh_L h) (r : tr_L g d m_X8_execute 0 [some (.ref 1000), none, none, none, none] [] h (ro A h1)) (hA : ∀ E, A = .inr E → E = 1 ∨ E = 2 ∨ E = 5) : tr_L g (d + 1) m_L_execute 0 [some (.ref 1000), some (.ref 1109), none] [] h (.inl (some (.int (ans A cdX).2)), wH A h1) := by
  cases A with
  | inl v =>
    exact sg_L_execute_0 hL r rfl
  | inr E =>
    rcases hA E rfl with rfl | rfl | rfl
    · exact sx_L_execute_0_3_1 (h1 := h) (v0 := 0) hL r rfl
    · exact sx_L_execute_0_3_2 (h1 := h) (v0 := 0) hL r rfl
    · exact sx_L_execute_0_3_5 (h1 := h) (v0 := 0) hL r rfl
theorem wr_syntaxErrorOffset {A : Int32 ⊕ Nat} (hL : hh_L h) (r : tr_L g d m_X8_syntaxErrorOffset 0 [some (.ref 1000)] [] h (ro A h1)) (hA : ∀ E, A = .inr E → E = 3) : tr_L g (d + 1) m_L_syntaxErrorOffset 0 [some (.ref 1000), some (.ref 1109), none] [] h (.inl (some (.int (ans A (fun _ => 1)).2)), wH A h1) := by
  cases A with
  | inl v =>
    exact sg_L_syntaxErrorOffset_0 hL r rfl
  | inr E =>
    rcases hA E rfl with rfl
    · exact sx_L_syntaxErrorOffset_0_3_3 (h1 := h) (v0 := 0) hL r rfl
theorem wr_rejectionReason {A : Int32 ⊕ Nat} (hL : hh_L h) (r : tr_L g d m_X8_rejectionReason 0 [some (.ref 1000)] [] h (ro A h1)) (hA : ∀ E, A = .inr E → E = 3) : tr_L g (d + 1) m_L_rejectionReason 0 [some (.ref 1000), some (.ref 1109), none] [] h (.inl (some (.int (ans A (fun _ => 1)).2)), wH A h1) := by
  cases A with
  | inl v =>
    exact sg_L_rejectionReason_0 hL r rfl
  | inr E =>
    rcases hA E rfl with rfl
    · exact sx_L_rejectionReason_0_3_3 (h1 := h) (v0 := 0) hL r rfl
theorem wr_rejectionDetail {A : Int32 ⊕ Nat} (hL : hh_L h) (r : tr_L g d m_X8_rejectionDetail 0 [some (.ref 1000)] [] h (ro A h1)) (hA : ∀ E, A = .inr E → E = 3) : tr_L g (d + 1) m_L_rejectionDetail 0 [some (.ref 1000), some (.ref 1109), none] [] h (.inl (some (.int (ans A (fun _ => 1)).2)), wH A h1) := by
  cases A with
  | inl v =>
    exact sg_L_rejectionDetail_0 hL r rfl
  | inr E =>
    rcases hA E rfl with rfl
    · exact sx_L_rejectionDetail_0_3_3 (h1 := h) (v0 := 0) hL r rfl
theorem wr_causeReason {A : Int32 ⊕ Nat} (hL : hh_L h) (r : tr_L g d m_X8_causeReason 0 [some (.ref 1000)] [] h (ro A h1)) (hA : ∀ E, A = .inr E → E = 3) : tr_L g (d + 1) m_L_causeReason 0 [some (.ref 1000), some (.ref 1109), none] [] h (.inl (some (.int (ans A (fun _ => 1)).2)), wH A h1) := by
  cases A with
  | inl v =>
    exact sg_L_causeReason_0 hL r rfl
  | inr E =>
    rcases hA E rfl with rfl
    · exact sx_L_causeReason_0_3_3 (h1 := h) (v0 := 0) hL r rfl
theorem wr_undo {A : Int32 ⊕ Nat} (hL : hh_L h) (r : tr_L g d m_X8_undo 0 [some (.ref 1000)] [] h (ro A h1)) (hA : ∀ E, A = .inr E → E = 5) : tr_L g (d + 1) m_L_undo 0 [some (.ref 1000), some (.ref 1109), none] [] h (.inl (some (.int (ans A (fun _ => 1)).2)), wH A h1) := by
  cases A with
  | inl v =>
    exact sg_L_undo_0 hL r rfl
  | inr E =>
    rcases hA E rfl with rfl
    · exact sx_L_undo_0_3_5 (h1 := h) (v0 := 0) hL r rfl
theorem wr_restoreSnapshot {A : Int32 ⊕ Nat} (hL : hh_L h) (r : tr_L g d m_X8_restoreSnapshot 0 [some (.ref 1000)] [] h (ro A h1)) (hA : ∀ E, A = .inr E → E = 5) : tr_L g (d + 1) m_L_restoreSnapshot 0 [some (.ref 1000), some (.ref 1109), none] [] h (.inl (some (.int (ans A (fun _ => 1)).2)), wH A h1) := by
  cases A with
  | inl v =>
    exact sg_L_restoreSnapshot_0 hL r rfl
  | inr E =>
    rcases hA E rfl with rfl
    · exact sx_L_restoreSnapshot_0_3_5 (h1 := h) (v0 := 0) hL r rfl
end
