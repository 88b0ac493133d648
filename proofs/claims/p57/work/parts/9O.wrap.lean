/-! THE LAW: numbers out of the script; calls with their exceptions caught; laid by a program (wip/p57/gen/gen9o.py) -/
theorem and_nn (v : Int32) : 0 ≤ v &&& 2147483647 := by
  have hm : (v &&& 2147483647).toBitVec.msb = false := by
    show (v.toBitVec &&& (2147483647 : Int32).toBitVec).msb = false
    rw [BitVec.msb_and, show (2147483647 : Int32).toBitVec.msb = false by decide, Bool.and_false]
  have e : (v &&& 2147483647).toInt = ((v &&& 2147483647).toBitVec.toNat : Int) := BitVec.toInt_eq_toNat_of_msb hm
  rw [Int32.le_iff_toInt_le, e, show (0 : Int32).toInt = 0 by decide]
  omega
def wv (A : Int32 ⊕ Nat) (f : Nat → Int32) : Int32 := match A with
  | .inl v => v
  | .inr E => f E
section
variable {g : tr_g} {d : Nat} {h h1 : ev_AH}
theorem sp_cell {x : Int32} {i : Nat} (hL : hh_L h) (hz : g.1.length < 1000000) (ex : x = Int32.ofNat i) (hi : i < 1000000) : ∃ v, tr_L g d m_L_cell 0 [some (.ref 0), some (.int x), none] [] h (.inl (some (.int v)), h) := by
  subst ex
  by_cases hlt : i < g.1.length
  · exact ⟨_, sg_L_cell_0 hL (fun t => absurd ((ii_le (by omega) (by omega)).mp t) (by omega)) (fun _ => sg_L_cell_8 hL (e0 := rfl) (b0 := hlt) (z0 := by omega) (hr := rfl))⟩
  · exact ⟨_, sg_L_cell_0 hL (fun _ => sg_L_cell_14 hL (hr := rfl)) (fun t => absurd ((ii_lt (by omega) (by omega)).mp t) (by omega))⟩
/-- a number below n -/
theorem sp_in {x y : Int32} {i n : Nat} (hL : hh_L h) (hz : g.1.length < 1000000) (ex : x = Int32.ofNat i) (hi : i < 1000000) (ey : y = Int32.ofNat n) (h0 : 0 < n) (h1 : n < 1000000) : ∃ k, k < n ∧ tr_L g (d + 1) m_L_in 0 [some (.ref 0), some (.int x), some (.int y)] [] h (.inl (some (.int (Int32.ofNat k))), h) := by
  obtain ⟨v, r⟩ := sp_cell (g := g) (d := d) hL hz ex hi
  obtain ⟨k, hk, ek⟩ := ii_of (and_nn v)
  refine ⟨k % n, Nat.mod_lt _ h0, sg_L_in_0 hL (c_0 := r) (nz0 := ?_) (hr := ?_)⟩
  · rw [ey]
    intro e
    exact absurd ((ii_eq (b := 0) (by omega) (by omega)).mp e) (by omega)
  · rw [ek, ey, ii_r hk (by omega)]
def cd_setMirror : Nat → Int32
  | 0 => -900001
  | 1 => -900002
  | _ => -900003
theorem wr_setMirror {x1 x2 : Int32} {A : Int32 ⊕ Nat} (hL : hh_L h) (r : tr_L g d m_X8_setMirror 0 [some (.ref 1000), some (.int x1), some (.int x2), none] [] h (ro A h1)) (hA : ∀ E, A = .inr E → E = 0 ∨ E = 1 ∨ E = 2) : tr_L g (d + 1) m_L_setMirror 0 [some (.ref 1000), some (.int x1), some (.int x2), none] [] h (.inl (some (.int (wv A cd_setMirror))), (ro A h1).2) := by
  cases A with
  | inl v => exact sg_L_setMirror_0 hL (c_0 := r) (hr := rfl)
  | inr E =>
    rcases hA E rfl with rfl | rfl | rfl
    · exact sx_L_setMirror_0_3_0 hL (h1 := h) (v0 := 0) (cx := r) (hr := rfl)
    · exact sx_L_setMirror_0_3_1 hL (h1 := h) (v0 := 0) (cx := r) (hr := rfl)
    · exact sx_L_setMirror_0_3_2 hL (h1 := h) (v0 := 0) (cx := r) (hr := rfl)
def cd_leastEffort : Nat → Int32
  | 0 => -900002
  | 1 => -900001
  | _ => -900003
theorem wr_leastEffort {x1 x2 : Int32} {A : Int32 ⊕ Nat} (hL : hh_L h) (r : tr_L g d m_X8_leastEffort 0 [some (.ref 1000), some (.int x1), some (.int x2), none] [] h (ro A h1)) (hA : ∀ E, A = .inr E → E = 0 ∨ E = 1 ∨ E = 3) : tr_L g (d + 1) m_L_leastEffort 0 [some (.ref 1000), some (.int x1), some (.int x2), none] [] h (.inl (some (.int (wv A cd_leastEffort))), (ro A h1).2) := by
  cases A with
  | inl v => exact sg_L_leastEffort_0 hL (c_0 := r) (hr := rfl)
  | inr E =>
    rcases hA E rfl with rfl | rfl | rfl
    · exact sx_L_leastEffort_0_3_0 hL (h1 := h) (v0 := 0) (cx := r) (hr := rfl)
    · exact sx_L_leastEffort_0_3_1 hL (h1 := h) (v0 := 0) (cx := r) (hr := rfl)
    · exact sx_L_leastEffort_0_3_3 hL (h1 := h) (v0 := 0) (cx := r) (hr := rfl)
def cd_portByLength : Nat → Int32
  | _ => -900001
theorem wr_portByLength {x1 : Int32} {A : Int32 ⊕ Nat} (hL : hh_L h) (r : tr_L g d m_X8_portByLength 0 [some (.ref 1000), some (.int x1), none, none] [] h (ro A h1)) (hA : ∀ E, A = .inr E → E = 3) : tr_L g (d + 1) m_L_portByLength 0 [some (.ref 1000), some (.int x1), none] [] h (.inl (some (.int (wv A cd_portByLength))), (ro A h1).2) := by
  cases A with
  | inl v => exact sg_L_portByLength_0 hL (c_0 := r) (hr := rfl)
  | inr E =>
    rcases hA E rfl with rfl
    · exact sx_L_portByLength_0_2_3 hL (h1 := h) (v0 := 0) (cx := r) (hr := rfl)
def cd_testify : Nat → Int32
  | 1 => -900001
  | _ => -900002
theorem wr_testify {x1 x2 : Int32} {A : Int32 ⊕ Nat} (hL : hh_L h) (r : tr_L g d m_X8_testify 0 [some (.ref 1000), some (.int x1), some (.int x2)] [] h (ro A h1)) (hA : ∀ E, A = .inr E → E = 1 ∨ E = 2) : tr_L g (d + 1) m_L_testify 0 [some (.ref 1000), some (.int x1), some (.int x2), none] [] h (.inl (some (.int (wv A cd_testify))), (ro A h1).2) := by
  cases A with
  | inl v => exact sg_L_testify_0 hL (c_0 := r) (hr := rfl)
  | inr E =>
    rcases hA E rfl with rfl | rfl
    · exact sx_L_testify_0_3_1 hL (h1 := h) (v0 := 0) (cx := r) (hr := rfl)
    · exact sx_L_testify_0_3_2 hL (h1 := h) (v0 := 0) (cx := r) (hr := rfl)
def cd_retry : Nat → Int32
  | _ => -900001
theorem wr_retry {A : Int32 ⊕ Nat} (hL : hh_L h) (r : tr_L g d m_X8_retry 0 [some (.ref 1000)] [] h (ro A h1)) (hA : ∀ E, A = .inr E → E = 2) : tr_L g (d + 1) m_L_retry 0 [some (.ref 1000), none] [] h (.inl (some (.int (wv A cd_retry))), (ro A h1).2) := by
  cases A with
  | inl v => exact sg_L_retry_0 hL (c_0 := r) (hr := rfl)
  | inr E =>
    rcases hA E rfl with rfl
    · exact sx_L_retry_0_1_2 hL (h1 := h) (v0 := 0) (cx := r) (hr := rfl)
def cd_catByHeard : Nat → Int32
  | _ => -900001
theorem wr_catByHeard {x1 : Int32} {A : Int32 ⊕ Nat} (hL : hh_L h) (r : tr_L g d m_X8_catByHeard 0 [some (.ref 1000), some (.int x1), none, none] [] h (ro A h1)) (hA : ∀ E, A = .inr E → E = 3) : tr_L g (d + 1) m_L_catByHeard 0 [some (.ref 1000), some (.int x1), none] [] h (.inl (some (.int (wv A cd_catByHeard))), (ro A h1).2) := by
  cases A with
  | inl v => exact sg_L_catByHeard_0 hL (c_0 := r) (hr := rfl)
  | inr E =>
    rcases hA E rfl with rfl
    · exact sx_L_catByHeard_0_2_3 hL (h1 := h) (v0 := 0) (cx := r) (hr := rfl)
def cd_undo : Nat → Int32
  | _ => -900001
theorem wr_undo {A : Int32 ⊕ Nat} (hL : hh_L h) (r : tr_L g d m_X8_undo 0 [some (.ref 1000)] [] h (ro A h1)) (hA : ∀ E, A = .inr E → E = 5) : tr_L g (d + 1) m_L_undo 0 [some (.ref 1000), none] [] h (.inl (some (.int (wv A cd_undo))), (ro A h1).2) := by
  cases A with
  | inl v => exact sg_L_undo_0 hL (c_0 := r) (hr := rfl)
  | inr E =>
    rcases hA E rfl with rfl
    · exact sx_L_undo_0_1_5 hL (h1 := h) (v0 := 0) (cx := r) (hr := rfl)
def cd_restoreSnapshot : Nat → Int32
  | _ => -900001
theorem wr_restoreSnapshot {A : Int32 ⊕ Nat} (hL : hh_L h) (r : tr_L g d m_X8_restoreSnapshot 0 [some (.ref 1000)] [] h (ro A h1)) (hA : ∀ E, A = .inr E → E = 5) : tr_L g (d + 1) m_L_restoreSnapshot 0 [some (.ref 1000), none] [] h (.inl (some (.int (wv A cd_restoreSnapshot))), (ro A h1).2) := by
  cases A with
  | inl v => exact sg_L_restoreSnapshot_0 hL (c_0 := r) (hr := rfl)
  | inr E =>
    rcases hA E rfl with rfl
    · exact sx_L_restoreSnapshot_0_1_5 hL (h1 := h) (v0 := 0) (cx := r) (hr := rfl)
def cd_deliberate : Nat → Int32
  | _ => -900001
theorem wr_deliberate {A : Int32 ⊕ Nat} (hL : hh_L h) (r : tr_L g d m_X8_deliberate 0 [some (.ref 1000)] [] h (ro A h1)) (hA : ∀ E, A = .inr E → E = 2) : tr_L g (d + 1) m_L_deliberate 0 [some (.ref 1000), none] [] h (.inl (some (.int (wv A cd_deliberate))), (ro A h1).2) := by
  cases A with
  | inl v => exact sg_L_deliberate_0 hL (c_0 := r) (hr := rfl)
  | inr E =>
    rcases hA E rfl with rfl
    · exact sx_L_deliberate_0_1_2 hL (h1 := h) (v0 := 0) (cx := r) (hr := rfl)
def cd_addCat : Nat → Int32
  | 0 => -900001
  | 1 => -900002
  | _ => -900003
theorem wr_addCat {x1 x2 x3 x4 : Int32} {A : Int32 ⊕ Nat} (hL : hh_L h) (r : tr_L g d m_X8_addCat 0 [some (.ref 1000), some (.int x1), some (.int x2), some (.int x3), some (.int x4), none] [] h (ro A h1)) (hA : ∀ E, A = .inr E → E = 0 ∨ E = 1 ∨ E = 2) : tr_L g (d + 1) m_L_addCat 0 [some (.ref 1000), some (.int x1), some (.int x2), some (.int x3), some (.int x4), none] [] h (.inl (some (.int (wv A cd_addCat))), (ro A h1).2) := by
  cases A with
  | inl v => exact sg_L_addCat_0 hL (c_0 := r) (hr := rfl)
  | inr E =>
    rcases hA E rfl with rfl | rfl | rfl
    · exact sx_L_addCat_0_6_0 hL (h1 := h) (v0 := 0) (cx := r) (hr := rfl)
    · exact sx_L_addCat_0_6_1 hL (h1 := h) (v0 := 0) (cx := r) (hr := rfl)
    · exact sx_L_addCat_0_6_2 hL (h1 := h) (v0 := 0) (cx := r) (hr := rfl)
def cd_setMethod : Nat → Int32
  | _ => -900001
theorem wr_setMethod {x1 : Int32} {A : Int32 ⊕ Nat} (hL : hh_L h) (r : tr_L g d m_X8_setMethod 0 [some (.ref 1000), some (.int x1), none] [] h (ro A h1)) (hA : ∀ E, A = .inr E → E = 1) : tr_L g (d + 1) m_L_setMethod 0 [some (.ref 1000), some (.int x1), none] [] h (.inl (some (.int (wv A cd_setMethod))), (ro A h1).2) := by
  cases A with
  | inl v => exact sg_L_setMethod_0 hL (c_0 := r) (hr := rfl)
  | inr E =>
    rcases hA E rfl with rfl
    · exact sx_L_setMethod_0_2_1 hL (h1 := h) (v0 := 0) (cx := r) (hr := rfl)
def cd_execute : Nat → Int32
  | 1 => -900001
  | 2 => -900003
  | _ => -900002
theorem wr_execute {A : Int32 ⊕ Nat} (hL : hh_L h) (r : tr_L g d m_X8_execute 0 [some (.ref 1000), none, none, none, none] [] h (ro A h1)) (hA : ∀ E, A = .inr E → E = 1 ∨ E = 2 ∨ E = 5) : tr_L g (d + 1) m_L_execute 0 [some (.ref 1000), none] [] h (.inl (some (.int (wv A cd_execute))), (ro A h1).2) := by
  cases A with
  | inl v => exact sg_L_execute_0 hL (c_0 := r) (hr := rfl)
  | inr E =>
    rcases hA E rfl with rfl | rfl | rfl
    · exact sx_L_execute_0_1_1 hL (h1 := h) (v0 := 0) (cx := r) (hr := rfl)
    · exact sx_L_execute_0_1_2 hL (h1 := h) (v0 := 0) (cx := r) (hr := rfl)
    · exact sx_L_execute_0_1_5 hL (h1 := h) (v0 := 0) (cx := r) (hr := rfl)
def cd_verdictAt : Nat → Int32
  | _ => -900001
theorem wr_verdictAt {x1 : Int32} {A : Int32 ⊕ Nat} (hL : hh_L h) (r : tr_L g d m_X8_verdictAt 0 [some (.ref 1000), some (.int x1)] [] h (ro A h1)) (hA : ∀ E, A = .inr E → E = 3) : tr_L g (d + 1) m_L_verdictAt 0 [some (.ref 1000), some (.int x1), none] [] h (.inl (some (.int (wv A cd_verdictAt))), (ro A h1).2) := by
  cases A with
  | inl v => exact sg_L_verdictAt_0 hL (c_0 := r) (hr := rfl)
  | inr E =>
    rcases hA E rfl with rfl
    · exact sx_L_verdictAt_0_2_3 hL (h1 := h) (v0 := 0) (cx := r) (hr := rfl)
def cd_catIn : Nat → Int32
  | 0 => -900001
  | _ => -900002
theorem wr_catIn {x1 : Int32} {A : Int32 ⊕ Nat} (hL : hh_L h) (r : tr_L g d m_X8_catIn 0 [some (.ref 1000), some (.int x1), none] [] h (ro A h1)) (hA : ∀ E, A = .inr E → E = 0 ∨ E = 3) : tr_L g (d + 1) m_L_catIn 0 [some (.ref 1000), some (.int x1), none] [] h (.inl (some (.int (wv A cd_catIn))), (ro A h1).2) := by
  cases A with
  | inl v => exact sg_L_catIn_0 hL (c_0 := r) (hr := rfl)
  | inr E =>
    rcases hA E rfl with rfl | rfl
    · exact sx_L_catIn_0_2_0 hL (h1 := h) (v0 := 0) (cx := r) (hr := rfl)
    · exact sx_L_catIn_0_2_3 hL (h1 := h) (v0 := 0) (cx := r) (hr := rfl)
def cd_rayEnd : Nat → Int32
  | 1 => -900001
  | _ => -900002
theorem wr_rayEnd {x1 : Int32} {A : Int32 ⊕ Nat} (hL : hh_L h) (r : tr_L g d m_X8_rayEnd 0 [some (.ref 1000), some (.int x1)] [] h (ro A h1)) (hA : ∀ E, A = .inr E → E = 1 ∨ E = 3) : tr_L g (d + 1) m_L_rayEnd 0 [some (.ref 1000), some (.int x1), none] [] h (.inl (some (.int (wv A cd_rayEnd))), (ro A h1).2) := by
  cases A with
  | inl v => exact sg_L_rayEnd_0 hL (c_0 := r) (hr := rfl)
  | inr E =>
    rcases hA E rfl with rfl | rfl
    · exact sx_L_rayEnd_0_2_1 hL (h1 := h) (v0 := 0) (cx := r) (hr := rfl)
    · exact sx_L_rayEnd_0_2_3 hL (h1 := h) (v0 := 0) (cx := r) (hr := rfl)
def cd_rayCat : Nat → Int32
  | 1 => -900001
  | _ => -900002
theorem wr_rayCat {x1 : Int32} {A : Int32 ⊕ Nat} (hL : hh_L h) (r : tr_L g d m_X8_rayCat 0 [some (.ref 1000), some (.int x1)] [] h (ro A h1)) (hA : ∀ E, A = .inr E → E = 1 ∨ E = 3) : tr_L g (d + 1) m_L_rayCat 0 [some (.ref 1000), some (.int x1), none] [] h (.inl (some (.int (wv A cd_rayCat))), (ro A h1).2) := by
  cases A with
  | inl v => exact sg_L_rayCat_0 hL (c_0 := r) (hr := rfl)
  | inr E =>
    rcases hA E rfl with rfl | rfl
    · exact sx_L_rayCat_0_2_1 hL (h1 := h) (v0 := 0) (cx := r) (hr := rfl)
    · exact sx_L_rayCat_0_2_3 hL (h1 := h) (v0 := 0) (cx := r) (hr := rfl)
def cd_rayEndByJoining : Nat → Int32
  | 1 => -900001
  | _ => -900002
theorem wr_rayEndByJoining {x1 : Int32} {A : Int32 ⊕ Nat} (hL : hh_L h) (r : tr_L g d m_X8_rayEndByJoining 0 [some (.ref 1000), some (.int x1), none] [] h (ro A h1)) (hA : ∀ E, A = .inr E → E = 1 ∨ E = 3) : tr_L g (d + 1) m_L_rayEndByJoining 0 [some (.ref 1000), some (.int x1), none] [] h (.inl (some (.int (wv A cd_rayEndByJoining))), (ro A h1).2) := by
  cases A with
  | inl v => exact sg_L_rayEndByJoining_0 hL (c_0 := r) (hr := rfl)
  | inr E =>
    rcases hA E rfl with rfl | rfl
    · exact sx_L_rayEndByJoining_0_2_1 hL (h1 := h) (v0 := 0) (cx := r) (hr := rfl)
    · exact sx_L_rayEndByJoining_0_2_3 hL (h1 := h) (v0 := 0) (cx := r) (hr := rfl)
def cd_leastEffortByRounds : Nat → Int32
  | 0 => -900002
  | 1 => -900001
  | _ => -900003
theorem wr_leastEffortByRounds {x1 x2 : Int32} {A : Int32 ⊕ Nat} (hL : hh_L h) (r : tr_L g d m_X8_leastEffortByRounds 0 [some (.ref 1000), some (.int x1), some (.int x2), none] [] h (ro A h1)) (hA : ∀ E, A = .inr E → E = 0 ∨ E = 1 ∨ E = 3) : tr_L g (d + 1) m_L_leastEffortByRounds 0 [some (.ref 1000), some (.int x1), some (.int x2), none] [] h (.inl (some (.int (wv A cd_leastEffortByRounds))), (ro A h1).2) := by
  cases A with
  | inl v => exact sg_L_leastEffortByRounds_0 hL (c_0 := r) (hr := rfl)
  | inr E =>
    rcases hA E rfl with rfl | rfl | rfl
    · exact sx_L_leastEffortByRounds_0_3_0 hL (h1 := h) (v0 := 0) (cx := r) (hr := rfl)
    · exact sx_L_leastEffortByRounds_0_3_1 hL (h1 := h) (v0 := 0) (cx := r) (hr := rfl)
    · exact sx_L_leastEffortByRounds_0_3_3 hL (h1 := h) (v0 := 0) (cx := r) (hr := rfl)
def cd_winner : Nat → Int32
  | _ => -900001
theorem wr_roundsWinner {A : Int32 ⊕ Nat} (hL : hh_L h) (r : tr_L g d m_X8_roundsWinner 0 [some (.ref 1000)] [] h (ro A h1)) (hA : ∀ E, A = .inr E → E = 3) : tr_L g (d + 1) m_L_winner 0 [some (.ref 1000), some (.int 114), none] [] h (.inl (some (.int (wv A cd_winner))), (ro A h1).2) := by
  cases A with
  | inl v => exact sg_L_winner_0 hL (fun _ => sg_L_winner_13 hL (fun t => absurd rfl t) (fun _ => sg_L_winner_19 hL (c_0 := r) (hr := rfl))) (fun t => absurd t (by decide))
  | inr E =>
    have := hA E rfl
    subst this
    exact sg_L_winner_0 hL (fun _ => sg_L_winner_13 hL (fun t => absurd rfl t) (fun _ => sx_L_winner_19_20_3 hL (h1 := h) (v0 := 0) (cx := r) (hr := rfl))) (fun t => absurd t (by decide))
theorem wr_strengthWinner {A : Int32 ⊕ Nat} (hL : hh_L h) (r : tr_L g d m_X8_strengthWinner 0 [some (.ref 1000)] [] h (ro A h1)) (hA : ∀ E, A = .inr E → E = 3) : tr_L g (d + 1) m_L_winner 0 [some (.ref 1000), some (.int 115), none] [] h (.inl (some (.int (wv A cd_winner))), (ro A h1).2) := by
  cases A with
  | inl v => exact sg_L_winner_0 hL (fun _ => sg_L_winner_13 hL (fun _ => sg_L_winner_26 hL (c_0 := r) (hr := rfl)) (fun t => absurd t (by decide))) (fun t => absurd t (by decide))
  | inr E =>
    have := hA E rfl
    subst this
    exact sg_L_winner_0 hL (fun _ => sg_L_winner_13 hL (fun _ => sx_L_winner_26_27_3 hL (h1 := h) (v0 := 0) (cx := r) (hr := rfl)) (fun t => absurd t (by decide))) (fun t => absurd t (by decide))
end
/-- the class's state between two calls of the law: court, kept courts, snapshot, a bound of what was counted -/
def st (h : ev_AH) (c : CT) (P : List CT) (S : Option CT) (B : Nat) : Prop := hh_L h ∧ ∃ y l n, CI h c P S y l [] ∧ cv c n B ∧ (∀ e ∈ P, ∃ n, cv e n B) ∧ ∀ e, S = some e → ∃ n, cv e n B
/-- what an act has done: it threw and changed nothing, or the last kept court is the one before -/
def did (c : CT) (P : List CT) (v : Int32) (c' : CT) (P' : List CT) : Prop := (v ≤ -900000 ∧ -900003 ≤ v ∧ c' = c ∧ P' = P) ∨ (tr_ch v ∧ ∃ X, P' = X ++ [c])
theorem did_of {c c' : CT} {P P' : List CT} {B : Nat} {A : Int32 ⊕ Nat} {f : Nat → Int32} (hf : ∀ E, f E ≤ -900000 ∧ -900003 ≤ f E) (k : dk c P B A c' P') : did c P (wv A f) c' P' := by
  rcases k with ⟨E, rfl, e2, e3⟩ | ⟨v, n', rfl, e2, _, e4⟩
  · exact Or.inl ⟨(hf E).1, (hf E).2, e2, e3⟩
  · obtain ⟨X, hX, _⟩ := hi_x (P := P) (c := c)
    exact Or.inr ⟨e2, X, e4.trans hX⟩
section
variable {g : tr_g} {d : Nat} {h h1 : ev_AH} {c c' : CT} {n B : Nat} {P P' : List CT} {S : Option CT} {y : YS} {l t : List Int32}
theorem CI_ro {A : Int32 ⊕ Nat} (w : CI h1 c P S y l t) : CI (ro A h1).2 c P S y l t := by
  cases A with
  | inl v => exact w
  | inr E => exact CI_x w
theorem st_of {A : Int32 ⊕ Nat} (hL : hh_L (ro A h1).2) (w : CI h1 c' P' S y l []) (k : dk c P B A c' P') (q : cv c n B) (p1 : ∀ e ∈ P, ∃ n, cv e n B) (p2 : ∀ e, S = some e → ∃ n, cv e n B) : st (ro A h1).2 c' P' S (B + 60) := by
  have up : ∀ e, (∃ n, cv e n B) → ∃ n, cv e n (B + 60) := fun e ⟨n, z⟩ => ⟨n, cv_B (by omega) z⟩
  rcases k with ⟨E, e1, e2, e3⟩ | ⟨v, n', e1, e2, e3, e4⟩
  · subst e2
    subst e3
    exact ⟨hL, y, l, n, CI_ro w, cv_B (by omega) q, fun e he => up e (p1 e he), fun e he => up e (p2 e he)⟩
  · refine ⟨hL, y, l, n', CI_ro w, e3, fun e he => ?_, fun e he => up e (p2 e he)⟩
    obtain ⟨X, hX, hX2⟩ := hi_x (P := P) (c := c)
    rw [e4, hX] at he
    rcases List.mem_append.mp he with he | he
    · exact up e (p1 e (hX2 e he))
    · rw [List.mem_singleton.mp he]
      exact up c ⟨n, q⟩
theorem st_B {B' : Nat} (hB : B ≤ B') (s : st h c P S B) : st h c P S B' := by
  obtain ⟨hL, y, l, n, w, q, p1, p2⟩ := s
  exact ⟨hL, y, l, n, w, cv_B hB q, fun e he => (p1 e he).elim (fun n z => ⟨n, cv_B hB z⟩), fun e he => (p2 e he).elim (fun n z => ⟨n, cv_B hB z⟩)⟩
theorem ac_addCat {x a b e : Int32} (s : st h c P S B) : ∃ h2 v c2 P2, tr_L g (d + 13) m_L_addCat 0 [some (.ref 1000), some (.int x), some (.int a), some (.int b), some (.int e), none] [] h (.inl (some (.int v)), h2) ∧ hh_M 1 6 h h2 ∧ st h2 c2 P2 S (B + 60) ∧ did c P v c2 P2 := by
  obtain ⟨hL, y, l, n, w, q, p1, p2⟩ := s
  have qq : cQ h c n := ⟨w.1, q.1.1⟩
  obtain ⟨h1, M, r, w1⟩ := op_add (g := g) (d := d) (x := x) (a := a) (b := b) (e := e) hL w qq
  have k := dk_add (P := P) (y := y) (x := x) (a := a) (b := b) (e := e) q
  exact ⟨_, _, _, _, wr_addCat hL r (fun E => ax_add), hh_M_w (ro_M M) (by omega) (by omega), st_of r.2 w1 k q p1 p2, did_of (by intro E; unfold cd_addCat; split <;> decide) k⟩
theorem ac_setMirror {x a : Int32} (s : st h c P S B) (ha : tr_ch a) : ∃ h2 v c2 P2, tr_L g (d + 13) m_L_setMirror 0 [some (.ref 1000), some (.int x), some (.int a), none] [] h (.inl (some (.int v)), h2) ∧ hh_M 1 6 h h2 ∧ st h2 c2 P2 S (B + 60) ∧ did c P v c2 P2 := by
  obtain ⟨hL, y, l, n, w, q, p1, p2⟩ := s
  have qq : cQ h c n := ⟨w.1, q.1.1⟩
  obtain ⟨h1, M, r, w1⟩ := op_mir (g := g) (d := d) (x := x) hL w qq ha
  have k := dk_mir (P := P) (y := y) (x := x) (a := a) q
  exact ⟨_, _, _, _, wr_setMirror hL r (fun E => ax_mir), hh_M_w (ro_M M) (by omega) (by omega), st_of r.2 w1 k q p1 p2, did_of (by intro E; unfold cd_setMirror; split <;> decide) k⟩
theorem ac_testify {x a : Int32} (s : st h c P S B) : ∃ h2 v c2 P2, tr_L g (d + 13) m_L_testify 0 [some (.ref 1000), some (.int x), some (.int a), none] [] h (.inl (some (.int v)), h2) ∧ hh_M 1 6 h h2 ∧ st h2 c2 P2 S (B + 60) ∧ did c P v c2 P2 := by
  obtain ⟨hL, y, l, n, w, q, p1, p2⟩ := s
  have qq : cQ h c n := ⟨w.1, q.1.1⟩
  obtain ⟨h1, M, r, w1⟩ := op_test (g := g) (d := d) (x := x) (a := a) hL w qq
  have k := dk_test (P := P) (y := y) (x := x) (a := a) q
  exact ⟨_, _, _, _, wr_testify hL r (fun E => ax_test), hh_M_w (ro_M M) (by omega) (by omega), st_of r.2 w1 k q p1 p2, did_of (by intro E; unfold cd_testify; split <;> decide) k⟩
theorem ac_setMethod {a : Int32} (s : st h c P S B) (ha : tr_ch a) : ∃ h2 v c2 P2, tr_L g (d + 13) m_L_setMethod 0 [some (.ref 1000), some (.int a), none] [] h (.inl (some (.int v)), h2) ∧ hh_M 1 6 h h2 ∧ st h2 c2 P2 S (B + 60) ∧ did c P v c2 P2 := by
  obtain ⟨hL, y, l, n, w, q, p1, p2⟩ := s
  have qq : cQ h c n := ⟨w.1, q.1.1⟩
  obtain ⟨h1, M, r, w1⟩ := op_meth (g := g) (d := d) hL w qq ha
  have k := dk_meth (P := P) (a := a) q
  exact ⟨_, _, _, _, wr_setMethod hL r (fun E => ax_meth), hh_M_w (ro_M M) (by omega) (by omega), st_of r.2 w1 k q p1 p2, did_of (by intro E; unfold cd_setMethod; split <;> decide) k⟩
theorem ac_deliberate (s : st h c P S B) : ∃ h2 v c2 P2, tr_L g (d + 13) m_L_deliberate 0 [some (.ref 1000), none] [] h (.inl (some (.int v)), h2) ∧ hh_M 1 6 h h2 ∧ st h2 c2 P2 S (B + 60) ∧ did c P v c2 P2 := by
  obtain ⟨hL, y, l, n, w, q, p1, p2⟩ := s
  have qq : cQ h c n := ⟨w.1, q.1.1⟩
  obtain ⟨h1, M, r, w1⟩ := op_delib (g := g) (d := d) hL w qq
  have k := dk_delib (P := P) (y := y) q
  exact ⟨_, _, _, _, wr_deliberate hL r (fun E => ax_delib), hh_M_w (ro_M M) (by omega) (by omega), st_of r.2 w1 k q p1 p2, did_of (by intro E; unfold cd_deliberate; split <;> decide) k⟩
theorem ac_retry (s : st h c P S B) : ∃ h2 v c2 P2, tr_L g (d + 13) m_L_retry 0 [some (.ref 1000), none] [] h (.inl (some (.int v)), h2) ∧ hh_M 1 6 h h2 ∧ st h2 c2 P2 S (B + 60) ∧ did c P v c2 P2 := by
  obtain ⟨hL, y, l, n, w, q, p1, p2⟩ := s
  have qq : cQ h c n := ⟨w.1, q.1.1⟩
  obtain ⟨h1, M, r, w1⟩ := op_retry (g := g) (d := d) hL w qq
  have k := dk_retry (P := P) (y := y) q
  exact ⟨_, _, _, _, wr_retry hL r (fun E => ax_retry), hh_M_w (ro_M M) (by omega) (by omega), st_of r.2 w1 k q p1 p2, did_of (by intro E; unfold cd_retry; split <;> decide) k⟩
/-- a text is typed and carried out -/
theorem ac_execute (hg : ev_cat1 g.2 = true) (hL : hh_L h) (w : CI h c P S y l t) (ht : t.length ≤ 60) (q : cv c n B) (p1 : ∀ e ∈ P, ∃ n, cv e n B) (p2 : ∀ e, S = some e → ∃ n, cv e n B) : ∃ h2 v c2 P2, tr_L g (d + 14) m_L_execute 0 [some (.ref 1000), none] [] h (.inl (some (.int v)), h2) ∧ hh_M 1 6 h h2 ∧ st h2 c2 P2 S (B + 60) ∧ did c P v c2 P2 := by
  have qc := cv_n q
  obtain ⟨h1, M, r, w1⟩ := op_exec (g := g) (d := d) (fun i c => cv c (cn c) (B + i)) (fun i c z => z.1.1) (fun i c m z ok hm => cv_cmd' z ok hm) hL hg ht w qc
  have k := dk_exec (P := P) (y := y) (t := t) qc
  exact ⟨_, _, _, _, wr_execute hL r (fun E => ax_exec), hh_M_w (ro_M M) (by omega) (by omega), st_of r.2 w1 k qc p1 p2, did_of (by intro E; unfold cd_execute; split <;> decide) k⟩
/-- what is undone is as it was -/
theorem ac_undo {X : List CT} {e : CT} (s : st h c (X ++ [e]) S B) : ∃ h2 v, tr_L g (d + 13) m_L_undo 0 [some (.ref 1000), none] [] h (.inl (some (.int v)), h2) ∧ hh_M 1 6 h h2 ∧ st h2 e X S B ∧ 0 ≤ v := by
  obtain ⟨hL, y, l, n, w, q, p1, p2⟩ := s
  obtain ⟨n', qe⟩ := p1 e (List.mem_append.mpr (Or.inr (List.mem_singleton.mpr rfl)))
  obtain ⟨h1, M, r, w1⟩ := op_undo (g := g) (d := d) hL w qe.1.1.2.2.1
  have hX : X.length < 1000 := by
    obtain ⟨o, -, a2, -⟩ := w.2.1
    rw [List.length_append] at a2
    omega
  exact ⟨_, _, wr_undo hL r (fun E z => by cases z), hh_M_w (ro_M M) (by omega) (by omega), ⟨r.2, y, l, n', CI_ro w1, qe, fun e he => p1 e (List.mem_append.mpr (Or.inl he)), p2⟩, ii_nn (by omega)⟩
theorem ac_undo0 (s : st h c [] S B) : ∃ h2, tr_L g (d + 13) m_L_undo 0 [some (.ref 1000), none] [] h (.inl (some (.int (-900001))), h2) ∧ hh_M 1 6 h h2 ∧ st h2 c [] S B := by
  obtain ⟨hL, y, l, n, w, q, p1, p2⟩ := s
  have r := op_undo0 (g := g) (d := d) hL w
  exact ⟨_, wr_undo hL r (fun E z => (Sum.inr.inj z).symm), hh_M_w hh_M_x (by omega) (by omega), ⟨r.2, y, l, n, CI_x w, q, p1, p2⟩⟩
theorem ac_save (s : st h c P S B) : ∃ h2, tr_L g (d + 12) m_X8_saveSnapshot 0 [some (.ref 1000)] [] h (.inl (some (.int (ct_i c 0))), h2) ∧ hh_M 0 0 h h2 ∧ st h2 c P (some c) B := by
  obtain ⟨hL, y, l, n, w, q, p1, p2⟩ := s
  obtain ⟨h1, M, r, w1⟩ := op_save (g := g) (d := d) hL w q.1.1.2.2.1
  exact ⟨h1, r, M, ⟨r.2, y, l, n, w1, q, p1, fun e he => ⟨n, by rw [← Option.some.inj he]; exact q⟩⟩⟩
theorem ac_restore {e : CT} (s : st h c P (some e) B) : ∃ h2, tr_L g (d + 13) m_L_restoreSnapshot 0 [some (.ref 1000), none] [] h (.inl (some (.int (ct_i e 0))), h2) ∧ hh_M 1 6 h h2 ∧ st h2 e [] (some e) B := by
  obtain ⟨hL, y, l, n, w, q, p1, p2⟩ := s
  obtain ⟨n', qe⟩ := p2 e rfl
  obtain ⟨h1, M, r, w1⟩ := op_rest (g := g) (d := d) hL w qe.1.1.2.2.1
  exact ⟨_, wr_restoreSnapshot hL r (fun E z => by cases z), hh_M_w (ro_M M) (by omega) (by omega), ⟨r.2, y, l, n', CI_ro w1, qe, fun e he => (by cases he), p2⟩⟩
end
